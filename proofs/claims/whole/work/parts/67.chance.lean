-- chances
variable {g : FD} {P : PD} {σ σ' : Mem}
theorem one_shl : ∀ n, n < 6 → ((1 : Int32) <<< (nI n &&& 31)) = nI (2 ^ n) := by decide +kernel
theorem bt_hi : ∀ n, n < 6 → ∀ M, M < 2 ^ n → ∀ r, r < 5 → n ≤ r → bt (nI M) r = false := by decide +kernel
theorem bits_bt : ∀ M, M < 32 → nI M = nI (((((0 + if bt (nI M) 0 then 2 ^ 0 else 0) + if bt (nI M) 1 then 2 ^ 1 else 0) + if bt (nI M) 2 then 2 ^ 2 else 0) + if bt (nI M) 3 then 2 ^ 3 else 0) + if bt (nI M) 4 then 2 ^ 4 else 0) := by decide +kernel
theorem mn_M {M : Nat} (h : M < 32) : F_X11_many (nI M) σ = some (nI (cntN (bt (nI M)) 5)) := by
  have h1 := mn_ok (σ := σ) (bt (nI M))
  have h2 : nI M = nI (bits (bt (nI M)) 5) := bits_bt M h
  rw [← h2] at h1
  exact h1
theorem bc_M {M : Nat} (h : M < 32) : F_J6_bitCount_0f7a4 (nI M) σ = some (nI (cntN (bt (nI M)) 5)) := by
  have h1 := bc_ok (σ := σ) (bt (nI M))
  have h2 : nI M = nI (bits (bt (nI M)) 5) := bits_bt M h
  rw [← h2] at h1
  exact h1
theorem pw_ok (a n : Nat) (hn : n ≤ 5) : F_X11_power (nI a) (nI n) σ = some (nI (a ^ n)) := by
  unfold F_X11_power
  refine lpD (fun k (b : Nat) i => F_X11_power_b4 σ k (nI a) (nI n) (nI b) (nI i)) n (fun i => a ^ i) _ ?_ ?_ 4000 (by omega)
  · intro k
    simp only [F_X11_power_b4]
    rw [if_pos (nI_le (Nat.le_refl _) (by omega))]
  · intro k i hi
    simp only [F_X11_power_b4]
    rw [if_neg (nI_ge hi (by omega)), pk_mul, nI_1, Nat.pow_succ]
theorem half {a b s : Nat} (h : b < 2 ^ (s + 1)) (h0 : 0 < a % b) (hb : 0 < b) : b % (a % b) < 2 ^ s := by
  have h1 : a % b < b := Nat.mod_lt _ hb
  rw [Nat.pow_succ] at h
  by_cases e : 2 * (a % b) ≤ b
  · have := Nat.mod_lt b h0; omega
  · rw [Nat.mod_eq_sub_mod (by omega), Nat.mod_eq_of_lt (by omega)]; omega
theorem xgcd : ∀ s n k a b, a < 2 ^ 31 → b < 2 ^ s → s ≤ 30 → 2 * s + k ≤ 63 → 2 * s + 1 ≤ n → F_X10_greatestDivisor_b7 σ n (nI a) (nI b) (nI k) = some (nI (Nat.gcd b a))
  | s, 0, k, a, b, _, _, _, _, hn => by omega
  | 0, n + 1, k, a, b, ha, hb, _, hk, hn => by
    have e : b = 0 := by rw [Nat.pow_zero] at hb; omega
    subst e
    simp only [F_X10_greatestDivisor_b7]
    rw [if_neg (show ¬ (64 : Int32) ≤ nI k from nI_ge (b := 64) (by omega) (by omega)), if_pos (show nI 0 = 0 from rfl), Nat.gcd_zero_left]
  | s + 1, n + 1, k, a, b, ha, hb, hs, hk, hn => by
    have hb31 : b < 2 ^ 31 := Nat.lt_of_lt_of_le hb (Nat.pow_le_pow_right (by decide) (by omega))
    simp only [F_X10_greatestDivisor_b7]
    rw [if_neg (show ¬ (64 : Int32) ≤ nI k from nI_ge (b := 64) (by omega) (by omega))]
    by_cases e : b = 0
    · subst e; rw [if_pos (show nI 0 = 0 from rfl), Nat.gcd_zero_left]
    · rw [if_neg (nI_ne0 (by omega) hb31), rmI_ok ha (by omega) hb31, Option.bind_some, nI_1, Nat.gcd_rec b a]
      obtain ⟨n, rfl⟩ : ∃ q, n = q + 1 := ⟨n - 1, by omega⟩
      have hr : a % b < b := Nat.mod_lt _ (by omega)
      simp only [F_X10_greatestDivisor_b7]
      rw [if_neg (show ¬ (64 : Int32) ≤ nI (k + 1) from nI_ge (b := 64) (by omega) (by omega))]
      by_cases e2 : a % b = 0
      · rw [e2, if_pos (show nI 0 = 0 from rfl), Nat.gcd_zero_left]
      · rw [if_neg (nI_ne0 (by omega) (by omega)), rmI_ok hb31 (by omega) (by omega), Option.bind_some, nI_1, Nat.gcd_rec (a % b) b]
        exact xgcd s n (k + 1 + 1) (a % b) (b % (a % b)) (by omega) (half hb (by omega) (by omega)) (by omega) (by omega) (by omega)
theorem mgcd : ∀ s n a b, a < 2 ^ 31 → b < 2 ^ s → s ≤ 30 → 2 * s + 1 ≤ n → F_X11_divisor_b4 σ n (nI a) (nI b) = some (nI (Nat.gcd b a))
  | s, 0, a, b, _, _, _, hn => by omega
  | 0, n + 1, a, b, ha, hb, _, hn => by
    have e : b = 0 := by rw [Nat.pow_zero] at hb; omega
    subst e
    simp only [F_X11_divisor_b4]
    rw [if_pos (show nI 0 = 0 from rfl), Nat.gcd_zero_left]
  | s + 1, n + 1, a, b, ha, hb, hs, hn => by
    have hb31 : b < 2 ^ 31 := Nat.lt_of_lt_of_le hb (Nat.pow_le_pow_right (by decide) (by omega))
    simp only [F_X11_divisor_b4]
    by_cases e : b = 0
    · subst e; rw [if_pos (show nI 0 = 0 from rfl), Nat.gcd_zero_left]
    · rw [if_neg (nI_ne0 (by omega) hb31), rmI_ok ha (by omega) hb31, Option.bind_some, Nat.gcd_rec b a]
      obtain ⟨n, rfl⟩ : ∃ q, n = q + 1 := ⟨n - 1, by omega⟩
      have hr : a % b < b := Nat.mod_lt _ (by omega)
      simp only [F_X11_divisor_b4]
      by_cases e2 : a % b = 0
      · rw [e2, if_pos (show nI 0 = 0 from rfl), Nat.gcd_zero_left]
      · rw [if_neg (nI_ne0 (by omega) (by omega)), rmI_ok hb31 (by omega) (by omega), Option.bind_some, Nat.gcd_rec (a % b) b]
        exact mgcd s n (a % b) (b % (a % b)) (by omega) (half hb (by omega) (by omega)) (by omega) (by omega)
-- who doesn't come has no horse
theorem ld_out {W : Nat → Nat → Nat} {w : Nat → Nat} {r h q : Nat} (hq : w q = 9) (hr : q ≠ r) : leadW g W w r h q = 9 := by
  unfold leadW upN
  split
  · split
    · simp only [if_neg hr]; split
      · rfl
      · exact hq
    · simp only [if_neg hr]; exact hq
  · exact hq
theorem hR_out (hg : okG g) {A : Nat → Bool} {W : Nat → Nat → Nat} {q : Nat} (hq : A q = false) : ∀ k, (hR g A W k).1 q = 9
  | 0 => rfl
  | k + 1 => by
    have ih := hR_out hg (W := W) hq k
    have hg2 := hg.2.1
    show (stR g A W (hR g A W k)).1 q = 9
    unfold stR
    rcases lf_c (pR g A (hR g A W k)) g.2.1 (by omega) with ⟨i1, i2⟩ | ⟨i1, i2, i3⟩
    · rw [if_pos i1]; exact ih
    · rw [if_neg (by omega)]
      refine ld_out ih (fun e => ?_)
      rw [← e] at i2
      unfold pR at i2
      rw [hq, Bool.false_and] at i2
      cases i2
def pr (A : Nat → Bool) (x i : Nat) : Nat := x ^ (cntN A i) * (10 - x) ^ (i - cntN A i)
theorem pr_s (A : Nat → Bool) (x i : Nat) : pr A x (i + 1) = pr A x i * (if A i then x else 10 - x) := by
  unfold pr
  have h := cntN_le A i
  rw [cntN_s]
  by_cases e : A i = true
  · rw [e]; simp only [if_true]
    rw [show i + 1 - (cntN A i + 1) = i - cntN A i by omega, Nat.pow_succ]
    rw [Nat.mul_assoc, Nat.mul_comm x, ← Nat.mul_assoc]
  · rw [Bool.not_eq_true] at e
    rw [e]; simp only [Bool.false_eq_true, if_false, Nat.add_zero]
    rw [show i + 1 - cntN A i = (i - cntN A i) + 1 by omega, Nat.pow_succ, Nat.mul_assoc]
theorem pr_le (A : Nat → Bool) {x : Nat} (hx : x ≤ 10) : ∀ i, pr A x i ≤ 10 ^ i
  | 0 => by unfold pr; simp [cntN]
  | i + 1 => by
    rw [pr_s, Nat.pow_succ]
    exact Nat.mul_le_mul (pr_le A hx i) (by split <;> omega)
theorem cs_ok (c : CF g σ) (hg : okG g) {M x : Nat} (hx : x ≤ 10) : F_X10_chanceOfSet (nI M) (nI x) σ = some (nI (pr (bt (nI M)) x g.2.1)) := by
  have hg2 := hg.2.1
  unfold F_X10_chanceOfSet
  refine lpD (fun k (b : Nat) i => F_X10_chanceOfSet_b5 σ k (nI M) (nI x) (nI b) (nI i)) g.2.1 (fun i => pr (bt (nI M)) x i) _ ?_ ?_ 4000 (by omega)
  · intro k
    simp only [F_X10_chanceOfSet_b5]
    rw [c.2.1, if_pos (nI_le (Nat.le_refl _) (by omega))]
  · intro k i hi
    simp only [F_X10_chanceOfSet_b5]
    rw [c.2.1, if_neg (nI_ge hi (by omega)), ct_ok _ (by omega), Option.bind_some, nI_1, pr_s, show (10 : Int32) = nI 10 from rfl, pk_sub hx, pk_mul, pk_mul]
    cases bt (nI M) i <;> rfl
def trm (g : FD) (W : Nat → Nat → Nat) (a h x M : Nat) : Nat := if (hR g (bt (nI M)) W 20).1 a = h then pr (bt (nI M)) x g.2.1 else 0
theorem trm_le (hg : okG g) {W : Nat → Nat → Nat} {a h x M : Nat} (hx : x ≤ 10) : trm g W a h x M ≤ 100000 := by
  have h1 := pr_le (bt (nI M)) hx g.2.1
  have h2 : 10 ^ g.2.1 ≤ 10 ^ 5 := Nat.pow_le_pow_right (by decide) hg.2.1
  unfold trm
  split
  · exact Nat.le_trans h1 h2
  · omega
theorem N_le (hg : okG g) : 2 ^ g.2.1 ≤ 32 := Nat.pow_le_pow_right (n := 2) (by decide) hg.2.1
theorem xch {s : Nat → Nat → Nat} (c : CF g σ) (hg : okG g) (t : T12 g s σ) (hs : okS g s) {a h x : Nat} {u : Int32} (ha : a < g.2.1) (hh : h < g.1) (hx : x ≤ 10) : ∃ σ', F_X10_chance_b85 4000 (nI a) (nI h) (nI x) u (nI 0) (nI (10 ^ g.2.1)) (nI 0) σ = some (if u = 0 then nI (10 ^ g.2.1 / Nat.gcd (10 ^ g.2.1) (sumN (trm g (Wo g s) a h x) (2 ^ g.2.1))) else nI (sumN (trm g (Wo g s) a h x) (2 ^ g.2.1) / Nat.gcd (10 ^ g.2.1) (sumN (trm g (Wo g s) a h x) (2 ^ g.2.1))), σ') ∧ Fq (fun _ => true) xI true σ σ' := by
  have hg1 := hg.1
  have hg2 := hg.2.1
  have hN := N_le hg
  have hN0 : 0 < 2 ^ g.2.1 := Nat.pow_pos (by decide)
  have h10 : 10 ^ g.2.1 ≤ 10 ^ 5 := Nat.pow_le_pow_right (by decide) hg2
  have h100 : 0 < 10 ^ g.2.1 := Nat.pow_pos (by decide)
  have hall : ∀ τ, CF g τ → F_X3_allRiders τ = some (nI (2 ^ g.2.1 - 1)) := fun τ q => by
    unfold F_X3_allRiders
    rw [q.2.1, one_shl _ (by omega), show (1 : Int32) = nI 1 from rfl, pk_sub (by omega)]
  refine lp (fun n (b : Nat × Mem) i => F_X10_chance_b85 n (nI a) (nI h) (nI x) u (nI b.1) (nI (10 ^ g.2.1)) (nI i) b.2) (fun o => ∃ σ', o = some (if u = 0 then nI (10 ^ g.2.1 / Nat.gcd (10 ^ g.2.1) (sumN (trm g (Wo g s) a h x) (2 ^ g.2.1))) else nI (sumN (trm g (Wo g s) a h x) (2 ^ g.2.1) / Nat.gcd (10 ^ g.2.1) (sumN (trm g (Wo g s) a h x) (2 ^ g.2.1))), σ') ∧ Fq (fun _ => true) xI true σ σ') (2 ^ g.2.1) (fun i b => b.1 = sumN (trm g (Wo g s) a h x) i ∧ Fq (fun _ => true) xI true σ b.2) ?_ ?_ (2 ^ g.2.1) 0 (0, σ) 4000 (by omega) (by omega) (by omega) ⟨rfl, Fq_r σ⟩
  · intro n ⟨b, q⟩ ⟨p1, p2⟩
    have hS := sum_le (f := trm g (Wo g s) a h x) (c := 100000) (2 ^ g.2.1) (fun r _ => trm_le hg hx)
    have hS2 : 100000 * 2 ^ g.2.1 ≤ 100000 * 32 := Nat.mul_le_mul_left _ hN
    dsimp only at p1 p2
    have hgp : 0 < Nat.gcd (10 ^ g.2.1) b := Nat.gcd_pos_of_pos_left _ h100
    have hgl : Nat.gcd (10 ^ g.2.1) b ≤ 10 ^ g.2.1 := Nat.gcd_le_left _ h100
    have hmax : (if (1 : Int32) < nI (Nat.gcd (10 ^ g.2.1) b) then nI (Nat.gcd (10 ^ g.2.1) b) else (1 : Int32)) = nI (Nat.gcd (10 ^ g.2.1) b) := by
      by_cases h5 : Nat.gcd (10 ^ g.2.1) b = 1
      · rw [h5]; rfl
      · rw [if_pos (show (1 : Int32) < nI (Nat.gcd (10 ^ g.2.1) b) from nI_lt (a := 1) (by omega) (by omega))]
    refine ⟨q, ?_, p2⟩
    simp only [F_X10_chance_b85]
    unfold F_X10_greatestDivisor
    rw [hall q (CF_fr c p2), Option.bind_some, if_pos (nI_lt (by omega) (by omega)), show (0 : Int32) = nI 0 from rfl, xgcd 17 4000 0 b (10 ^ g.2.1) (by omega) (by omega) (by omega) (by omega) (by omega), Option.bind_some, hmax, dv_ok (by omega) hgp (by omega), dv_ok (by omega) hgp (by omega), Option.bind_some, Option.bind_some, ← p1]
    by_cases hu : u = nI 0
    · rw [if_pos hu, if_pos hu]
    · rw [if_neg hu, if_neg hu]
  · intro n ⟨b, q⟩ i hi ⟨p1, p2⟩
    dsimp only at p1 p2
    have c' := CF_fr c p2
    have t' : T12 g s q := by unfold T12; rw [p2.2.1 12 rfl]; exact t
    have hE : F_X10_chance_b85 (n + 1) (nI a) (nI h) (nI x) u (nI b) (nI (10 ^ g.2.1)) (nI i) q = (if bI (bt (nI i) a) = 0 then F_X10_chance_b85 n (nI a) (nI h) (nI x) u (nI b) (nI (10 ^ g.2.1)) (nI (i + 1)) q else Option.bind (F_X4_holdByRiders (nI i) q) fun σ9 => Option.bind (F_X7_horseOf 17 (nI a) σ9) fun q10 => if q10 = nI h then Option.bind (F_X10_chanceOfSet (nI i) (nI x) σ9) fun q11 => F_X10_chance_b85 n (nI a) (nI h) (nI x) u (nI b + q11) (nI (10 ^ g.2.1)) (nI (i + 1)) σ9 else F_X10_chance_b85 n (nI a) (nI h) (nI x) u (nI b) (nI (10 ^ g.2.1)) (nI (i + 1)) σ9) := by
      simp only [F_X10_chance_b85]
      rw [hall q c', Option.bind_some, if_neg (nI_nlt (by omega) (by omega)), ct_ok _ (by omega), Option.bind_some]
      simp only [nI_1]
    by_cases e : bt (nI i) a = true
    · obtain ⟨σ3, l1, l2, l3⟩ := xhr_ok (x := nI i) c' hg t' hs
      have ok := (hR_ok hg (bt (nI i)) (Wo g s) 20).1
      have hv := okY_v ok (r := a) (by omega)
      refine .inr ⟨(sumN (trm g (Wo g s) a h x) (i + 1), σ3), ⟨rfl, Fq_t p2 l2⟩, ?_⟩
      rw [hE, e, if_neg (by decide), l1, Option.bind_some, hof_ok (by omega) l3 (by omega), Option.bind_some, p1]
      show _ = F_X10_chance_b85 n (nI a) (nI h) (nI x) u (nI (sumN (trm g (Wo g s) a h x) i + trm g (Wo g s) a h x i)) (nI (10 ^ g.2.1)) (nI (i + 1)) σ3
      unfold trm
      by_cases e2 : (hR g (bt (nI i)) (Wo g s) 20).1 a = h
      · rw [if_pos (by rw [hI_e (by omega) (by omega)]; exact e2), cs_ok (CF_fr c' l2) hg hx, Option.bind_some, nI_add, if_pos e2]
      · rw [if_neg (by rw [hI_e (by omega) (by omega)]; exact e2), if_neg e2]; rfl
    · rw [Bool.not_eq_true] at e
      refine .inr ⟨(sumN (trm g (Wo g s) a h x) (i + 1), q), ⟨rfl, p2⟩, ?_⟩
      rw [hE, e, if_pos (show bI false = 0 from rfl), p1]
      show _ = F_X10_chance_b85 n (nI a) (nI h) (nI x) u (nI (sumN (trm g (Wo g s) a h x) i + trm g (Wo g s) a h x i)) (nI (10 ^ g.2.1)) (nI (i + 1)) q
      unfold trm
      rw [if_neg (by rw [hR_out hg e]; omega)]; rfl
theorem mch {d xx : Nat → Nat} (m : MF g σ) (hg : okG g) (e0 : MD d xx σ) {a h x : Nat} {u : Int32} (ha : a < g.2.1) (hh : h < g.1) (hx : x ≤ 10) : ∃ σ', F_X11_chance_b44 4000 (nI a) (nI h) (nI x) u (nI 0) (nI 0) σ = some (if u = 0 then nI (10 ^ g.2.1 / Nat.gcd (10 ^ g.2.1) (sumN (trm g (Wo g (sh g d xx)) a h x) (2 ^ g.2.1))) else nI (sumN (trm g (Wo g (sh g d xx)) a h x) (2 ^ g.2.1) / Nat.gcd (10 ^ g.2.1) (sumN (trm g (Wo g (sh g d xx)) a h x) (2 ^ g.2.1))), σ') ∧ Fq yI yA true σ σ' := by
  have hg1 := hg.1
  have hg2 := hg.2.1
  have hN := N_le hg
  have hN0 : 0 < 2 ^ g.2.1 := Nat.pow_pos (by decide)
  have h10 : 10 ^ g.2.1 ≤ 10 ^ 5 := Nat.pow_le_pow_right (by decide) hg2
  have h100 : 0 < 10 ^ g.2.1 := Nat.pow_pos (by decide)
  refine lp (fun n (b : Nat × Mem) i => F_X11_chance_b44 n (nI a) (nI h) (nI x) u (nI b.1) (nI i) b.2) (fun o => ∃ σ', o = some (if u = 0 then nI (10 ^ g.2.1 / Nat.gcd (10 ^ g.2.1) (sumN (trm g (Wo g (sh g d xx)) a h x) (2 ^ g.2.1))) else nI (sumN (trm g (Wo g (sh g d xx)) a h x) (2 ^ g.2.1) / Nat.gcd (10 ^ g.2.1) (sumN (trm g (Wo g (sh g d xx)) a h x) (2 ^ g.2.1))), σ') ∧ Fq yI yA true σ σ') (2 ^ g.2.1) (fun i b => b.1 = sumN (trm g (Wo g (sh g d xx)) a h x) i ∧ Fq yI yA true σ b.2) ?_ ?_ (2 ^ g.2.1) 0 (0, σ) 4000 (by omega) (by omega) (by omega) ⟨rfl, Fq_r σ⟩
  · intro n ⟨b, q⟩ ⟨p1, p2⟩
    have hS := sum_le (f := trm g (Wo g (sh g d xx)) a h x) (c := 100000) (2 ^ g.2.1) (fun r _ => trm_le hg hx)
    have hS2 : 100000 * 2 ^ g.2.1 ≤ 100000 * 32 := Nat.mul_le_mul_left _ hN
    dsimp only at p1 p2
    have hgp : 0 < Nat.gcd (10 ^ g.2.1) b := Nat.gcd_pos_of_pos_left _ h100
    have hgl : Nat.gcd (10 ^ g.2.1) b ≤ 10 ^ g.2.1 := Nat.gcd_le_left _ h100
    have m' := MF_fr m p2
    refine ⟨q, ?_, p2⟩
    simp only [F_X11_chance_b44]
    unfold F_X11_divisor
    rw [m'.2.1, one_shl _ (by omega), if_pos (nI_le (Nat.le_refl _) (by omega)), show (10 : Int32) = nI 10 from rfl, show (0 : Int32) = nI 0 from rfl, pw_ok 10 g.2.1 hg2, Option.bind_some, mgcd 17 4000 b (10 ^ g.2.1) (by omega) (by omega) (by omega) (by omega), Option.bind_some, dv_ok (by omega) hgp (by omega), dv_ok (by omega) hgp (by omega), Option.bind_some, Option.bind_some, ← p1]
    by_cases hu : u = nI 0
    · rw [if_pos hu, if_pos hu]
    · rw [if_neg hu, if_neg hu]
  · intro n ⟨b, q⟩ i hi ⟨p1, p2⟩
    dsimp only at p1 p2
    have m' := MF_fr m p2
    have e' := md_y e0 p2
    obtain ⟨σ3, l1, l2, l3⟩ := mhr_ok (x := nI i) m' hg e'
    have m3 := MF_fr m' l2
    have ok := (hR_ok hg (bt (nI i)) (Wo g (sh g d xx)) 20).1
    have hv := okY_v ok (r := a) (by omega)
    have hcn : cntN (bt (nI i)) 5 = cntN (bt (nI i)) g.2.1 := cntN_ext hg2 (fun r h1 h2 => bt_hi g.2.1 (by omega) i hi r h2 h1)
    have hcl := cntN_le (bt (nI i)) g.2.1
    refine .inr ⟨(sumN (trm g (Wo g (sh g d xx)) a h x) (i + 1), σ3), ⟨rfl, Fq_t p2 l2⟩, ?_⟩
    simp only [F_X11_chance_b44]
    rw [m'.2.1, one_shl _ (by omega), if_neg (nI_ge hi (by omega)), l1, Option.bind_some, rd_63 (by omega), l3 a (by omega), Option.bind_some, p1, nI_1]
    show _ = F_X11_chance_b44 n (nI a) (nI h) (nI x) u (nI (sumN (trm g (Wo g (sh g d xx)) a h x) i + trm g (Wo g (sh g d xx)) a h x i)) (nI (i + 1)) σ3
    unfold trm
    by_cases e2 : (hR g (bt (nI i)) (Wo g (sh g d xx)) 20).1 a = h
    · rw [if_pos (by rw [hI_e (by omega) (by omega)]; exact e2), if_pos e2, mn_M (by omega), Option.bind_some, hcn, pw_ok _ _ (by omega), Option.bind_some, Option.bind_some, m3.2.1, show (10 : Int32) = nI 10 from rfl, pk_sub hx, pk_sub hcl, pw_ok _ _ (by omega), Option.bind_some, pk_mul, nI_add]
      rfl
    · rw [if_neg (by rw [hI_e (by omega) (by omega)]; exact e2), if_neg e2, show (0 : Int32) = nI 0 from rfl, nI_add]
theorem x57 (c : CF g σ) (hg : okG g) {a h x u : Int32} : F_X10_chance_b57 4000 a h x u (nI 0) (nI 1) (nI 0) σ = F_X10_chance_b85 4000 a h x u (nI 0) (nI (10 ^ g.2.1)) (nI 0) σ := by
  have hg2 := hg.2.1
  refine lpD (fun k (b : Nat) i => F_X10_chance_b57 k a h x u (nI 0) (nI b) (nI i) σ) g.2.1 (fun i => 10 ^ i) _ ?_ ?_ 4000 (by omega)
  · intro k
    simp only [F_X10_chance_b57]
    rw [c.2.1, if_pos (nI_le (Nat.le_refl _) (by omega))]; rfl
  · intro k i hi
    simp only [F_X10_chance_b57]
    rw [c.2.1, if_neg (nI_ge hi (by omega)), show (10 : Int32) = nI 10 from rfl, pk_mul, nI_1, Nat.pow_succ]
theorem st_chance : Step_chance Inv := by
  intro a b v u σ hu hI0
  obtain ⟨g, P, R⟩ := id hI0
  obtain ⟨hg, hP, c, d, e, i, j, k, l, m, z⟩ := id R
  have I20 := Inv_fr hI0 (fr20 σ 0)
  have d2 : MF g (sI σ 20 0) := MF_20 d 0
  rcases rider_c hg a with ⟨x, hx, rfl⟩ | ⟨h1, h2⟩
  · rcases horse_c hg b with ⟨y, hy, rfl⟩ | ⟨h1, h2⟩
    · rcases inN v (n := 10) (by omega) with ⟨t, t1, rfl, t2⟩ | ⟨t1, t2⟩
      · obtain ⟨σ1, w1, w2, w3⟩ := weigh0 R
        have R1 := Rel_fr R w2
        obtain ⟨σ2, q1, q2⟩ := xch (u := u) R1.2.2.1 hg w3 (oS_P g P) hx hy t1
        have R2 := Rel_fr R1 (Fr_x q2)
        have R3 := R_20 R2
        obtain ⟨σ4, q3, q4⟩ := mch (u := u) R3.2.2.2.1 hg (md_R R3) hx hy t1
        have R4 := Rel_fr R3 (Fr_y q4)
        refine ⟨(if u = 0 then nI (10 ^ g.2.1 / Nat.gcd (10 ^ g.2.1) (sumN (trm g (Wo g (sP g P)) x y t) (2 ^ g.2.1))) else nI (sumN (trm g (Wo g (sP g P)) x y t) (2 ^ g.2.1) / Nat.gcd (10 ^ g.2.1) (sumN (trm g (Wo g (sP g P)) x y t) (2 ^ g.2.1)))), σ2, σ4, ?_, ?_, g, P, R4⟩
        · unfold F_X10_chance
          rw [hasR_1 c hg hx, Option.bind_some, if_neg (by decide), hasH_1 c hg hy, Option.bind_some, if_neg (by decide), if_neg (nI_pos (by omega)), if_pos (show nI t ≤ (10 : Int32) from nI_le (b := 10) t1 (by omega)), w1, Option.bind_some, show (0 : Int32) = nI 0 from rfl, show (1 : Int32) = nI 1 from rfl, x57 R1.2.2.1 hg, q1]
          rfl
        · unfold F_X11_chance
          rw [show stI σ2 20 0 = some (sI σ2 20 0) from rfl, Option.bind_some, noR_1 R3.2.2.2.1 hg hx, Option.bind_some, if_pos rfl, noH_1 R3.2.2.2.1 hg hy, Option.bind_some, if_pos rfl, L_0, show (10 : Int64) = (nI 10).toInt64 from rfl, t2, Option.bind_some, if_neg (by decide)]
          exact q3
      · refine ⟨-2, σ, sI σ 20 0, ?_, ?_, I20⟩
        · unfold F_X10_chance
          rw [hasR_1 c hg hx, Option.bind_some, if_neg (by decide), hasH_1 c hg hy, Option.bind_some, if_neg (by decide)]
          by_cases e3 : v < 0
          · rw [if_pos e3]
          · rw [if_neg e3, if_neg]
            rcases t1 with t1 | t1
            · exact absurd t1 e3
            · intro h3
              rw [Int32.le_iff_toInt_le] at t1 h3
              have q1 : (nI (10 + 1)).toInt = 11 := rfl
              have q2 : (10 : Int32).toInt = 10 := rfl
              omega
        · unfold F_X11_chance
          rw [show stI σ 20 0 = some (sI σ 20 0) from rfl, Option.bind_some, noR_1 d2 hg hx, Option.bind_some, if_pos rfl, noH_1 d2 hg hy, Option.bind_some, if_pos rfl, L_0, show (10 : Int64) = (nI 10).toInt64 from rfl, t2]; rfl
    · refine ⟨-1, σ, sI σ 20 0, ?_, ?_, I20⟩
      · unfold F_X10_chance; rw [hasR_1 c hg hx, Option.bind_some, if_neg (by decide), h1 σ c]; rfl
      · unfold F_X11_chance; rw [show stI σ 20 0 = some (sI σ 20 0) from rfl, Option.bind_some, noR_1 d2 hg hx, Option.bind_some, if_pos rfl, h2 _ d2]; rfl
  · refine ⟨-1, σ, sI σ 20 0, ?_, ?_, I20⟩
    · unfold F_X10_chance; rw [h1 σ c]; rfl
    · unfold F_X11_chance; rw [show stI σ 20 0 = some (sI σ 20 0) from rfl, Option.bind_some, h2 _ d2]; rfl
