-- saddles
variable {g : FD} {P : PD} {σ σ' : Mem}
def alB2 (p : Nat → Bool) : Nat → Bool
  | 0 => true
  | n + 1 => alB2 p n && p n
theorem al_f {p : Nat → Bool} {i : Nat} (h : p i = false) : ∀ n, i < n → alB2 p n = false
  | 0, hn => absurd hn (Nat.not_lt_zero _)
  | n + 1, hn => by
    show (alB2 p n && p n) = false
    by_cases e : i = n
    · subst e; rw [h, Bool.and_false]
    · rw [al_f h n (by omega), Bool.false_and]
theorem al_t {p : Nat → Bool} : ∀ n, (∀ i, i < n → p i = true) → alB2 p n = true
  | 0, _ => rfl
  | n + 1, h => by
    show (alB2 p n && p n) = true
    rw [al_t n (fun i hi => h i (by omega)), h n (by omega)]; rfl
def swB (g : FD) (W : Nat → Nat → Nat) (h M r : Nat) : Bool := !bt (nI M) r || enB g W h r
def stN (g : FD) (t M n : Nat) : Nat := sumN (fun r => if bt (nI M) r then g.2.2 (7 + t) r else 0) n
def sdB (g : FD) (W : Nat → Nat → Nat) (h t v M : Nat) : Bool := decide (cntN (bt (nI M)) 5 ≤ g.2.2 0 h) && alB2 (swB g W h M) g.2.1 && decide (stN g t M g.2.1 = v)
def sdA (g : FD) (W : Nat → Nat → Nat) (h t v : Nat) : Nat → Int32
  | 0 => nI (2 ^ g.2.1 - 1)
  | M + 1 => if sdB g W h t v M then sdA g W h t v M &&& nI M else sdA g W h t v M
def sdR (g : FD) (W : Nat → Nat → Nat) (h t v : Nat) (u : Int32) : Int32 := if u = 0 then nI (cntN (sdB g W h t v) (2 ^ g.2.1)) else if nI (cntN (sdB g W h t v) (2 ^ g.2.1)) = 0 then -9 else sdA g W h t v (2 ^ g.2.1)
theorem stN_le (hg : okG g) {t M : Nat} (ht : t < 3) : ∀ n, n ≤ g.2.1 → stN g t M n ≤ 9 * n
  | 0, _ => Nat.le_refl 0
  | n + 1, hn => by
    have ih := stN_le hg (M := M) ht n (by omega)
    have h := hg.2.2.2 n (by omega)
    have h9 : g.2.2 (7 + t) n ≤ 9 := by rcases t with _|_|_|t <;> first | exact h.1 | exact h.2.1 | exact h.2.2.1 | omega
    show stN g t M n + (if bt (nI M) n then g.2.2 (7 + t) n else 0) ≤ 9 * (n + 1)
    split <;> omega
theorem cw_ok {s : Nat → Nat → Nat} (c : CF g σ) (hg : okG g) (t : T12 g s σ) (hs : okS g s) {h M : Nat} (hh : h < g.1) (hM : M < 32) : F_X10_couldWear (nI M) (nI h) σ = some (bI (decide (cntN (bt (nI M)) 5 ≤ g.2.2 0 h) && alB2 (swB g (Wo g s) h M) g.2.1)) := by
  have hg1 := hg.1
  have hg2 := hg.2.1
  have hk := (hg.2.2.1 h hh).2.1
  have hc := cntN_le (bt (nI M)) 5
  unfold F_X10_couldWear
  rw [bc_M hM, Option.bind_some, at_1 (by omega), cf_k c hh, Option.bind_some]
  by_cases e : cntN (bt (nI M)) 5 ≤ g.2.2 0 h
  · rw [if_pos (nI_le e (by omega)), decide_eq_true e, Bool.true_and]
    refine lp (fun n (a : Unit) i => F_X10_couldWear_b22 σ n (nI M) (nI h) (nI i)) (fun o => o = some (bI (alB2 (swB g (Wo g s) h M) g.2.1))) g.2.1 (fun i _ => ∀ j, j < i → swB g (Wo g s) h M j = true) ?_ ?_ g.2.1 0 () 4000 (by omega) (by omega) (by omega) (fun j hj => absurd hj (Nat.not_lt_zero _))
    · intro n _ hp
      simp only [F_X10_couldWear_b22]
      rw [c.2.1, if_pos (nI_le (Nat.le_refl _) (by omega)), al_t _ hp]; rfl
    · intro n _ i hi hp
      have hE : F_X10_couldWear_b22 σ (n + 1) (nI M) (nI h) (nI i) = (if bI (bt (nI M) i) = 0 then F_X10_couldWear_b22 σ n (nI M) (nI h) (nI (i + 1)) else if bI (enB g (Wo g s) h i) = 0 then some 0 else F_X10_couldWear_b22 σ n (nI M) (nI h) (nI (i + 1))) := by
        simp only [F_X10_couldWear_b22]
        rw [c.2.1, if_neg (nI_ge hi (by omega)), ct_ok _ (by omega), Option.bind_some, en_ok t c hg hs hh hi, Option.bind_some, nI_1]
      by_cases e1 : swB g (Wo g s) h M i = true
      · refine .inr ⟨(), fun j hj => ?_, ?_⟩
        · by_cases ej : j = i
          · rw [ej]; exact e1
          · exact hp j (by omega)
        · rw [hE]
          unfold swB at e1
          revert e1
          cases bt (nI M) i <;> cases enB g (Wo g s) h i <;> intro e1 <;> first | rfl | cases e1
      · rw [Bool.not_eq_true] at e1
        refine .inl ?_
        rw [al_f e1 _ hi]
        show F_X10_couldWear_b22 σ (n + 1) (nI M) (nI h) (nI i) = _
        rw [hE]
        unfold swB at e1
        revert e1
        cases bt (nI M) i <;> cases enB g (Wo g s) h i <;> intro e1 <;> first | rfl | cases e1
  · rw [if_neg (nI_ge (by omega) (by omega)), decide_eq_false e]; rfl
theorem tt_ok (c : CF g σ) (hg : okG g) {t M : Nat} (ht : t < 3) : F_X10_truthTogether (nI M) (nI t) σ = some (nI (stN g t M g.2.1)) := by
  have hg2 := hg.2.1
  unfold F_X10_truthTogether
  refine lpD (fun k (b : Nat) i => F_X10_truthTogether_b5 σ k (nI M) (nI t) (nI b) (nI i)) g.2.1 (fun i => stN g t M i) _ ?_ ?_ 4000 (by omega)
  · intro k
    simp only [F_X10_truthTogether_b5]
    rw [c.2.1, if_pos (nI_le (Nat.le_refl _) (by omega))]
  · intro k i hi
    simp only [F_X10_truthTogether_b5]
    rw [c.2.1, if_neg (nI_ge hi (by omega)), ct_ok _ (by omega), Option.bind_some, nI_1, show (3 : Int32) = nI 3 from rfl, pk_mul, nI_add, at_6 (by omega), cf_t c hi ht, Option.bind_some, nI_add]
    show _ = F_X10_truthTogether_b5 σ k (nI M) (nI t) (nI (stN g t M i + (if bt (nI M) i then g.2.2 (7 + t) i else 0))) (nI (i + 1))
    cases bt (nI M) i <;> rfl
theorem xsd {s : Nat → Nat → Nat} (c : CF g σ) (hg : okG g) (t12 : T12 g s σ) (hs : okS g s) {h t v : Nat} {u : Int32} (hh : h < g.1) (ht : t < 3) (hv : v ≤ 27) : F_X10_saddles_b70 4000 (nI h) (nI t) (nI v) u (nI 0) (nI (2 ^ g.2.1 - 1)) (nI 0) σ = some (sdR g (Wo g s) h t v u, σ) := by
  have hg2 := hg.2.1
  have hN := N_le hg
  have hN0 : 0 < 2 ^ g.2.1 := Nat.pow_pos (by decide)
  have hall : F_X3_allRiders σ = some (nI (2 ^ g.2.1 - 1)) := by
    unfold F_X3_allRiders
    rw [c.2.1, one_shl _ (by omega), show (1 : Int32) = nI 1 from rfl, pk_sub (by omega)]
  refine lpD (fun k (b : Nat × Int32) i => F_X10_saddles_b70 k (nI h) (nI t) (nI v) u (nI b.1) b.2 (nI i) σ) (2 ^ g.2.1) (fun i => (cntN (sdB g (Wo g s) h t v) i, sdA g (Wo g s) h t v i)) _ ?_ ?_ 4000 (by omega)
  · intro k
    simp only [F_X10_saddles_b70]
    rw [hall, Option.bind_some, if_pos (nI_lt (by omega) (by omega))]
    unfold sdR
    by_cases hu : u = 0
    · rw [if_pos hu, if_pos hu]
    · rw [if_neg hu, if_neg hu]
      split <;> rfl
  · intro k i hi
    have hsl := stN_le hg (M := i) ht g.2.1 (Nat.le_refl _)
    simp only [F_X10_saddles_b70]
    rw [hall, Option.bind_some, if_neg (nI_nlt (by omega) (by omega)), cw_ok c hg t12 hs hh (by omega), Option.bind_some, tt_ok c hg ht, Option.bind_some, nI_1, nI_1]
    show _ = F_X10_saddles_b70 k (nI h) (nI t) (nI v) u (nI (cntN (sdB g (Wo g s) h t v) i + (if sdB g (Wo g s) h t v i then 1 else 0))) (if sdB g (Wo g s) h t v i then sdA g (Wo g s) h t v i &&& nI i else sdA g (Wo g s) h t v i) (nI (i + 1)) σ
    generalize cntN (sdB g (Wo g s) h t v) i = A
    generalize sdA g (Wo g s) h t v i = B
    unfold sdB
    by_cases e1 : (decide (cntN (bt (nI i)) 5 ≤ g.2.2 0 h) && alB2 (swB g (Wo g s) h i) g.2.1) = true
    · rw [e1, if_neg (by decide), Bool.true_and]
      by_cases e2 : stN g t i g.2.1 = v
      · rw [if_pos (by rw [e2]), decide_eq_true e2, if_pos rfl, if_pos rfl]
      · rw [if_neg (by rw [nI_e (by omega) (by omega)]; exact e2), decide_eq_false e2, if_neg (by decide), if_neg (by decide)]; rfl
    · rw [Bool.not_eq_true] at e1
      rw [e1, if_pos (show bI false = 0 from rfl), Bool.false_and, if_neg (by decide), if_neg (by decide)]; rfl
theorem msd_in {d xx : Nat → Nat} (m : MF g σ) (hg : okG g) (e0 : MD d xx σ) {h t v M : Nat} {u x5 x6 : Int32} {b0 : Bool} (hh : h < g.1) (ht : t < 3) (kL : Int32 → Int32 → Int32 → Int32 → Int32 → Int32 → Int32 → Mem → Option (Int32 × Mem)) : F_X11_saddles_b106 kL 4000 (nI h) (nI t) (nI v) u x5 x6 (nI M) (bI b0) (nI 0) (nI 0) σ = (if bI (b0 && alB2 (swB g (Wo g (sh g d xx)) h M) g.2.1) = 0 then kL (nI h) (nI t) (nI v) u x5 x6 (nI (M + 1)) σ else if nI (stN g t M g.2.1) = nI v then kL (nI h) (nI t) (nI v) u (x5 + 1) (x6 &&& nI M) (nI (M + 1)) σ else kL (nI h) (nI t) (nI v) u x5 x6 (nI (M + 1)) σ) := by
  have hg1 := hg.1
  have hg2 := hg.2.1
  have := lpD (fun k (b : Bool × Nat) i => F_X11_saddles_b106 kL k (nI h) (nI t) (nI v) u x5 x6 (nI M) (bI b.1) (nI b.2) (nI i) σ) g.2.1 (fun i => (b0 && alB2 (swB g (Wo g (sh g d xx)) h M) i, stN g t M i)) (if bI (b0 && alB2 (swB g (Wo g (sh g d xx)) h M) g.2.1) = 0 then kL (nI h) (nI t) (nI v) u x5 x6 (nI (M + 1)) σ else if nI (stN g t M g.2.1) = nI v then kL (nI h) (nI t) (nI v) u (x5 + 1) (x6 &&& nI M) (nI (M + 1)) σ else kL (nI h) (nI t) (nI v) u x5 x6 (nI (M + 1)) σ) ?_ ?_ 4000 (by omega)
  · have e1 : (b0 && alB2 (swB g (Wo g (sh g d xx)) h M) 0) = b0 := Bool.and_true b0
    have h2 := this
    dsimp only at h2
    rw [e1] at h2
    exact h2
  · intro k
    simp only [F_X11_saddles_b106]
    rw [m.2.1, if_pos (nI_le (Nat.le_refl _) (by omega)), nI_1]
  · intro k i hi
    have hE : F_X11_saddles_b106 kL (k + 1) (nI h) (nI t) (nI v) u x5 x6 (nI M) (bI (b0 && alB2 (swB g (Wo g (sh g d xx)) h M) i)) (nI (stN g t M i)) (nI i) σ = F_X11_saddles_b145 kL (F_X11_saddles_b106 kL k) (nI h) (nI t) (nI v) u x5 x6 (nI M) (nI (stN g t M i)) (nI i) (bI ((b0 && alB2 (swB g (Wo g (sh g d xx)) h M) i) && swB g (Wo g (sh g d xx)) h M i)) σ := by
      simp only [F_X11_saddles_b106]
      rw [m.2.1, if_neg (nI_ge hi (by omega)), isin_ok _ (by omega), Option.bind_some, ie_ok m hg e0 hh hi, Option.bind_some]
      generalize (b0 && alB2 (swB g (Wo g (sh g d xx)) h M) i) = bb
      unfold swB
      cases bb <;> cases bt (nI M) i <;> cases enB g (Wo g (sh g d xx)) h i <;> rfl
--      cases (b0 && alB2 (swB g (Wo g (sh g d xx)) h M) i) <;> cases bt (nI M) i <;> cases enB g (Wo g (sh g d xx)) h i <;> rfl
    show F_X11_saddles_b106 kL (k + 1) (nI h) (nI t) (nI v) u x5 x6 (nI M) (bI (b0 && alB2 (swB g (Wo g (sh g d xx)) h M) i)) (nI (stN g t M i)) (nI i) σ = F_X11_saddles_b106 kL k (nI h) (nI t) (nI v) u x5 x6 (nI M) (bI (b0 && (alB2 (swB g (Wo g (sh g d xx)) h M) i && swB g (Wo g (sh g d xx)) h M i))) (nI (stN g t M i + (if bt (nI M) i then g.2.2 (7 + t) i else 0))) (nI (i + 1)) σ
    rw [hE]
    unfold F_X11_saddles_b145
    rw [isin_ok _ (by omega), Option.bind_some, show (4 : Int32) = nI 4 from rfl, pk_mul, nI_add, rd_55 (by omega), mf_r m hi (by omega), Option.bind_some, nI_1, nI_add, show (0 : Int32) = nI 0 from rfl, nI_add, Bool.and_assoc]
    cases bt (nI M) i <;> rfl
theorem msd {d xx : Nat → Nat} (m : MF g σ) (hg : okG g) (e0 : MD d xx σ) {h t v : Nat} {u : Int32} (hh : h < g.1) (ht : t < 3) (hv : v ≤ 27) : F_X11_saddles_b65 4000 (nI h) (nI t) (nI v) u (nI 0) (nI (2 ^ g.2.1 - 1)) (nI 0) σ = some (sdR g (Wo g (sh g d xx)) h t v u, σ) := by
  have hg1 := hg.1
  have hg2 := hg.2.1
  have hN := N_le hg
  have hk := (hg.2.2.1 h hh).2.1
  refine lpD (fun k (b : Nat × Int32) i => F_X11_saddles_b65 k (nI h) (nI t) (nI v) u (nI b.1) b.2 (nI i) σ) (2 ^ g.2.1) (fun i => (cntN (sdB g (Wo g (sh g d xx)) h t v) i, sdA g (Wo g (sh g d xx)) h t v i)) _ ?_ ?_ 4000 (by omega)
  · intro k
    simp only [F_X11_saddles_b65]
    rw [m.2.1, one_shl _ (by omega), if_pos (nI_le (Nat.le_refl _) (by omega))]
    unfold sdR
    by_cases hu : u = 0
    · rw [if_pos hu, if_pos hu]
    · rw [if_neg hu, if_neg hu]
      split <;> rfl
  · intro k i hi
    have hsl := stN_le hg (M := i) ht g.2.1 (Nat.le_refl _)
    have hc := cntN_le (bt (nI i)) 5
    have hE : F_X11_saddles_b65 (k + 1) (nI h) (nI t) (nI v) u (nI (cntN (sdB g (Wo g (sh g d xx)) h t v) i)) (sdA g (Wo g (sh g d xx)) h t v i) (nI i) σ = F_X11_saddles_b106 (F_X11_saddles_b65 k) 4000 (nI h) (nI t) (nI v) u (nI (cntN (sdB g (Wo g (sh g d xx)) h t v) i)) (sdA g (Wo g (sh g d xx)) h t v i) (nI i) (bI (decide (cntN (bt (nI i)) 5 ≤ g.2.2 0 h))) (nI 0) (nI 0) σ := by
      simp only [F_X11_saddles_b65]
      rw [m.2.1, one_shl _ (by omega), if_neg (nI_ge hi (by omega)), mn_M (by omega), Option.bind_some, show (7 : Int32) = nI 7 from rfl, pk_mul, rd_54 (by omega), mf_h0 m hh, Option.bind_some]
      by_cases e : g.2.2 0 h < cntN (bt (nI i)) 5
      · rw [if_pos (nI_lt e (by omega)), decide_eq_false (by omega)]; rfl
      · rw [if_neg (nI_nlt (by omega) (by omega)), decide_eq_true (by omega)]; rfl
    show F_X11_saddles_b65 (k + 1) (nI h) (nI t) (nI v) u (nI (cntN (sdB g (Wo g (sh g d xx)) h t v) i)) (sdA g (Wo g (sh g d xx)) h t v i) (nI i) σ = F_X11_saddles_b65 k (nI h) (nI t) (nI v) u (nI (cntN (sdB g (Wo g (sh g d xx)) h t v) i + (if sdB g (Wo g (sh g d xx)) h t v i then 1 else 0))) (if sdB g (Wo g (sh g d xx)) h t v i then sdA g (Wo g (sh g d xx)) h t v i &&& nI i else sdA g (Wo g (sh g d xx)) h t v i) (nI (i + 1)) σ
    rw [hE, msd_in m hg e0 hh ht, nI_1]
    generalize cntN (sdB g (Wo g (sh g d xx)) h t v) i = A
    generalize sdA g (Wo g (sh g d xx)) h t v i = B
    unfold sdB
    by_cases e1 : (decide (cntN (bt (nI i)) 5 ≤ g.2.2 0 h) && alB2 (swB g (Wo g (sh g d xx)) h i) g.2.1) = true
    · rw [e1, if_neg (by decide), Bool.true_and]
      by_cases e2 : stN g t i g.2.1 = v
      · rw [if_pos (by rw [e2]), decide_eq_true e2, if_pos rfl, if_pos rfl]
      · rw [if_neg (by rw [nI_e (by omega) (by omega)]; exact e2), decide_eq_false e2, if_neg (by decide), if_neg (by decide)]; rfl
    · rw [Bool.not_eq_true] at e1
      rw [e1, if_pos (show bI false = 0 from rfl), Bool.false_and, if_neg (by decide), if_neg (by decide)]; rfl
theorem two_c (a : Int32) : (a = 0 ∨ a = 1) ∧ (∀ σ, F_X11_in a.toInt64 (0 : Int64) (1 : Int64) σ = some 1) ∨ (a ≠ 0 ∧ a ≠ 1) ∧ ∀ σ, F_X11_in a.toInt64 (0 : Int64) (1 : Int64) σ = some 0 := by
  rcases inN a (n := 1) (by omega) with ⟨t, h1, h2, h3⟩ | ⟨h1, h2⟩
  · refine .inl ⟨?_, h3⟩
    subst h2
    have : t = 0 ∨ t = 1 := by omega
    rcases this with rfl | rfl
    · exact .inl rfl
    · exact .inr rfl
  · refine .inr ⟨⟨fun e => ?_, fun e => ?_⟩, h2⟩
    · subst e; rcases h1 with h1 | h1 <;> exact absurd h1 (by decide)
    · subst e; rcases h1 with h1 | h1 <;> exact absurd h1 (by decide)
theorem st_saddles : Step_saddles Inv := by
  intro a b v u σ hI0
  obtain ⟨g, P, R⟩ := id hI0
  obtain ⟨hg, hP, c, d, e, i, j, k, l, m, z⟩ := id R
  have I20 := Inv_fr hI0 (fr20 σ 0)
  have d2 : MF g (sI σ 20 0) := MF_20 d 0
  have hg2 := hg.2.1
  have hN0 : 0 < 2 ^ g.2.1 := Nat.pow_pos (by decide)
  rcases horse_c hg a with ⟨x, hx, rfl⟩ | ⟨h1, h2⟩
  · rcases trait_c b with ⟨t, ht, rfl, t1, t2⟩ | ⟨t1, t2⟩
    · rcases inN v (n := 27) (by omega) with ⟨y, y1, rfl, y2⟩ | ⟨y1, y2⟩
      · have hy : ¬ (27 : Int32) < nI y := nI_nlt (a := 27) y1 (by omega)
        rcases two_c u with ⟨u1, u2⟩ | ⟨u1, u2⟩
        · obtain ⟨σ1, w1, w2, w3⟩ := weigh0 R
          have R1 := Rel_fr R w2
          have R2 := R_20 R1
          have ha := all_eq R1.2.2.1 R2.2.2.2.1
          rw [one_shl _ (by omega), show (1 : Int32) = nI 1 from rfl, pk_sub (by omega)] at ha
          have hx1 := xsd (u := u) R1.2.2.1 hg w3 (oS_P g P) hx ht y1
          have hm1 := msd (u := u) R2.2.2.2.1 hg (md_R R2) hx ht y1
          refine ⟨sdR g (Wo g (sP g P)) x t y u, σ1, sI σ1 20 0, ?_, ?_, g, P, R2⟩
          · unfold F_X10_saddles
            rw [hasH_1 c hg hx, Option.bind_some, if_neg (by decide), t1, Option.bind_some, if_neg (by decide), if_neg (nI_pos (by omega)), if_neg hy, w1, Option.bind_some, ha.1, Option.bind_some, show (0 : Int32) = nI 0 from rfl, hx1]
            rcases u1 with rfl | rfl <;> rfl
          · unfold F_X11_saddles
            rw [show stI σ1 20 0 = some (sI σ1 20 0) from rfl, Option.bind_some, noH_1 R2.2.2.2.1 hg hx, Option.bind_some, if_pos rfl, t2, Option.bind_some, if_neg (by decide), show ∀ σ, F_X11_in (nI y).toInt64 (0 : Int64) (27 : Int64) σ = some 1 from y2, Option.bind_some, if_neg (by decide), u2, Option.bind_some, if_neg (by decide), ha.2, Option.bind_some]
            exact hm1
        · refine ⟨-2, σ, sI σ 20 0, ?_, ?_, I20⟩
          · unfold F_X10_saddles
            rw [hasH_1 c hg hx, Option.bind_some, if_neg (by decide), t1, Option.bind_some, if_neg (by decide), if_neg (nI_pos (by omega)), if_neg hy, if_neg u1.1, if_neg u1.2]
          · unfold F_X11_saddles
            rw [show stI σ 20 0 = some (sI σ 20 0) from rfl, Option.bind_some, noH_1 d2 hg hx, Option.bind_some, if_pos rfl, t2, Option.bind_some, if_neg (by decide), show ∀ σ, F_X11_in (nI y).toInt64 (0 : Int64) (27 : Int64) σ = some 1 from y2, Option.bind_some, if_neg (by decide), u2]; rfl
      · refine ⟨-2, σ, sI σ 20 0, ?_, ?_, I20⟩
        · unfold F_X10_saddles
          rw [hasH_1 c hg hx, Option.bind_some, if_neg (by decide), t1, Option.bind_some, if_neg (by decide)]
          by_cases e3 : v < 0
          · rw [if_pos e3]
          · rw [if_neg e3, if_pos]
            rcases y1 with y1 | y1
            · exact absurd y1 e3
            · rw [Int32.le_iff_toInt_le] at y1
              rw [Int32.lt_iff_toInt_lt]
              have q1 : (nI (27 + 1)).toInt = 28 := rfl
              have q2 : (27 : Int32).toInt = 27 := rfl
              omega
        · unfold F_X11_saddles
          rw [show stI σ 20 0 = some (sI σ 20 0) from rfl, Option.bind_some, noH_1 d2 hg hx, Option.bind_some, if_pos rfl, t2, Option.bind_some, if_neg (by decide), L_0, show (27 : Int64) = (nI 27).toInt64 from rfl, y2]; rfl
    · refine ⟨-2, σ, sI σ 20 0, ?_, ?_, I20⟩
      · unfold F_X10_saddles; rw [hasH_1 c hg hx, Option.bind_some, if_neg (by decide), t1]; rfl
      · unfold F_X11_saddles; rw [show stI σ 20 0 = some (sI σ 20 0) from rfl, Option.bind_some, noH_1 d2 hg hx, Option.bind_some, if_pos rfl, t2]; rfl
  · refine ⟨-1, σ, sI σ 20 0, ?_, ?_, I20⟩
    · unfold F_X10_saddles; rw [h1 σ c]; rfl
    · unfold F_X11_saddles; rw [show stI σ 20 0 = some (sI σ 20 0) from rfl, Option.bind_some, h2 _ d2]; rfl
