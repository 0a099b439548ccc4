-- sets of riders as bits; the least of some
variable {g : FD} {P : PD} {σ σ' : Mem}
theorem bt_1 : ∀ j, j < 32 → bt 1 j = decide (j = 0) := by decide +kernel
theorem bit_1 (x : Int32) {i : Nat} (hi : i < 32) : (((x >>> (nI i &&& 31)) &&& (1 : Int32)) = 1) = (bt x i = true) := by
  apply propext
  constructor
  · intro h
    have h1 : bt ((x >>> (nI i &&& 31)) &&& (1 : Int32)) 0 = true := by rw [h]; decide
    rw [b_and, b_sshr i hi x (by omega), Nat.add_zero, if_pos hi, Bool.and_eq_true] at h1
    exact h1.1
  · intro h
    apply b_ext
    intro j hj
    rw [b_and, b_sshr i hi x hj, bt_1 j hj]
    by_cases e : j = 0
    · subst e; rw [Nat.add_zero, if_pos hi, h]; rfl
    · rw [decide_eq_false e, Bool.and_false]
theorem ct_ok (x : Int32) {i : Nat} (hi : i < 32) : F_X10_contains x (nI i) σ = some (bI (bt x i)) := by
  unfold F_X10_contains
  simp only [bit_1 x hi]
  cases bt x i <;> rfl
theorem isin_ok (x : Int32) {i : Nat} (hi : i < 32) : F_X11_isIn x (nI i) σ = some (bI (bt x i)) := by
  unfold F_X11_isIn
  simp only [bit_1 x hi]
  cases bt x i <;> rfl
theorem or_bt (x : Int32) {j i : Nat} (hj : j < 32) (hi : i < 32) : bt (x ||| ((1 : Int32) <<< (nI j &&& 31))) i = (bt x i || decide (i = j)) := by
  rw [b_or, b_shl j hj 1 hi]
  congr 1
  by_cases e : j ≤ i
  · rw [decide_eq_true e, Bool.true_and, bt_1 _ (by omega)]
    congr 1; apply propext; omega
  · rw [decide_eq_false e, Bool.false_and, decide_eq_false (by omega)]
def lf (p : Nat → Bool) : Nat → Nat
  | 0 => 9
  | n + 1 => if lf p n = 9 then (if p n then n else 9) else lf p n
theorem lf_n {p : Nat → Bool} : ∀ n, (∀ j, j < n → p j = false) → lf p n = 9
  | 0, _ => rfl
  | n + 1, h => by
    show (if lf p n = 9 then (if p n then n else 9) else lf p n) = 9
    rw [lf_n n (fun j hj => h j (by omega)), if_pos rfl, h n (by omega)]; rfl
theorem lf_s {p : Nat → Bool} {i : Nat} (h1 : ∀ j, j < i → p j = false) (h2 : p i = true) (h9 : i < 9) : ∀ n, i < n → lf p n = i
  | 0, h => absurd h (Nat.not_lt_zero _)
  | n + 1, h => by
    show (if lf p n = 9 then (if p n then n else 9) else lf p n) = i
    by_cases e : i = n
    · subst e; rw [lf_n i h1, if_pos rfl, h2]; rfl
    · rw [lf_s h1 h2 h9 n (by omega), if_neg (by omega)]
theorem lf_c (p : Nat → Bool) : ∀ n, n ≤ 9 → (lf p n = 9 ∧ ∀ j, j < n → p j = false) ∨ (lf p n < n ∧ p (lf p n) = true ∧ ∀ j, j < lf p n → p j = false)
  | 0, _ => .inl ⟨rfl, fun j hj => absurd hj (Nat.not_lt_zero _)⟩
  | n + 1, hn => by
    rcases lf_c p n (by omega) with ⟨i1, i2⟩ | ⟨i1, i2, i3⟩
    · by_cases e : p n = true
      · rw [lf_s (i := n) i2 e (by omega) (n + 1) (by omega)]
        exact .inr ⟨by omega, e, i2⟩
      · rw [Bool.not_eq_true] at e
        have hx : ∀ j, j < n + 1 → p j = false := fun j hj => by
          by_cases ej : j = n
          · rw [ej]; exact e
          · exact i2 j (by omega)
        exact .inl ⟨lf_n _ hx, hx⟩
    · have : lf p (n + 1) = lf p n := by show (if lf p n = 9 then _ else lf p n) = _; rw [if_neg (by omega)]
      rw [this]; exact .inr ⟨by omega, i2, i3⟩
-- held by riders
def pR (g : FD) (A : Nat → Bool) (s : (Nat → Nat) × (Nat → Nat)) (r : Nat) : Bool := A r && (decide (s.1 r = 9) && decide (s.2 r < g.1))
def stR (g : FD) (A : Nat → Bool) (W : Nat → Nat → Nat) (s : (Nat → Nat) × (Nat → Nat)) : (Nat → Nat) × (Nat → Nat) :=
  if lf (pR g A s) g.2.1 = 9 then s else (leadW g W s.1 (lf (pR g A s) g.2.1) (prf g (lf (pR g A s) g.2.1) (s.2 (lf (pR g A s) g.2.1))), upN s.2 (lf (pR g A s) g.2.1) (s.2 (lf (pR g A s) g.2.1) + 1))
def hR (g : FD) (A : Nat → Bool) (W : Nat → Nat → Nat) : Nat → (Nat → Nat) × (Nat → Nat)
  | 0 => (fun _ => 9, fun _ => 0)
  | k + 1 => stR g A W (hR g A W k)
theorem hR_ok (hg : okG g) (A : Nat → Bool) (W : Nat → Nat → Nat) : ∀ k, okY g (hR g A W k).1 ∧ ∀ r, (hR g A W k).2 r ≤ g.1
  | 0 => ⟨fun r _ => .inl rfl, fun r => Nat.zero_le _⟩
  | k + 1 => by
    have ih := hR_ok hg A W k
    have hg2 := hg.2.1
    show okY g (stR g A W (hR g A W k)).1 ∧ ∀ r, (stR g A W (hR g A W k)).2 r ≤ g.1
    unfold stR
    rcases lf_c (pR g A (hR g A W k)) g.2.1 (by omega) with ⟨i1, i2⟩ | ⟨i1, i2, i3⟩
    · rw [if_pos i1]; exact ih
    · rw [if_neg (by omega)]
      generalize lf (pR g A (hR g A W k)) g.2.1 = r at *
      unfold pR at i2
      simp only [Bool.and_eq_true, decide_eq_true_eq] at i2
      refine ⟨okW_ld ih.1 i1 (prf_ok hg i2.2.2).1, fun q => ?_⟩
      show upN _ _ _ q ≤ _
      unfold upN
      split
      · omega
      · exact ih.2 q
theorem hR_fix {A : Nat → Bool} {W : Nat → Nat → Nat} {k : Nat} (h : lf (pR g A (hR g A W k)) g.2.1 = 9) : ∀ m, hR g A W (k + m) = hR g A W k
  | 0 => rfl
  | m + 1 => by
    show stR g A W (hR g A W (k + m)) = _
    rw [hR_fix h m]
    unfold stR
    rw [if_pos h]
theorem sum_up {f : Nat → Nat} {r v : Nat} : ∀ n, r < n → sumN (upN f r v) n + f r = sumN f n + v
  | 0, h => absurd h (Nat.not_lt_zero _)
  | n + 1, h => by
    show sumN (upN f r v) n + upN f r v n + f r = sumN f n + f n + v
    by_cases e : r = n
    · subst e
      have h1 : ∀ m, m ≤ r → sumN (upN f r v) m = sumN f m := fun m => by
        induction m with
        | zero => intro _; rfl
        | succ m ih => intro hm; show sumN (upN f r v) m + upN f r v m = sumN f m + f m; rw [ih (by omega)]; unfold upN; rw [if_neg (by omega)]
      rw [h1 r (Nat.le_refl _)]
      unfold upN
      rw [if_pos rfl]; omega
    · have := sum_up (f := f) (r := r) (v := v) n (by omega)
      unfold upN at this ⊢
      rw [if_neg (by omega)]; omega
theorem sum_le {f : Nat → Nat} {c : Nat} : ∀ n, (∀ r, r < n → f r ≤ c) → sumN f n ≤ c * n
  | 0, _ => Nat.le_refl 0
  | n + 1, h => by
    have := sum_le n (fun r hr => h r (by omega))
    have := h n (by omega)
    show sumN f n + f n ≤ c * (n + 1)
    rw [Nat.mul_succ]; omega
theorem sum_lt {f : Nat → Nat} {c r : Nat} : ∀ n, (∀ r, r < n → f r ≤ c) → r < n → f r < c → sumN f n < c * n
  | 0, _, h, _ => absurd h (Nat.not_lt_zero _)
  | n + 1, h, hr, hl => by
    have h2 := h n (by omega)
    show sumN f n + f n < c * (n + 1)
    rw [Nat.mul_succ]
    by_cases e : r = n
    · subst e
      have := sum_le (c := c) r (fun q hq => h q (by omega)); omega
    · have := sum_lt (c := c) (r := r) n (fun q hq => h q (by omega)) (by omega) hl; omega
theorem hR_sum (hg : okG g) {A : Nat → Bool} {W : Nat → Nat → Nat} : ∀ k, lf (pR g A (hR g A W k)) g.2.1 = 9 ∨ sumN (hR g A W (k + 1)).2 g.2.1 = k + 1
  | 0 => by
    have hg2 := hg.2.1
    by_cases e : lf (pR g A (hR g A W 0)) g.2.1 = 9
    · exact .inl e
    · refine .inr ?_
      rcases lf_c (pR g A (hR g A W 0)) g.2.1 (by omega) with ⟨i1, i2⟩ | ⟨i1, i2, i3⟩
      · exact absurd i1 e
      · show sumN (stR g A W (hR g A W 0)).2 g.2.1 = 1
        unfold stR
        rw [if_neg e]
        generalize lf (pR g A (hR g A W 0)) g.2.1 = r at *
        have h1 := sum_up (f := (hR g A W 0).2) (r := r) (v := (hR g A W 0).2 r + 1) g.2.1 i1
        have h2 : sumN (hR g A W 0).2 g.2.1 = 0 := sumN_ext (Nat.zero_le _) (fun _ _ _ => rfl)
        show sumN (upN (hR g A W 0).2 r ((hR g A W 0).2 r + 1)) g.2.1 = 1
        omega
  | k + 1 => by
    have hg2 := hg.2.1
    by_cases e : lf (pR g A (hR g A W (k + 1))) g.2.1 = 9
    · exact .inl e
    · refine .inr ?_
      rcases hR_sum hg (A := A) (W := W) k with h0 | h0
      · exfalso; apply e
        have := hR_fix h0 1
        rw [this]; exact h0
      · rcases lf_c (pR g A (hR g A W (k + 1))) g.2.1 (by omega) with ⟨i1, i2⟩ | ⟨i1, i2, i3⟩
        · exact absurd i1 e
        · show sumN (stR g A W (hR g A W (k + 1))).2 g.2.1 = k + 1 + 1
          unfold stR
          rw [if_neg e]
          generalize lf (pR g A (hR g A W (k + 1))) g.2.1 = r at *
          have h1 := sum_up (f := (hR g A W (k + 1)).2) (r := r) (v := (hR g A W (k + 1)).2 r + 1) g.2.1 i1
          show sumN (upN (hR g A W (k + 1)).2 r ((hR g A W (k + 1)).2 r + 1)) g.2.1 = k + 1 + 1
          omega
theorem hR_end (hg : okG g) (A : Nat → Bool) (W : Nat → Nat → Nat) : lf (pR g A (hR g A W 20)) g.2.1 = 9 := by
  have hg1 := hg.1
  have hg2 := hg.2.1
  rcases hR_sum hg (A := A) (W := W) 19 with h0 | h0
  · rw [hR_fix h0 1]; exact h0
  · rcases lf_c (pR g A (hR g A W 20)) g.2.1 (by omega) with ⟨i1, i2⟩ | ⟨i1, i2, i3⟩
    · exact i1
    · exfalso
      generalize lf (pR g A (hR g A W 20)) g.2.1 = r at *
      unfold pR at i2
      simp only [Bool.and_eq_true, decide_eq_true_eq] at i2
      have h1 := sum_lt (f := (hR g A W 20).2) (c := 4) g.2.1 (fun r _ => Nat.le_trans ((hR_ok hg A W 20).2 r) hg1) i1 (by omega)
      have h2 : sumN (hR g A W 20).2 g.2.1 = 20 := h0
      omega
theorem hR_stop (hg : okG g) {A : Nat → Bool} {W : Nat → Nat → Nat} {k : Nat} (hk : k ≤ 20) (h : lf (pR g A (hR g A W k)) g.2.1 = 9) : hR g A W 20 = hR g A W k := by
  have h1 := hR_fix h (20 - k)
  rw [show k + (20 - k) = 20 by omega] at h1
  exact h1
-- the class
def xI (n : Nat) : Bool := n != 32 && n != 13
theorem xl2_ok {x : Int32} {s : (Nat → Nat) × (Nat → Nat)} (c : CF g σ) (hg : okG g) (h1 : CW 17 s.1 σ) (h2 : ∀ r, r < 5 → σ.2.1 13 r = nI (s.2 r)) (hw : okY g s.1) (hl : ∀ r, s.2 r ≤ g.1) : F_X4_leastToLead x σ = some (hI (lf (pR g (bt x) s) g.2.1)) := by
  have hg1 := hg.1
  have hg2 := hg.2.1
  unfold F_X4_leastToLead
  refine lp (fun n (a : Unit) i => F_X4_leastToLead_b2 σ n x (nI i)) (fun o => o = some (hI (lf (pR g (bt x) s) g.2.1))) g.2.1 (fun i _ => ∀ j, j < i → pR g (bt x) s j = false) ?_ ?_ g.2.1 0 () 4000 (by omega) (by omega) (by omega) (fun j hj => absurd hj (Nat.not_lt_zero _))
  · intro n _ hp
    simp only [F_X4_leastToLead_b2]
    rw [c.2.1, if_pos (nI_le (Nat.le_refl _) (by omega)), lf_n _ hp]; rfl
  · intro n _ i hi hp
    have hwi := okY_v hw (r := i) (by omega)
    have hli := hl i
    have step : pR g (bt x) s i = false → F_X4_leastToLead_b2 σ (n + 1) x (nI i) = F_X4_leastToLead_b2 σ n x (nI (i + 1)) → (F_X4_leastToLead_b2 σ (n + 1) x (nI i) = some (hI (lf (pR g (bt x) s) g.2.1)) ∨ ∃ a' : Unit, (∀ j, j < i + 1 → pR g (bt x) s j = false) ∧ F_X4_leastToLead_b2 σ (n + 1) x (nI i) = F_X4_leastToLead_b2 σ n x (nI (i + 1))) := fun h3 h4 => .inr ⟨(), fun j hj => by
      by_cases e : j = i
      · rw [e]; exact h3
      · exact hp j (by omega), h4⟩
    have e0 : F_X4_leastToLead_b2 σ (n + 1) x (nI i) = (if bI (bt x i) = 0 then F_X4_leastToLead_b2 σ n x (nI (i + 1)) else if hI (s.1 i) = (-9 : Int32) then (if nI g.1 ≤ nI (s.2 i) then F_X4_leastToLead_b2 σ n x (nI (i + 1)) else some (nI i)) else F_X4_leastToLead_b2 σ n x (nI (i + 1))) := by
      simp only [F_X4_leastToLead_b2]
      rw [c.2.1, if_neg (nI_ge hi (by omega)), ct_ok x (by omega), Option.bind_some, hof_ok (by omega) h1 (by omega), Option.bind_some, at_13 (by omega), h2 i (by omega), Option.bind_some, c.1, nI_1]
    by_cases e1 : bt x i = true
    · by_cases e2 : s.1 i = 9
      · by_cases e3 : s.2 i < g.1
        · refine .inl ?_
          have e4 : pR g (bt x) s i = true := by unfold pR; rw [e1, decide_eq_true e2, decide_eq_true e3]; rfl
          rw [e0, e1, if_neg (by decide), if_pos (by rw [e2]; rfl), if_neg (nI_ge e3 (by omega)), lf_s hp e4 (by omega) _ hi, hI_n (by omega)]
        · refine step (by unfold pR; rw [decide_eq_false e3, Bool.and_false, Bool.and_false]) ?_
          rw [e0, e1, if_neg (by decide), if_pos (by rw [e2]; rfl), if_pos (nI_le (by omega) (by omega))]
      · refine step (by unfold pR; rw [decide_eq_false e2, Bool.false_and, Bool.and_false]) ?_
        rw [e0, e1, if_neg (by decide), if_neg (by rw [hI_m9 (by omega)]; exact e2)]
    · rw [Bool.not_eq_true] at e1
      refine step (by unfold pR; rw [e1, Bool.false_and]) ?_
      rw [e0, e1, if_pos (show bI false = 0 from rfl)]
theorem xhr_ok {x : Int32} {s : Nat → Nat → Nat} (c : CF g σ) (hg : okG g) (t : T12 g s σ) (hs : okS g s) : ∃ σ', F_X4_holdByRiders x σ = some σ' ∧ Fq (fun _ => true) xI true σ σ' ∧ CW 17 (hR g (bt x) (Wo g s) 20).1 σ' := by
  have hg1 := hg.1
  have hg2 := hg.2.1
  unfold F_X4_holdByRiders F_X7_clear
  obtain ⟨σ1, a1, a2, a3⟩ := fill_ok (σ := σ) (n := 15 + 17) (v := (-9 : Int32))
  obtain ⟨σ2, b1, b2, b3⟩ := fill_ok (σ := σ1) (n := 13) (v := (0 : Int32))
  rw [a1, Option.bind_some, Option.bind_some, b1, Option.bind_some]
  have F2 : Fq (fun _ => true) xI true σ σ2 := Fq_t (Fq_w a2 (fun _ _ => rfl) (fun n h => by simp [xI] at h ⊢; omega) (fun h => h)) (Fq_w b2 (fun _ _ => rfl) (fun n h => by simp [xI] at h ⊢; omega) (fun h => h))
  have h0 : CW 17 (hR g (bt x) (Wo g s) 0).1 σ2 := fun r hr => by rw [b2.2.1 _ rfl]; exact a3 r hr
  refine lp (fun n (a : Mem) i => F_X4_holdByRiders_b17 n x (nI i) a) (fun o => ∃ σ', o = some σ' ∧ Fq (fun _ => true) xI true σ σ' ∧ CW 17 (hR g (bt x) (Wo g s) 20).1 σ') 20 (fun i a => Fq (fun _ => true) xI true σ a ∧ CW 17 (hR g (bt x) (Wo g s) i).1 a ∧ ∀ r, r < 5 → a.2.1 13 r = nI ((hR g (bt x) (Wo g s) i).2 r)) ?_ ?_ 20 0 σ2 4000 (by omega) (by omega) (by omega) ⟨F2, h0, fun r hr => b3 r hr⟩
  · intro n a ⟨p1, p2, p3⟩
    simp only [F_X4_holdByRiders_b17]
    rw [if_pos (show (20 : Int32) ≤ nI 20 from Int32.le_refl _)]
    exact ⟨a, rfl, p1, p2⟩
  · intro n a i hi ⟨p1, p2, p3⟩
    have c' := CF_fr c p1
    have t' : T12 g s a := by unfold T12; rw [p1.2.1 12 rfl]; exact t
    have ok := hR_ok hg (bt x) (Wo g s) i
    have hll := xl2_ok (x := x) c' hg p2 p3 ok.1 ok.2
    rcases lf_c (pR g (bt x) (hR g (bt x) (Wo g s) i)) g.2.1 (by omega) with ⟨i1, i2⟩ | ⟨i1, i2, i3⟩
    · refine .inl ⟨a, ?_, p1, by rw [hR_stop hg (by omega) i1]; exact p2⟩
      simp only [F_X4_holdByRiders_b17]
      rw [if_neg (show ¬ (20 : Int32) ≤ nI i from nI_ge (b := 20) hi (by omega)), hll, i1, Option.bind_some, if_pos hI_9]
    · have es : hR g (bt x) (Wo g s) (i + 1) = (leadW g (Wo g s) (hR g (bt x) (Wo g s) i).1 (lf (pR g (bt x) (hR g (bt x) (Wo g s) i)) g.2.1) (prf g (lf (pR g (bt x) (hR g (bt x) (Wo g s) i)) g.2.1) ((hR g (bt x) (Wo g s) i).2 (lf (pR g (bt x) (hR g (bt x) (Wo g s) i)) g.2.1))), upN (hR g (bt x) (Wo g s) i).2 (lf (pR g (bt x) (hR g (bt x) (Wo g s) i)) g.2.1) ((hR g (bt x) (Wo g s) i).2 (lf (pR g (bt x) (hR g (bt x) (Wo g s) i)) g.2.1) + 1)) := by
        show stR g _ _ _ = _
        unfold stR; rw [if_neg (by omega)]
      generalize lf (pR g (bt x) (hR g (bt x) (Wo g s) i)) g.2.1 = r at *
      unfold pR at i2
      simp only [Bool.and_eq_true, decide_eq_true_eq] at i2
      have hL := i2.2.2
      have hr5 : r < 5 := by omega
      have hp := prf_ok hg (r := r) hL
      have p2' : CW 17 (hR g (bt x) (Wo g s) i).1 (sA a 13 r (nI ((hR g (bt x) (Wo g s) i).2 r + 1))) := p2
      have c3 : CF g (sA a 13 r (nI ((hR g (bt x) (Wo g s) i).2 r + 1))) := c'
      have t3 : T12 g s (sA a 13 r (nI ((hR g (bt x) (Wo g s) i).2 r + 1))) := t'
      obtain ⟨σ3, l1, l2, l3⟩ := ld_ok (k := 17) (by omega) p2' c3 hg ok.1 t3 hs i1 hp.1
      refine .inr ⟨σ3, ⟨Fq_t p1 (Fq_t (Fq_sA (n := 13) (Fq_r a)) (Fq_w l2 (fun _ _ => rfl) (fun n h => by simp [xI] at h ⊢; omega) (fun h => h))), by rw [es]; exact l3, fun q hq => ?_⟩, ?_⟩
      · rw [es, l2.2.1 13 rfl, sA_2, if_pos rfl, upd_ap]
        show _ = nI (upN _ _ _ q)
        unfold upN
        split
        · rfl
        · exact p3 q hq
      · simp only [F_X4_holdByRiders_b17]
        rw [if_neg (show ¬ (20 : Int32) ≤ nI i from nI_ge (b := 20) hi (by omega)), hll, hI_n (by omega), Option.bind_some, if_neg (by rw [nI_n9 (by omega)]; exact id), at_13 hr5, p3 r hr5, Option.bind_some, la_ok c' hg i1 hL, Option.bind_some, Option.bind_some, nI_1, put_13 hr5, Option.bind_some, l1, Option.bind_some, nI_1]
