-- held by horses
variable {g : FD} {P : PD} {σ σ' : Mem}
def bq (W : Nat → Nat → Nat) (h : Nat) (B : Nat → Bool) : Nat → Nat
  | 0 => 9
  | n + 1 => if B n then (if bq W h B n = 9 then n else if hlB W h n (bq W h B n) then n else bq W h B n) else bq W h B n
theorem bq_sp (W : Nat → Nat → Nat) (h : Nat) (B : Nat → Bool) : ∀ n, (bq W h B n = 9 ∧ ∀ r, r < n → B r = false) ∨ (bq W h B n < n ∧ B (bq W h B n) = true)
  | 0 => .inl ⟨rfl, fun r hr => absurd hr (Nat.not_lt_zero _)⟩
  | n + 1 => by
    have ih := bq_sp W h B n
    by_cases e : B n = true
    · by_cases e1 : bq W h B n = 9
      · have : bq W h B (n + 1) = n := by show (if B n then (if bq W h B n = 9 then n else _) else _) = n; rw [if_pos e, if_pos e1]
        rw [this]; exact .inr ⟨by omega, e⟩
      · by_cases e2 : hlB W h n (bq W h B n) = true
        · have : bq W h B (n + 1) = n := by show (if B n then (if bq W h B n = 9 then n else if hlB W h n (bq W h B n) then n else _) else _) = n; rw [if_pos e, if_neg e1, if_pos e2]
          rw [this]; exact .inr ⟨by omega, e⟩
        · have : bq W h B (n + 1) = bq W h B n := by show (if B n then (if bq W h B n = 9 then n else if hlB W h n (bq W h B n) then n else _) else _) = _; rw [if_pos e, if_neg e1, if_neg e2]
          rw [this]
          rcases ih with ⟨i1, _⟩ | ⟨i1, i2⟩
          · exact absurd i1 e1
          · exact .inr ⟨by omega, i2⟩
    · have : bq W h B (n + 1) = bq W h B n := by show (if B n then _ else _) = _; rw [if_neg e]
      rw [this]
      rcases ih with ⟨i1, i2⟩ | ⟨i1, i2⟩
      · refine .inl ⟨i1, fun r hr => ?_⟩
        by_cases er : r = n
        · rw [er]; exact Bool.not_eq_true _ ▸ e
        · exact i2 r (by omega)
      · exact .inr ⟨by omega, i2⟩
def SH : Type := (Nat → Nat) × (Nat → Nat → Bool)
def aB (g : FD) (W : Nat → Nat → Nat) (s : SH) (h r : Nat) : Bool := !s.2 h r && enB g W h r
def pH (g : FD) (W : Nat → Nat → Nat) (s : SH) (h : Nat) : Bool := !fuB g s.1 h && decide (bq W h (aB g W s h) g.2.1 ≠ 9)
def doH (g : FD) (W : Nat → Nat → Nat) (s : SH) (h r : Nat) : SH := (if rlO g r h (s.1 r) then upN s.1 r h else s.1, fun x y => s.2 x y || (decide (x = h) && decide (y = r)))
def stH (g : FD) (W : Nat → Nat → Nat) (s : SH) : SH :=
  if lf (pH g W s) g.1 = 9 then s else doH g W s (lf (pH g W s) g.1) (bq W (lf (pH g W s) g.1) (aB g W s (lf (pH g W s) g.1)) g.2.1)
def hH (g : FD) (W : Nat → Nat → Nat) : Nat → SH
  | 0 => (fun _ => 9, fun _ _ => false)
  | k + 1 => stH g W (hH g W k)
theorem okY_do {W : Nat → Nat → Nat} {s : SH} (hw : okY g s.1) {h r : Nat} (hr : r < g.2.1) (hh : h < g.1) : okY g (doH g W s h r).1 := by
  show okY g (if rlO g r h (s.1 r) then upN s.1 r h else s.1)
  split
  · exact okW_up hw hr hh
  · exact hw
theorem hH_ok (hg : okG g) (W : Nat → Nat → Nat) : ∀ k, okY g (hH g W k).1
  | 0 => fun r _ => .inl rfl
  | k + 1 => by
    have ih := hH_ok hg W k
    have hg1 := hg.1
    show okY g (stH g W (hH g W k)).1
    unfold stH
    rcases lf_c (pH g W (hH g W k)) g.1 (by omega) with ⟨i1, i2⟩ | ⟨i1, i2, i3⟩
    · rw [if_pos i1]; exact ih
    · rw [if_neg (by omega)]
      generalize lf (pH g W (hH g W k)) g.1 = h at *
      unfold pH at i2
      simp only [Bool.and_eq_true, decide_eq_true_eq] at i2
      rcases bq_sp W h (aB g W (hH g W k) h) g.2.1 with ⟨j1, _⟩ | ⟨j1, j2⟩
      · exact absurd j1 i2.2
      · exact okY_do ih j1 i1
theorem hH_fix {W : Nat → Nat → Nat} {k : Nat} (h : lf (pH g W (hH g W k)) g.1 = 9) : ∀ m, hH g W (k + m) = hH g W k
  | 0 => rfl
  | m + 1 => by
    show stH g W (hH g W (k + m)) = _
    rw [hH_fix h m]
    unfold stH
    rw [if_pos h]
theorem cnt_set {p : Nat → Bool} {y : Nat} (hp : p y = false) : ∀ n, cntN (fun x => p x || decide (x = y)) n = cntN p n + (if y < n then 1 else 0)
  | 0 => by rw [if_neg (Nat.not_lt_zero _)]; rfl
  | n + 1 => by
    rw [cntN_s, cntN_s, cnt_set hp n]
    by_cases e : n = y
    · subst e
      rw [if_neg (show ¬ n < n from Nat.lt_irrefl n), if_pos (show n < n + 1 from Nat.lt_succ_self n), hp]; simp
    · rw [decide_eq_false e, Bool.or_false]
      by_cases e2 : y < n
      · rw [if_pos e2, if_pos (show y < n + 1 by omega)]; omega
      · rw [if_neg e2, if_neg (show ¬ y < n + 1 by omega)]; omega
theorem sumN_congr {f f' : Nat → Nat} : ∀ n, (∀ r, r < n → f r = f' r) → sumN f n = sumN f' n
  | 0, _ => rfl
  | n + 1, h => by show sumN f n + f n = sumN f' n + f' n; rw [sumN_congr n (fun r hr => h r (by omega)), h n (by omega)]
def nH (g : FD) (s : SH) : Nat := sumN (fun h => cntN (s.2 h) g.2.1) g.1
theorem nH_do {W : Nat → Nat → Nat} {s : SH} {h r : Nat} (hr : r < g.2.1) (hh : h < g.1) (ha : s.2 h r = false) : nH g (doH g W s h r) = nH g s + 1 := by
  have h1 : nH g (doH g W s h r) = sumN (upN (fun h => cntN (s.2 h) g.2.1) h (cntN (s.2 h) g.2.1 + 1)) g.1 := sumN_congr _ (fun x hx => by
    show cntN (fun y => s.2 x y || (decide (x = h) && decide (y = r))) g.2.1 = upN _ _ _ x
    unfold upN
    by_cases e : x = h
    · subst e
      rw [if_pos rfl]
      simp only [decide_true, Bool.true_and]
      rw [cnt_set ha, if_pos hr]
    · rw [if_neg e]
      simp only [decide_eq_false e, Bool.false_and, Bool.or_false])
  have h2 := sum_up (f := fun h => cntN (s.2 h) g.2.1) (r := h) (v := cntN (s.2 h) g.2.1 + 1) g.1 hh
  have h3 : nH g s = sumN (fun h => cntN (s.2 h) g.2.1) g.1 := rfl
  omega
theorem hH_st (hg : okG g) {W : Nat → Nat → Nat} {s : SH} : lf (pH g W s) g.1 = 9 ∨ ∃ h r, lf (pH g W s) g.1 = h ∧ bq W h (aB g W s h) g.2.1 = r ∧ h < g.1 ∧ r < g.2.1 ∧ s.2 h r = false ∧ fuB g s.1 h = false ∧ enB g W h r = true ∧ stH g W s = doH g W s h r ∧ ∀ j, j < h → pH g W s j = false := by
  have hg1 := hg.1
  rcases lf_c (pH g W s) g.1 (by omega) with ⟨i1, i2⟩ | ⟨i1, i2, i3⟩
  · exact .inl i1
  · refine .inr ⟨_, _, rfl, rfl, i1, ?_⟩
    have e : stH g W s = doH g W s (lf (pH g W s) g.1) (bq W (lf (pH g W s) g.1) (aB g W s (lf (pH g W s) g.1)) g.2.1) := by
      unfold stH; rw [if_neg (by omega)]
    rw [e]
    generalize lf (pH g W s) g.1 = h at *
    unfold pH at i2
    simp only [Bool.and_eq_true, decide_eq_true_eq, Bool.not_eq_true'] at i2
    rcases bq_sp W h (aB g W s h) g.2.1 with ⟨j1, _⟩ | ⟨j1, j2⟩
    · exact absurd j1 i2.2
    · unfold aB at j2
      simp only [Bool.and_eq_true, Bool.not_eq_true'] at j2
      exact ⟨j1, j2.1, i2.1, j2.2, rfl, i3⟩
theorem hH_sum (hg : okG g) {W : Nat → Nat → Nat} : ∀ k, lf (pH g W (hH g W k)) g.1 = 9 ∨ nH g (hH g W (k + 1)) = k + 1
  | 0 => by
    rcases hH_st hg (W := W) (s := hH g W 0) with h | ⟨h, r, h1, h2, h3, h4, h5, h6, h7, h8, h9⟩
    · exact .inl h
    · refine .inr ?_
      show nH g (stH g W (hH g W 0)) = 1
      rw [h8, nH_do h4 h3 h5]
      have : nH g (hH g W 0) = 0 := sumN_ext (Nat.zero_le _) (fun r _ _ => cnt_0 (fun _ _ => rfl))
      omega
  | k + 1 => by
    rcases hH_sum hg (W := W) k with h0 | h0
    · exact .inl (by rw [hH_fix h0 1]; exact h0)
    · rcases hH_st hg (W := W) (s := hH g W (k + 1)) with h | ⟨h, r, h1, h2, h3, h4, h5, h6, h7, h8, h9⟩
      · exact .inl h
      · refine .inr ?_
        show nH g (stH g W (hH g W (k + 1))) = k + 1 + 1
        rw [h8, nH_do h4 h3 h5]; omega
theorem hH_end (hg : okG g) (W : Nat → Nat → Nat) : lf (pH g W (hH g W 20)) g.1 = 9 := by
  have hg1 := hg.1
  have hg2 := hg.2.1
  rcases hH_sum hg (W := W) 19 with h0 | h0
  · rw [hH_fix h0 1]; exact h0
  · rcases hH_st hg (W := W) (s := hH g W 20) with h | ⟨h, r, h1, h2, h3, h4, h5, h6, h7, h8, h9⟩
    · exact h
    · exfalso
      have hc : cntN ((hH g W 20).2 h) g.2.1 < g.2.1 := by
        have := cntN_strict (p := (hH g W 20).2 h) (q := fun _ => true) g.2.1 (fun _ _ _ => rfl) r h4 h5 rfl
        rw [cnt_all] at this; exact this
      have hs := sum_lt (f := fun h => cntN ((hH g W 20).2 h) g.2.1) (c := 5) g.1 (fun r _ => Nat.le_trans (cntN_le _ _) hg2) h3 (by show cntN _ _ < 5; omega)
      have h20 : sumN (fun h => cntN ((hH g W 20).2 h) g.2.1) g.1 = 20 := h0
      omega
theorem hH_stop (hg : okG g) {W : Nat → Nat → Nat} {k : Nat} (hk : k ≤ 20) (h : lf (pH g W (hH g W k)) g.1 = 9) : hH g W 20 = hH g W k := by
  have h1 := hH_fix h (20 - k)
  rw [show k + (20 - k) = 20 by omega] at h1
  exact h1
-- the class
def zI (n : Nat) : Bool := n != 32 && n != 14
theorem xba_ok {s : Nat → Nat → Nat} {q : SH} (c : CF g σ) (hg : okG g) (t : T12 g s σ) (hs : okS g s) {h : Nat} (hh : h < g.1) (h2 : ∀ r, r < g.2.1 → bt (σ.2.1 14 h) r = q.2 h r) : F_X4_bestToAsk (nI h) σ = some (hI (bq (Wo g s) h (aB g (Wo g s) q h) g.2.1)) := by
  have hg1 := hg.1
  have hg2 := hg.2.1
  unfold F_X4_bestToAsk
  refine lpD (fun n (b : Nat) i => F_X4_bestToAsk_b5 σ n (nI h) (hI b) (nI i)) g.2.1 (fun i => bq (Wo g s) h (aB g (Wo g s) q h) i) _ ?_ ?_ 4000 (by omega)
  · intro n
    simp only [F_X4_bestToAsk_b5]
    rw [c.2.1, if_pos (nI_le (Nat.le_refl _) (by omega))]
  · intro n i hi
    have h3 := bq_sp (Wo g s) h (aB g (Wo g s) q h) i
    have e0 : F_X4_bestToAsk_b5 σ (n + 1) (nI h) (hI (bq (Wo g s) h (aB g (Wo g s) q h) i)) (nI i) = F_X4_bestToAsk_b48 σ (F_X4_bestToAsk_b5 σ n) (nI h) (hI (bq (Wo g s) h (aB g (Wo g s) q h) i)) (nI i) (bI (aB g (Wo g s) q h i)) := by
      simp only [F_X4_bestToAsk_b5]
      rw [c.2.1, if_neg (nI_ge hi (by omega)), at_14 (by omega), Option.bind_some, ct_ok _ (by omega), h2 i hi, Option.bind_some, en_ok t c hg hs hh hi, Option.bind_some]
      unfold aB
      cases q.2 h i <;> cases enB g (Wo g s) h i <;> rfl
    rw [e0]
    unfold F_X4_bestToAsk_b48
    simp only [bq]
    by_cases e1 : aB g (Wo g s) q h i = true
    · rw [e1, if_neg (by decide), if_pos rfl, nI_1]
      by_cases e2 : bq (Wo g s) h (aB g (Wo g s) q h) i = 9
      · rw [if_pos (by rw [hI_m9 (by omega)]; exact e2), if_pos e2, hI_n (w := i) (by omega)]
      · rw [if_neg (by rw [hI_m9 (by omega)]; exact e2), if_neg e2, hI_n e2, hl_ok t hg hs hh hi (by omega), Option.bind_some]
        by_cases e3 : hlB (Wo g s) h i (bq (Wo g s) h (aB g (Wo g s) q h) i) = true
        · rw [e3, if_neg (by decide), if_pos rfl, hI_n (w := i) (by omega)]
        · rw [Bool.not_eq_true] at e3
          rw [e3, if_pos (show bI false = 0 from rfl), if_neg (by decide), hI_n e2]
    · rw [Bool.not_eq_true] at e1
      rw [e1, if_pos (show bI false = 0 from rfl), if_neg (by decide), nI_1]
theorem xla_ok {s : Nat → Nat → Nat} {q : SH} (c : CF g σ) (hg : okG g) (t : T12 g s σ) (hs : okS g s) (h1 : CW 17 q.1 σ) (hw : okY g q.1) (h2 : ∀ h r, h < g.1 → r < g.2.1 → bt (σ.2.1 14 h) r = q.2 h r) : F_X4_leastToAsk σ = some (hI (lf (pH g (Wo g s) q) g.1)) := by
  have hg1 := hg.1
  have hg2 := hg.2.1
  unfold F_X4_leastToAsk
  refine lp (fun n (a : Unit) i => F_X4_leastToAsk_b2 σ n (nI i)) (fun o => o = some (hI (lf (pH g (Wo g s) q) g.1))) g.1 (fun i _ => ∀ j, j < i → pH g (Wo g s) q j = false) ?_ ?_ g.1 0 () 4000 (by omega) (by omega) (by omega) (fun j hj => absurd hj (Nat.not_lt_zero _))
  · intro n _ hp
    simp only [F_X4_leastToAsk_b2]
    rw [c.1, if_pos (nI_le (Nat.le_refl _) (by omega)), lf_n _ hp]; rfl
  · intro n _ i hi hp
    have h4 : kc q.1 i ≤ 5 := cntN_le (kpB q.1 i) 5
    have h5 := (hg.2.2.1 i hi).2.1
    have h3 := bq_sp (Wo g s) i (aB g (Wo g s) q i) g.2.1
    have next : pH g (Wo g s) q i = false → F_X4_leastToAsk_b2 σ (n + 1) (nI i) = F_X4_leastToAsk_b2 σ n (nI (i + 1)) → (F_X4_leastToAsk_b2 σ (n + 1) (nI i) = some (hI (lf (pH g (Wo g s) q) g.1)) ∨ ∃ a' : Unit, (∀ j, j < i + 1 → pH g (Wo g s) q j = false) ∧ F_X4_leastToAsk_b2 σ (n + 1) (nI i) = F_X4_leastToAsk_b2 σ n (nI (i + 1))) := fun h3 h4 => .inr ⟨(), fun j hj => by
      by_cases e : j = i
      · rw [e]; exact h3
      · exact hp j (by omega), h4⟩
    have e0 : F_X4_leastToAsk_b2 σ (n + 1) (nI i) = (if nI (g.2.2 0 i) ≤ nI (kc q.1 i) then F_X4_leastToAsk_b2 σ n (nI (i + 1)) else if hI (bq (Wo g s) i (aB g (Wo g s) q i) g.2.1) = (-9 : Int32) then F_X4_leastToAsk_b2 σ n (nI (i + 1)) else some (nI i)) := by
      simp only [F_X4_leastToAsk_b2]
      rw [c.1, if_neg (nI_ge hi (by omega)), kc_ok (by omega) h1 (fun x hx => okW_b hw hg hx) (by omega), Option.bind_some, at_1 (by omega), cf_k c hi, Option.bind_some, xba_ok c hg t hs hi (fun r hr => h2 i r hi hr), Option.bind_some, nI_1]
    by_cases e1 : g.2.2 0 i ≤ kc q.1 i
    · refine next (by unfold pH fuB; rw [decide_eq_true e1]; rfl) ?_
      rw [e0, if_pos (nI_le e1 (by omega))]
    · by_cases e2 : bq (Wo g s) i (aB g (Wo g s) q i) g.2.1 = 9
      · refine next (by unfold pH; rw [decide_eq_false (fun q => q e2), Bool.and_false]) ?_
        rw [e0, if_neg (nI_ge (by omega) (by omega)), if_pos (by rw [e2]; rfl)]
      · refine .inl ?_
        have e4 : pH g (Wo g s) q i = true := by unfold pH fuB; rw [decide_eq_false e1, decide_eq_true e2]; rfl
        rw [e0, if_neg (nI_ge (by omega) (by omega)), if_neg (by rw [hI_m9 (by omega)]; exact e2), lf_s hp e4 (by omega) _ hi, hI_n (by omega)]
theorem xhh_ok {s : Nat → Nat → Nat} (c : CF g σ) (hg : okG g) (t : T12 g s σ) (hs : okS g s) : ∃ σ', F_X4_holdByHorses σ = some σ' ∧ Fq (fun _ => true) zI true σ σ' ∧ CW 17 (hH g (Wo g s) 20).1 σ' := by
  have hg1 := hg.1
  have hg2 := hg.2.1
  unfold F_X4_holdByHorses F_X7_clear
  obtain ⟨σ1, a1, a2, a3⟩ := fill_ok (σ := σ) (n := 15 + 17) (v := (-9 : Int32))
  obtain ⟨σ2, b1, b2, b3⟩ := fill_ok (σ := σ1) (n := 14) (v := (0 : Int32))
  rw [a1, Option.bind_some, Option.bind_some, b1, Option.bind_some]
  have F2 : Fq (fun _ => true) zI true σ σ2 := Fq_t (Fq_w a2 (fun _ _ => rfl) (fun n h => by simp [zI] at h ⊢; omega) (fun h => h)) (Fq_w b2 (fun _ _ => rfl) (fun n h => by simp [zI] at h ⊢; omega) (fun h => h))
  have h0 : CW 17 (hH g (Wo g s) 0).1 σ2 := fun r hr => by rw [b2.2.1 _ rfl]; exact a3 r hr
  refine lp (fun n (a : Mem) i => F_X4_holdByHorses_b17 n (nI i) a) (fun o => ∃ σ', o = some σ' ∧ Fq (fun _ => true) zI true σ σ' ∧ CW 17 (hH g (Wo g s) 20).1 σ') 20 (fun i a => Fq (fun _ => true) zI true σ a ∧ CW 17 (hH g (Wo g s) i).1 a ∧ ∀ h r, h < g.1 → r < g.2.1 → bt (a.2.1 14 h) r = (hH g (Wo g s) i).2 h r) ?_ ?_ 20 0 σ2 4000 (by omega) (by omega) (by omega) ⟨F2, h0, fun h r hh hr => by rw [b3 h (by show h < 4; omega)]; exact b_0 r⟩
  · intro n a ⟨p1, p2, p3⟩
    simp only [F_X4_holdByHorses_b17]
    rw [if_pos (show (20 : Int32) ≤ nI 20 from Int32.le_refl _)]
    exact ⟨a, rfl, p1, p2⟩
  · intro n a i hi ⟨p1, p2, p3⟩
    have c' := CF_fr c p1
    have t' : T12 g s a := by unfold T12; rw [p1.2.1 12 rfl]; exact t
    have ok := hH_ok hg (Wo g s) i
    have hll := xla_ok c' hg t' hs p2 ok p3
    rcases hH_st hg (W := Wo g s) (s := hH g (Wo g s) i) with i1 | ⟨h, r, h1, h2, h3, h4, h5, h6, h7, h8, h9⟩
    · refine .inl ⟨a, ?_, p1, by rw [hH_stop hg (by omega) i1]; exact p2⟩
      simp only [F_X4_holdByHorses_b17]
      rw [if_neg (show ¬ (20 : Int32) ≤ nI i from nI_ge (b := 20) hi (by omega)), hll, i1, Option.bind_some, if_pos hI_9]
    · rw [h1, hI_n (by omega)] at hll
      have hba := xba_ok (q := hH g (Wo g s) i) c' hg t' hs h3 (fun r hr => p3 h r h3 hr)
      rw [h2, hI_n (by omega)] at hba
      have es : hH g (Wo g s) (i + 1) = doH g (Wo g s) (hH g (Wo g s) i) h r := h8
      have hr5 : r < 5 := by omega
      have F3 : Fq (fun _ => true) zI true a (sA a 14 h (a.2.1 14 h ||| ((1 : Int32) <<< (nI r &&& 31)))) := Fq_sA (Fq_r a)
      have c3 := CF_fr c' F3
      have p2' : CW 17 (hH g (Wo g s) i).1 (sA a 14 h (a.2.1 14 h ||| ((1 : Int32) <<< (nI r &&& 31)))) := p2
      have b3' : ∀ x y, x < g.1 → y < g.2.1 → bt ((sA a 14 h (a.2.1 14 h ||| ((1 : Int32) <<< (nI r &&& 31)))).2.1 14 x) y = (hH g (Wo g s) (i + 1)).2 x y := fun x y hx hy => by
        rw [es, sA_2, if_pos rfl, upd_ap]
        show _ = ((hH g (Wo g s) i).2 x y || (decide (x = h) && decide (y = r)))
        by_cases ex : x = h
        · subst ex
          rw [if_pos rfl, or_bt _ (by omega) (by omega), p3 x y hx hy, decide_eq_true rfl, Bool.true_and]
        · rw [if_neg ex, p3 x y hx hy, decide_eq_false ex, Bool.false_and, Bool.or_false]
      have hE : F_X4_holdByHorses_b17 (n + 1) (nI i) a = (if bI (rlO g r h ((hH g (Wo g s) i).1 r)) = 0 then F_X4_holdByHorses_b17 n (nI (i + 1)) (sA a 14 h (a.2.1 14 h ||| ((1 : Int32) <<< (nI r &&& 31)))) else Option.bind (F_X7_set 17 (nI r) (nI h) (sA a 14 h (a.2.1 14 h ||| ((1 : Int32) <<< (nI r &&& 31))))) fun σ9 => F_X4_holdByHorses_b17 n (nI (i + 1)) σ9) := by
        simp only [F_X4_holdByHorses_b17]
        rw [if_neg (show ¬ (20 : Int32) ≤ nI i from nI_ge (b := 20) hi (by omega)), hll, Option.bind_some, if_neg (by rw [nI_n9 (by omega)]; exact id), hba, Option.bind_some, at_14 (by omega), Option.bind_some, put_14 (by omega), Option.bind_some, hof_ok (by omega) p2' hr5, Option.bind_some, xl_ok c3 hg h4 h3 (okY_v ok hr5), Option.bind_some, nI_1]
      have e1 : (hH g (Wo g s) (i + 1)).1 = (if rlO g r h ((hH g (Wo g s) i).1 r) then upN (hH g (Wo g s) i).1 r h else (hH g (Wo g s) i).1) := by rw [es]; rfl
      by_cases e : rlO g r h ((hH g (Wo g s) i).1 r) = true
      · have s3 := set_ok (k := 17) (by omega) p2' (r := r) (h := h) hr5
        rw [hI_n (w := h) (by omega)] at s3
        rw [if_pos e] at e1
        refine .inr ⟨_, ⟨Fq_t p1 (Fq_t F3 (Fq_sA (n := 15 + 17) (i := r) (v := nI h) (Fq_r _))), by rw [e1]; exact s3.2, fun x y hx hy => b3' x y hx hy⟩, ?_⟩
        rw [hE, e, if_neg (by decide), s3.1, Option.bind_some]
      · rw [if_neg e] at e1
        rw [Bool.not_eq_true] at e
        refine .inr ⟨_, ⟨Fq_t p1 F3, by rw [e1]; exact p2', b3'⟩, ?_⟩
        rw [hE, e, if_pos (show bI false = 0 from rfl)]
