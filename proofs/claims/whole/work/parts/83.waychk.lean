-- what a way is held against: the class
variable {g : FD} {P : PD} {σ σ' : Mem}
def isW (g : FD) (w : Nat → Nat) : Bool := alB2 (fun h => decide (kc w h ≤ g.2.2 0 h)) g.1
def alE (g : FD) (W : Nat → Nat → Nat) (w : Nat → Nat) (n : Nat) : Bool := alB2 (fun r => decide (w r = 9) || enB g W (w r) r) n
def noB (g : FD) (W : Nat → Nat → Nat) (w : Nat → Nat) (n : Nat) : Bool := alB2 (fun r => alB2 (fun h => !boB g W w r h) g.1) n
theorem xiw_ok {w : Nat → Nat} (c : CF g σ) (hg : okG g) (hw : okY g w) (h8 : CW 18 w σ) : F_X8_isWay σ = some (bI (isW g w)) := by
  have hg1 := hg.1
  unfold F_X8_isWay
  refine lp (fun n (_ : Unit) h => F_X8_isWay_b2 σ n (nI h)) (fun o => o = some (bI (isW g w))) g.1 (fun i _ => ∀ h, h < i → decide (kc w h ≤ g.2.2 0 h) = true) ?_ ?_ g.1 0 () 4000 (by omega) (by omega) (by omega) (fun h hh => absurd hh (Nat.not_lt_zero _))
  · intro n _ hp
    simp only [F_X8_isWay_b2]
    rw [c.1, if_pos (nI_le (Nat.le_refl _) (by omega))]
    unfold isW
    rw [al_t g.1 hp]; rfl
  · intro n _ i hi hp
    have h3 : kc w i ≤ 5 := cntN_le (kpB w i) 5
    have h2 := (hg.2.2.1 i hi).2.1
    simp only [F_X8_isWay_b2]
    rw [c.1, if_neg (nI_ge hi (by omega)), kc_ok (by omega) h8 (fun x hx => okW_b hw hg hx) (by omega), Option.bind_some, at_1 (by omega), cf_k c hi, Option.bind_some, if_le (by omega) (by omega), nI_1]
    by_cases q : kc w i ≤ g.2.2 0 i
    · refine .inr ⟨(), fun h hh => ?_, by rw [if_pos q]⟩
      by_cases e : h = i
      · rw [e]; exact decide_eq_true q
      · exact hp h (by omega)
    · refine .inl ?_
      rw [if_neg q]
      unfold isW
      rw [al_f (decide_eq_false q) g.1 hi]; rfl
theorem xae_ok {w : Nat → Nat} {s : Nat → Nat → Nat} (c : CF g σ) (hg : okG g) (hw : okY g w) (h8 : CW 18 w σ) (t : T12 g s σ) (hs : okS g s) : F_X8_allEnough σ = some (bI (alE g (Wo g s) w g.2.1)) := by
  have hg1 := hg.1
  have hg2 := hg.2.1
  unfold F_X8_allEnough
  refine lp (fun n (_ : Unit) r => F_X8_allEnough_b2 σ n (nI r)) (fun o => o = some (bI (alE g (Wo g s) w g.2.1))) g.2.1 (fun i _ => ∀ r, r < i → (decide (w r = 9) || enB g (Wo g s) (w r) r) = true) ?_ ?_ g.2.1 0 () 4000 (by omega) (by omega) (by omega) (fun h hh => absurd hh (Nat.not_lt_zero _))
  · intro n _ hp
    simp only [F_X8_allEnough_b2]
    rw [c.2.1, if_pos (nI_le (Nat.le_refl _) (by omega))]
    unfold alE
    rw [al_t g.2.1 hp]; rfl
  · intro n _ i hi hp
    have hwi := okY_v hw (r := i) (by omega)
    have step : (decide (w i = 9) || enB g (Wo g s) (w i) i) = true → ∀ r, r < i + 1 → (decide (w r = 9) || enB g (Wo g s) (w r) r) = true := fun h0 r hr => by
      by_cases e : r = i
      · rw [e]; exact h0
      · exact hp r (by omega)
    simp only [F_X8_allEnough_b2]
    rw [c.2.1, if_neg (nI_ge hi (by omega)), hof_ok (by omega) h8 (by omega), Option.bind_some, nI_1]
    by_cases q : w i = 9
    · refine .inr ⟨(), step (by rw [decide_eq_true q]; rfl), by rw [if_pos (by rw [q]; rfl)]⟩
    · rw [if_neg (by rw [hI_m9 (by omega)]; exact q), hI_n q, en_ok t c hg hs (show w i < g.1 by omega) hi, Option.bind_some]
      by_cases q2 : enB g (Wo g s) (w i) i = true
      · refine .inr ⟨(), step (by rw [q2, Bool.or_true]), by rw [q2, if_neg (by decide)]⟩
      · rw [Bool.not_eq_true] at q2
        refine .inl ?_
        rw [q2, if_pos (show bI false = 0 from rfl)]
        unfold alE
        rw [al_f (i := i) (by rw [q2, decide_eq_false q]; rfl) g.2.1 hi]; rfl
theorem xnb_in {w : Nat → Nat} {s : Nat → Nat → Nat} (c : CF g σ) (hg : okG g) (hw : okY g w) (h8 : CW 18 w σ) (t : T12 g s σ) (hs : okS g s) (kL : Int32 → Option Int32) {r : Nat} (hr : r < g.2.1) : F_X8_nobodyBolts_b15 σ kL 4000 (nI r) (0 : Int32) = if alB2 (fun h => !boB g (Wo g s) w r h) g.1 then kL (nI (r + 1)) else some 0 := by
  have hg1 := hg.1
  have hg2 := hg.2.1
  refine lp (fun n (_ : Unit) h => F_X8_nobodyBolts_b15 σ kL n (nI r) (nI h)) (fun o => o = if alB2 (fun h => !boB g (Wo g s) w r h) g.1 then kL (nI (r + 1)) else some 0) g.1 (fun i _ => ∀ h, h < i → (!boB g (Wo g s) w r h) = true) ?_ ?_ g.1 0 () 4000 (by omega) (by omega) (by omega) (fun h hh => absurd hh (Nat.not_lt_zero _))
  · intro n _ hp
    simp only [F_X8_nobodyBolts_b15]
    rw [c.1, if_pos (nI_le (Nat.le_refl _) (by omega)), nI_1, al_t g.1 hp, if_pos rfl]
  · intro n _ i hi hp
    simp only [F_X8_nobodyBolts_b15]
    rw [c.1, if_neg (nI_ge hi (by omega)), xb_ok (by omega) h8 c hg hw t hs hr hi, Option.bind_some, nI_1]
    by_cases q : boB g (Wo g s) w r i = true
    · refine .inl ?_
      rw [q, if_neg (by decide), al_f (i := i) (by rw [q]; rfl) g.1 hi, if_neg (by decide)]
    · rw [Bool.not_eq_true] at q
      refine .inr ⟨(), fun h hh => ?_, by rw [q, if_pos (show bI false = 0 from rfl)]⟩
      by_cases e : h = i
      · rw [e, q]; rfl
      · exact hp h (by omega)
theorem xnb_ok {w : Nat → Nat} {s : Nat → Nat → Nat} (c : CF g σ) (hg : okG g) (hw : okY g w) (h8 : CW 18 w σ) (t : T12 g s σ) (hs : okS g s) : F_X8_nobodyBolts σ = some (bI (noB g (Wo g s) w g.2.1)) := by
  have hg2 := hg.2.1
  unfold F_X8_nobodyBolts
  refine lp (fun n (_ : Unit) r => F_X8_nobodyBolts_b2 σ n (nI r)) (fun o => o = some (bI (noB g (Wo g s) w g.2.1))) g.2.1 (fun i _ => ∀ r, r < i → alB2 (fun h => !boB g (Wo g s) w r h) g.1 = true) ?_ ?_ g.2.1 0 () 4000 (by omega) (by omega) (by omega) (fun h hh => absurd hh (Nat.not_lt_zero _))
  · intro n _ hp
    simp only [F_X8_nobodyBolts_b2]
    rw [c.2.1, if_pos (nI_le (Nat.le_refl _) (by omega))]
    unfold noB
    rw [al_t g.2.1 hp]; rfl
  · intro n _ i hi hp
    simp only [F_X8_nobodyBolts_b2]
    rw [c.2.1, if_neg (nI_ge hi (by omega)), xnb_in c hg hw h8 t hs _ hi]
    by_cases q : alB2 (fun h => !boB g (Wo g s) w i h) g.1 = true
    · refine .inr ⟨(), fun r hr => ?_, by rw [if_pos q]⟩
      by_cases e : r = i
      · rw [e]; exact q
      · exact hp r (by omega)
    · refine .inl ?_
      rw [if_neg q]
      unfold noB
      rw [al_f (i := i) ((Bool.not_eq_true _).mp q) g.2.1 hi]; rfl
-- points
def pS (g : FD) (W : Nat → Nat → Nat) (w : Nat → Nat) (r : Nat) : Nat := if w r = 9 then 0 else g.2.2 4 (w r) + W (w r) r / 10
def pts (g : FD) (W : Nat → Nat → Nat) (w : Nat → Nat) (n : Nat) : Nat := sumN (pS g W w) n
theorem pts_s (g : FD) (W : Nat → Nat → Nat) (w : Nat → Nat) (n : Nat) : pts g W w (n + 1) = pts g W w n + pS g W w n := rfl
theorem xpt_ok {w : Nat → Nat} {s : Nat → Nat → Nat} (c : CF g σ) (hg : okG g) (hw : okY g w) (h8 : CW 18 w σ) (t : T12 g s σ) (hs : okS g s) : F_X8_pointsOfWay σ = some (nI (pts g (Wo g s) w g.2.1)) := by
  have hg1 := hg.1
  have hg2 := hg.2.1
  unfold F_X8_pointsOfWay
  refine lpD (fun n (a : Nat) r => F_X8_pointsOfWay_b4 σ n (nI a) (nI r)) g.2.1 (fun i => pts g (Wo g s) w i) _ ?_ ?_ 4000 (by omega)
  · intro n
    simp only [F_X8_pointsOfWay_b4]
    rw [c.2.1, if_pos (nI_le (Nat.le_refl _) (by omega))]
  · intro n i hi
    have hwi := okY_v hw (r := i) (by omega)
    simp only [F_X8_pointsOfWay_b4]
    rw [c.2.1, if_neg (nI_ge hi (by omega)), hof_ok (by omega) h8 (by omega), Option.bind_some, nI_1, pts_s]
    unfold pS
    by_cases q : w i = 9
    · rw [if_pos (by rw [q]; rfl), if_pos q]; rfl
    · have hh : w i < g.1 := by omega
      have hwo := Wo_le hg hs hh hi
      unfold F_X9_points
      rw [if_neg (by rw [hI_m9 (by omega)]; exact q), if_neg q, hI_n q, at_3 (by omega), cf_s c hh, Option.bind_some, of_ok t hg hh hi, Option.bind_some, Option.bind_some, show (10 : Int32) = nI 10 from rfl, pk_div (by omega) (by omega) (by omega), nI_add, nI_add]
-- what a way is held against: the reference (riders that there are alone)
theorem ksV {n : Nat} {w : Nat → Nat} (hn : 5 ≤ alen n) (d : MF g σ) (hg : okG g) (c : MV g n w σ) (hw : okY g w) {h : Nat} (hh : h < 9) : F_X11_keeps n (nI h) σ = some (nI (bits (kpB w h) 5)) := by
  have hg2 := hg.2.1
  rw [bits_ext hg2 (fun r h1 h2 => by unfold kpB; rw [okW_9 hw h2 h1]; exact decide_eq_false (by omega))]
  unfold F_X11_keeps
  refine lpD (fun m (a : Nat) i => F_X11_keeps_b5 n σ m (nI h) (nI a) (nI i)) g.2.1 (fun i => bits (kpB w h) i) _ ?_ ?_ 4000 (by omega)
  · intro m
    simp only [F_X11_keeps_b5]
    rw [d.2.1, if_pos (nI_le (Nat.le_refl _) (by omega))]
  · intro m i hi
    have h1 := okW_b hw hg (r := i) (by omega)
    have h2 := bits_lt (kpB w h) i
    simp only [F_X11_keeps_b5]
    rw [d.2.1, if_neg (nI_ge hi (by omega)), rdA_ok (by omega) (by omega), c i hi, Option.bind_some, nI_1, bits_s]
    by_cases e : w i = h
    · rw [if_pos (by rw [hI_e (by omega) (by omega)]; exact e), or_bit i (by omega) _ h2, show kpB w h i = true from decide_eq_true e]; rfl
    · rw [if_neg (by rw [hI_e (by omega) (by omega)]; exact e), or_0, show kpB w h i = false from decide_eq_false e]; rfl
theorem fuV {n : Nat} {w : Nat → Nat} (hn : 5 ≤ alen n) (d : MF g σ) (hg : okG g) (c : MV g n w σ) (hw : okY g w) {h : Nat} (hh : h < g.1) : F_X11_isFull n (nI h) σ = some (bI (fuB g w h)) := by
  have := hg.1
  have h1 := cntN_le (kpB w h) 5
  have h2 := (hg.2.2.1 h hh).2.1
  unfold F_X11_isFull
  rw [ksV hn d hg c hw (by omega), Option.bind_some, mn_ok, Option.bind_some, show (7 : Int32) = nI 7 from rfl, pk_mul, rd_54 (by omega), mf_h0 d hh, Option.bind_some]
  unfold fuB bI kc
  by_cases e : cntN (kpB w h) 5 < g.2.2 0 h
  · rw [if_pos (nI_lt e (by omega)), decide_eq_false (by omega)]; rfl
  · rw [if_neg (nI_nlt (by omega) (by omega)), decide_eq_true (by omega)]; rfl
theorem loV {n : Nat} {w : Nat → Nat} {d x : Nat → Nat} (hn : 5 ≤ alen n) (m : MF g σ) (hg : okG g) (c : MV g n w σ) (hw : okY g w) (e0 : MD d x σ) {h : Nat} (hh : h < g.1) : F_X11_leastOf n (nI h) σ = some (hI (lst (Wo g (sh g d x)) w h 5)) := by
  have hg1 := hg.1
  have hg2 := hg.2.1
  rw [lst_ext _ hg2 (fun r h1 h2 => by rw [okW_9 hw h2 h1]; omega)]
  unfold F_X11_leastOf
  refine lpD (fun m (a : Nat) i => F_X11_leastOf_b6 n σ m (nI h) (hI a) (nI i)) g.2.1 (fun i => lst (Wo g (sh g d x)) w h i) _ ?_ ?_ 4000 (by omega)
  · intro q
    simp only [F_X11_leastOf_b6]
    rw [m.2.1, if_pos (nI_le (Nat.le_refl _) (by omega))]
  · intro q i hi
    have h1 := okW_b hw hg (r := i) (by omega)
    have h2 := lst_in (Wo g (sh g d x)) w h i
    simp only [F_X11_leastOf_b6]
    rw [m.2.1, if_neg (nI_ge hi (by omega)), rdA_ok (by omega) (by omega), c i hi, Option.bind_some, nI_1]
    simp only [lst]
    by_cases e : w i = h
    · rw [if_pos (by rw [hI_e (by omega) (by omega)]; exact e), if_pos e]
      by_cases e1 : lst (Wo g (sh g d x)) w h i = 9
      · rw [if_pos (by rw [hI_m9 (by omega)]; exact e1), if_pos e1, hI_n (w := i) (by omega)]
      · rw [if_neg (by rw [hI_m9 (by omega)]; exact e1), if_neg e1]
        have h3 : lst (Wo g (sh g d x)) w h i < i := by omega
        rw [hI_n e1, lr_ok m hg e0 hh (by omega) hi, Option.bind_some]
        by_cases e2 : hlB (Wo g (sh g d x)) h (lst (Wo g (sh g d x)) w h i) i = true
        · rw [if_neg (by rw [e2]; decide), if_pos e2, hI_n (w := i) (by omega)]
        · rw [if_pos (by rw [Bool.not_eq_true] at e2; rw [e2]; rfl), if_neg e2, hI_n e1]
    · rw [if_neg (by rw [hI_e (by omega) (by omega)]; exact e), if_neg e]
theorem mbV {n : Nat} {w : Nat → Nat} {d x : Nat → Nat} (hn : 5 ≤ alen n) (m : MF g σ) (hg : okG g) (c : MV g n w σ) (hw : okY g w) (e0 : MD d x σ) {r h : Nat} (hr : r < g.2.1) (hh : h < g.1) : F_X11_bolt n (nI r) (nI h) σ = some (bI (boB g (Wo g (sh g d x)) w r h)) := by
  have hg1 := hg.1; have hg2 := hg.2.1
  have hwr := okY_v hw (r := r) (by omega)
  unfold F_X11_bolt
  rw [rdA_ok (by omega) (by omega), c r hr, Option.bind_some]
  by_cases e9 : w r = h
  · rw [if_pos (by rw [hI_e (by omega) (by omega)]; exact e9)]
    have : rlO g r h (w r) = false := by
      unfold rlO; rw [decide_eq_false (by omega), e9, rl_irr]; rfl
    unfold boB
    rw [this, Bool.false_and, Bool.and_false]; rfl
  · rw [if_neg (by rw [hI_e (by omega) (by omega)]; exact e9)]
    unfold boB
    rw [ie_ok m hg e0 hh hr, Option.bind_some]
    by_cases e : enB g (Wo g (sh g d x)) h r = true
    · rw [e, if_neg (by decide), Option.bind_some, ml_ok m hg hr hh hwr, Option.bind_some]
      by_cases e2 : rlO g r h (w r) = true
      · rw [e2, if_neg (by decide), fuV hn m hg c hw hh, Option.bind_some]
        by_cases e1 : fuB g w h = true
        · have e4 := lst_full hg (Wo g (sh g d x)) hh (w := w) (of_decide_eq_true e1)
          have e5 : lst (Wo g (sh g d x)) w h 5 < g.2.1 := by rcases hw _ e4.1 with q | q <;> omega
          rw [e1, if_neg (by decide), loV hn m hg c hw e0 hh, Option.bind_some, hI_n (w := lst (Wo g (sh g d x)) w h 5) (by omega), lr_ok m hg e0 hh hr e5, Option.bind_some]
          by_cases e6 : hlB (Wo g (sh g d x)) h r (lst (Wo g (sh g d x)) w h 5) = true
          · rw [e6, if_neg (by decide)]; rfl
          · rw [Bool.not_eq_true] at e6
            rw [e6, if_pos (show bI false = 0 from rfl)]; rfl
        · rw [Bool.not_eq_true] at e1
          rw [e1, if_pos (show bI false = 0 from rfl)]; rfl
      · rw [Bool.not_eq_true] at e2
        rw [e2, if_pos (show bI false = 0 from rfl)]; rfl
    · rw [Bool.not_eq_true] at e
      rw [e, if_pos (show bI false = 0 from rfl)]; rfl
theorem mpV_in {n : Nat} {w : Nat → Nat} {d x : Nat → Nat} (hn : 5 ≤ alen n) (m : MF g σ) (hg : okG g) (c : MV g n w σ) (hw : okY g w) (e0 : MD d x σ) {r a : Nat} (hr : r < g.2.1) (kL : Int32 → Int32 → Option Int32) : F_X11_boltsOf_b15 n σ kL 4000 (nI a) (nI r) (nI 0) = kL (nI (a + cntN (fun h => boB g (Wo g (sh g d x)) w r h) g.1)) (nI (r + 1)) := by
  have := hg.1
  refine lpD (fun k (b : Nat) i => F_X11_boltsOf_b15 n σ kL k (nI b) (nI r) (nI i)) g.1 (fun i => a + cntN (fun h => boB g (Wo g (sh g d x)) w r h) i) _ ?_ ?_ 4000 (by omega)
  · intro k
    simp only [F_X11_boltsOf_b15]
    rw [m.1, if_pos (nI_le (Nat.le_refl _) (by omega)), nI_1]
  · intro k i hi
    simp only [F_X11_boltsOf_b15]
    rw [m.1, if_neg (nI_ge hi (by omega)), mbV hn m hg c hw e0 hr hi, Option.bind_some, nI_1, cntN_s]
    by_cases e : boB g (Wo g (sh g d x)) w r i = true
    · rw [e, if_neg (by decide), show (1 : Int32) = nI 1 from rfl, nI_add]; rfl
    · rw [Bool.not_eq_true] at e; rw [e, if_pos (show bI false = 0 from rfl), show (0 : Int32) = nI 0 from rfl, nI_add]; rfl
theorem mpV {n : Nat} {w : Nat → Nat} {d x : Nat → Nat} (hn : 5 ≤ alen n) (m : MF g σ) (hg : okG g) (c : MV g n w σ) (hw : okY g w) (e0 : MD d x σ) : F_X11_boltsOf n σ = some (nI (npB g (Wo g (sh g d x)) w g.2.1)) := by
  have := hg.2.1
  unfold F_X11_boltsOf
  refine lpD (fun k (b : Nat) i => F_X11_boltsOf_b4 n σ k (nI b) (nI i)) g.2.1 (fun i => npB g (Wo g (sh g d x)) w i) _ ?_ ?_ 4000 (by omega)
  · intro k
    simp only [F_X11_boltsOf_b4]
    rw [m.2.1, if_pos (nI_le (Nat.le_refl _) (by omega))]
  · intro k i hi
    simp only [F_X11_boltsOf_b4]
    rw [m.2.1, if_neg (nI_ge hi (by omega))]
    exact mpV_in hn m hg c hw e0 hi _
theorem al_p {p : Nat → Bool} : ∀ n, (alB2 p n = true) → ∀ i, i < n → p i = true
  | 0, _, i, hi => absurd hi (Nat.not_lt_zero _)
  | n + 1, h, i, hi => by
    have h2 : (alB2 p n && p n) = true := h
    rw [Bool.and_eq_true] at h2
    by_cases e : i = n
    · rw [e]; exact h2.2
    · exact al_p n h2.1 i (by omega)
theorem np0 (g : FD) (W : Nat → Nat → Nat) (w : Nat → Nat) : ∀ n, decide (npB g W w n = 0) = noB g W w n
  | 0 => rfl
  | n + 1 => by
    have ih := np0 g W w n
    have e1 : npB g W w (n + 1) = npB g W w n + cntN (fun h => boB g W w n h) g.1 := rfl
    have e2 : noB g W w (n + 1) = (noB g W w n && alB2 (fun h => !boB g W w n h) g.1) := rfl
    rw [e1, e2, ← ih]
    by_cases q : cntN (fun h => boB g W w n h) g.1 = 0
    · have : alB2 (fun h => !boB g W w n h) g.1 = true := al_t g.1 (fun i hi => by
        cases hb : boB g W w n i with
        | false => rfl
        | true => have := cntN_p (p := fun h => boB g W w n h) g.1 i hi hb; omega)
      rw [this, Bool.and_true, q, Nat.add_zero]
    · have : ¬ alB2 (fun h => !boB g W w n h) g.1 = true := fun h => q (cntN_0 g.1 (fun i hi => by
        have := al_p g.1 h i hi
        cases hb : boB g W w n i with
        | false => rfl
        | true => rw [hb] at this; cases this))
      rw [(Bool.not_eq_true _).mp this, Bool.and_false]
      exact decide_eq_false (by omega)
theorem miw_ok {w : Nat → Nat} (m : MF g σ) (hg : okG g) (hw : okY g w) (h0 : MV g 64 w σ) : F_X11_isWay σ = some (bI (isW g w)) := by
  have hg1 := hg.1
  unfold F_X11_isWay
  refine lp (fun n (q : Bool) h => F_X11_isWay_b4 σ n (bI q) (nI h)) (fun o => o = some (bI (isW g w))) g.1 (fun i q => q = alB2 (fun h => decide (kc w h ≤ g.2.2 0 h)) i) ?_ ?_ g.1 0 true 4000 (by omega) (by omega) (by omega) rfl
  · intro n q hq
    subst hq
    simp only [F_X11_isWay_b4]
    rw [m.1, if_pos (nI_le (Nat.le_refl _) (by omega))]
    unfold isW
    cases alB2 (fun h => decide (kc w h ≤ g.2.2 0 h)) g.1 <;> rfl
  · intro n q i hi hq
    cases q with
    | false =>
      refine .inl ?_
      have hz : ∀ d, alB2 (fun h => decide (kc w h ≤ g.2.2 0 h)) (i + d) = false := fun d => by
        induction d with
        | zero => exact hq.symm
        | succ d ih => show (alB2 (fun h => decide (kc w h ≤ g.2.2 0 h)) (i + d) && _) = false; rw [ih]; rfl
      have h2 := hz (g.1 - i)
      rw [show i + (g.1 - i) = g.1 by omega] at h2
      show F_X11_isWay_b4 σ (n + 1) (bI false) (nI i) = _
      simp only [F_X11_isWay_b4]
      unfold isW
      rw [m.1, if_neg (nI_ge hi (by omega)), if_pos (show bI false = 0 from rfl), h2]; rfl
    | true =>
      have h3 : kc w i ≤ 5 := cntN_le (kpB w i) 5
      have h2 := (hg.2.2.1 i hi).2.1
      refine .inr ⟨alB2 (fun h => decide (kc w h ≤ g.2.2 0 h)) (i + 1), rfl, ?_⟩
      show _ = F_X11_isWay_b4 σ n (bI (alB2 (fun h => decide (kc w h ≤ g.2.2 0 h)) i && decide (kc w i ≤ g.2.2 0 i))) (nI (i + 1))
      rw [← hq, Bool.true_and]
      simp only [F_X11_isWay_b4]
      rw [m.1, if_neg (nI_ge hi (by omega)), if_neg (show ¬ bI true = 0 by decide), ksV (by decide) m hg h0 hw (by omega), Option.bind_some, mn_ok, Option.bind_some, show (7 : Int32) = nI 7 from rfl, pk_mul, rd_54 (by omega), mf_h0 m hi, Option.bind_some, show cntN (kpB w i) 5 = kc w i from rfl, if_lt (by omega) (by omega), nI_1]
      by_cases q : kc w i ≤ g.2.2 0 i
      · rw [if_neg (by omega), decide_eq_true q]; rfl
      · rw [if_pos (by omega), decide_eq_false q]; rfl
def heB (g : FD) (W : Nat → Nat → Nat) (w : Nat → Nat) : Bool := isW g w && (alE g W w g.2.1 && noB g W w g.2.1)
theorem mih_ok {w : Nat → Nat} {d x : Nat → Nat} (m : MF g σ) (hg : okG g) (hw : okY g w) (h0 : MV g 64 w σ) (e0 : MD d x σ) : F_X11_isHeld σ = some (bI (heB g (Wo g (sh g d x)) w)) := by
  have hg1 := hg.1
  have hg2 := hg.2.1
  unfold F_X11_isHeld
  rw [miw_ok m hg hw h0, Option.bind_some]
  refine lp (fun n (q : Bool) r => F_X11_isHeld_b7 σ n (bI q) (nI r)) (fun o => o = some (bI (heB g (Wo g (sh g d x)) w))) g.2.1 (fun i q => q = (isW g w && alE g (Wo g (sh g d x)) w i)) ?_ ?_ g.2.1 0 (isW g w) 4000 (by omega) (by omega) (by omega) (by show _ = (isW g w && true); rw [Bool.and_true])
  · intro n q hq
    have hpb := np_b hg (Wo g (sh g d x)) w g.2.1
    have e1 : heB g (Wo g (sh g d x)) w = (q && noB g (Wo g (sh g d x)) w g.2.1) := by unfold heB; rw [hq, Bool.and_assoc]
    rw [e1]
    simp only [F_X11_isHeld_b7]
    rw [m.2.1, if_pos (nI_le (Nat.le_refl _) (by omega)), mpV (by decide) m hg h0 hw e0, Option.bind_some, ← np0, show (0 : Int32) = nI 0 from rfl, if_eq (by omega) (by omega)]
    cases q with
    | false => rw [if_pos (show bI false = nI 0 from rfl)]; rfl
    | true =>
      rw [if_neg (show ¬ bI true = nI 0 by decide), Bool.true_and]
      by_cases q : npB g (Wo g (sh g d x)) w g.2.1 = 0
      · rw [if_pos q, decide_eq_true q]; rfl
      · rw [if_neg q, decide_eq_false q]; rfl
  · intro n q i hi hq
    cases q with
    | false =>
      refine .inl ?_
      have hz : ∀ d', (isW g w && alE g (Wo g (sh g d x)) w (i + d')) = false := fun d' => by
        induction d' with
        | zero => exact hq.symm
        | succ d' ih => show (isW g w && (alE g (Wo g (sh g d x)) w (i + d') && _)) = false; rw [← Bool.and_assoc, ih]; rfl
      have h2 := hz (g.2.1 - i)
      rw [show i + (g.2.1 - i) = g.2.1 by omega] at h2
      show F_X11_isHeld_b7 σ (n + 1) (bI false) (nI i) = _
      simp only [F_X11_isHeld_b7]
      unfold heB
      rw [m.2.1, if_neg (nI_ge hi (by omega)), if_pos (show bI false = 0 from rfl), if_pos (show bI false = 0 from rfl), ← Bool.and_assoc, h2]; rfl
    | true =>
      have hwi := okY_v hw (r := i) (by omega)
      refine .inr ⟨(isW g w && alE g (Wo g (sh g d x)) w (i + 1)), rfl, ?_⟩
      show _ = F_X11_isHeld_b7 σ n (bI (isW g w && (alE g (Wo g (sh g d x)) w i && (decide (w i = 9) || enB g (Wo g (sh g d x)) (w i) i)))) (nI (i + 1))
      rw [← Bool.and_assoc, ← hq, Bool.true_and]
      simp only [F_X11_isHeld_b7]
      rw [m.2.1, if_neg (nI_ge hi (by omega)), if_neg (show ¬ bI true = 0 by decide), rd_64 (by omega), h0 i hi, Option.bind_some, nI_1]
      by_cases q : w i = 9
      · rw [if_pos (by rw [q]; rfl), decide_eq_true q]; rfl
      · rw [if_neg (by rw [hI_m9 (by omega)]; exact q), Option.bind_some, hI_n q, ie_ok m hg e0 (show w i < g.1 by omega) hi, Option.bind_some, decide_eq_false q, Bool.false_or]
        cases enB g (Wo g (sh g d x)) (w i) i <;> rfl
