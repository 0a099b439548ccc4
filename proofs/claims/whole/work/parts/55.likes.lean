-- what a rider likes
variable {g : FD} {P : PD} {σ σ' : Mem}
theorem rl_t (g : FD) (r a b : Nat) : (rl g r a b = true) ↔ (ap g r b < ap g r a ∨ ap g r a = ap g r b ∧ a < b) := by
  unfold rl; simp only [Bool.or_eq_true, Bool.and_eq_true, decide_eq_true_eq]
theorem rl_irr (g : FD) (r a : Nat) : rl g r a a = false := by
  rw [← Bool.not_eq_true, rl_t]; omega
theorem rl_tr {r a b c : Nat} (h1 : rl g r a b = true) (h2 : rl g r b c = true) : rl g r a c = true := by
  rw [rl_t] at *; omega
theorem rl_tot {r a b : Nat} (h : a ≠ b) (h1 : rl g r a b = false) : rl g r b a = true := by
  rw [← Bool.not_eq_true, rl_t] at h1; rw [rl_t]; omega
theorem rl_as {r a b : Nat} (h1 : rl g r a b = true) : rl g r b a = false := by
  rw [← Bool.not_eq_true]; intro h2; rw [rl_t] at *; omega
theorem cntN_mono {p q : Nat → Bool} : ∀ n, (∀ x, x < n → p x = true → q x = true) → cntN p n ≤ cntN q n
  | 0, _ => Nat.le_refl 0
  | n + 1, h => by
    have ih := cntN_mono n (fun x hx => h x (by omega))
    rw [cntN_s, cntN_s]
    by_cases e : p n = true
    · rw [e, h n (by omega) e]; omega
    · rw [Bool.not_eq_true] at e; rw [e]; simp only [Bool.false_eq_true, if_false]; omega
theorem cntN_strict {p q : Nat → Bool} : ∀ n, (∀ x, x < n → p x = true → q x = true) → ∀ y, y < n → p y = false → q y = true → cntN p n < cntN q n
  | 0, _, y, hy, _, _ => absurd hy (Nat.not_lt_zero _)
  | n + 1, h, y, hy, h1, h2 => by
    rw [cntN_s, cntN_s]
    by_cases e : y = n
    · subst e
      have ih := cntN_mono y (fun x hx => h x (by omega))
      rw [h1, h2]; simp only [Bool.false_eq_true, if_false, if_true]; omega
    · have ih := cntN_strict n (fun x hx => h x (by omega)) y (by omega) h1 h2
      by_cases e : p n = true
      · rw [e, h n (by omega) e]; omega
      · rw [Bool.not_eq_true] at e; rw [e]; simp only [Bool.false_eq_true, if_false]; omega
theorem rk_lt {r a b : Nat} (ha : a < g.1) (h : rl g r a b = true) : rk g r a < rk g r b :=
  cntN_strict g.1 (fun x _ hx => rl_tr hx h) a ha (rl_irr g r a) h
theorem rk_le {r a b : Nat} (hb : b < g.1) (h : rl g r a b = false) : rk g r b ≤ rk g r a := by
  by_cases e : a = b
  · rw [e]; exact Nat.le_refl _
  · exact Nat.le_of_lt (rk_lt hb (rl_tot e h))
theorem rk_b {r a : Nat} (ha : a < g.1) : rk g r a < g.1 := by
  have h1 : cntN (fun _ => true) g.1 ≤ g.1 := cntN_le _ _
  have h2 : rk g r a < cntN (fun _ => true) g.1 := cntN_strict g.1 (fun x _ _ => rfl) a ha (rl_irr g r a) rfl
  omega
theorem rk_inj {r a b : Nat} (ha : a < g.1) (hb : b < g.1) (h : rk g r a = rk g r b) : a = b := by
  apply Classical.byContradiction; intro e
  by_cases h1 : rl g r a b = true
  · have := rk_lt ha h1; omega
  · rw [Bool.not_eq_true] at h1
    have := rk_lt hb (rl_tot e h1); omega
-- likes better than its own (9: none)
def rlO (g : FD) (r a v : Nat) : Bool := decide (v = 9) || rl g r a v
theorem xl_ok (c : CF g σ) (hg : okG g) {r h v : Nat} (hr : r < g.2.1) (hh : h < g.1) (hv : v = 9 ∨ v < g.1) : F_X3_riderLikes (nI r) (nI h) (hI v) σ = some (bI (rlO g r h v)) := by
  have := hg.1; have := hg.2.1
  unfold F_X3_riderLikes rlO
  by_cases e : v = 9
  · subst e; rw [if_pos hI_9]; rfl
  · have hv2 : v < g.1 := by omega
    have b1 := rk_b (g := g) (r := r) hh
    have b2 := rk_b (g := g) (r := r) hv2
    rw [if_neg (by rw [hI_m9 (by omega)]; exact e), hI_n e]
    simp (disch := omega) only [i_4, pk_mul, nI_add, at_8, cf_rk c hr hh, cf_rk c hr hv2, Option.bind_some]
    rw [decide_eq_false e, Bool.false_or]
    by_cases e1 : rl g r h v = true
    · have := rk_lt hh e1
      rw [if_neg (nI_ge this (by omega)), e1]; rfl
    · rw [Bool.not_eq_true] at e1
      rw [if_pos (nI_le (rk_le hv2 e1) (by omega)), e1]; rfl
theorem nsub (x y : Int32) : -(x - y) = y - x := Int32.neg_sub
theorem rl_if {r a b x y : Nat} {p : Prop} [Decidable p] (hx : x ≤ 9) (hy : y ≤ 9) (hp : p ↔ b ≤ a) (h : ap g r a = (x : Int) ∧ ap g r b = (y : Int) ∨ ap g r a = -(y : Int) ∧ ap g r b = -(x : Int)) : (if (nI 0 : Int32) < nI x - nI y then some (1 : Int32) else if nI x - nI y = nI 0 then (if p then some (0 : Int32) else some (1 : Int32)) else some (0 : Int32)) = some (bI (rl g r a b)) := by
  rw [hl_if (by omega) (by omega) hp]
  have e : (decide (y < x) || decide (x = y) && decide (a < b)) = rl g r a b := by
    rw [Bool.eq_iff_iff, rl_t]
    simp only [Bool.or_eq_true, Bool.and_eq_true, decide_eq_true_eq]
    rcases h with ⟨h1, h2⟩ | ⟨h1, h2⟩ <;> omega
  rw [e]
theorem ml_36 (d : MF g σ) (hg : okG g) {a b k : Nat} {v : Int32} (ha : a < g.1) (hb : b < g.1) (hk : k < 7) : F_X11_likesHorse_b36 σ (nI a) (nI b) v (nI k) = (if v = 1 ∨ v = 3 then (if (nI 0 : Int32) < nI (g.2.2 k b) - nI (g.2.2 k a) then some (1 : Int32) else if nI (g.2.2 k b) - nI (g.2.2 k a) = nI 0 then (if nI b ≤ nI a then some (0 : Int32) else some (1 : Int32)) else some (0 : Int32)) else (if (nI 0 : Int32) < nI (g.2.2 k a) - nI (g.2.2 k b) then some (1 : Int32) else if nI (g.2.2 k a) - nI (g.2.2 k b) = nI 0 then (if nI b ≤ nI a then some (0 : Int32) else some (1 : Int32)) else some (0 : Int32))) := by
  have := hg.1
  unfold F_X11_likesHorse_b36
  rw [show (7 : Int32) = nI 7 from rfl]
  simp (disch := omega) only [pk_mul, nI_add, rd_54, mf_h d, Option.bind_some, nsub]
  by_cases e1 : v = 1
  · rw [if_pos e1, if_pos (Or.inl e1)]; rfl
  · rw [if_neg e1]
    by_cases e3 : v = 3
    · rw [if_pos e3, if_pos (Or.inr e3)]; rfl
    · rw [if_neg e3, if_neg (show ¬ (v = 1 ∨ v = 3) from fun q => q.elim e1 e3)]; rfl
theorem ml_ok (d : MF g σ) (hg : okG g) {r h v : Nat} (hr : r < g.2.1) (hh : h < g.1) (hv : v = 9 ∨ v < g.1) : F_X11_likesHorse (nI r) (nI h) (hI v) σ = some (bI (rlO g r h v)) := by
  have := hg.1; have := hg.2.1
  unfold F_X11_likesHorse rlO
  by_cases e : v = 9
  · subst e; rw [if_pos hI_9]; rfl
  · have hv2 : v < g.1 := by omega
    have b1 := hg.2.2.1 h hh
    have b2 := hg.2.2.1 v hv2
    have b3 := (hg.2.2.2 r hr).2.2.2
    rw [if_neg (by rw [hI_m9 (by omega)]; exact e), hI_n e, decide_eq_false e, Bool.false_or]
    have ht : σ.2.1 55 (4 * r + 3) = nI (g.2.2 10 r) := mf_r d hr (k := 3) (by omega)
    rw [show (4 : Int32) = nI 4 from rfl, show (5 : Int32) = nI 5 from rfl, show (3 : Int32) = nI 3 from rfl, pk_mul, nI_add, rd_55 (by omega), ht, Option.bind_some, ml_36 d hg hh hv2 (k := 4) (by omega), ml_36 d hg hh hv2 (k := 5) (by omega)]
    have hp : nI v ≤ nI h ↔ v ≤ h := nI_leI (by omega) (by omega)
    have hc : g.2.2 10 r = 0 ∨ g.2.2 10 r = 1 ∨ g.2.2 10 r = 2 ∨ g.2.2 10 r = 3 := by omega
    rcases hc with hc | hc | hc | hc
    · rw [hc, if_pos (show nI 0 = 0 from rfl), if_neg (by decide)]
      exact rl_if (by omega) (by omega) hp (.inl (by unfold ap; rw [if_pos hc, if_pos hc]; exact ⟨rfl, rfl⟩))
    · rw [hc, if_neg (show ¬ nI 1 = 0 by decide), if_neg (show ¬ nI 1 = nI 3 by decide), if_pos (by decide)]
      exact rl_if (by omega) (by omega) hp (.inr (by unfold ap; rw [if_neg (by omega), if_pos hc, if_neg (by omega), if_pos hc]; exact ⟨rfl, rfl⟩))
    · rw [hc, if_neg (show ¬ nI 2 = 0 by decide), if_neg (show ¬ nI 2 = nI 3 by decide), if_neg (by decide)]
      exact rl_if (by omega) (by omega) hp (.inl (by unfold ap; rw [if_neg (by omega), if_neg (by omega), if_pos hc, if_neg (by omega), if_neg (by omega), if_pos hc]; exact ⟨rfl, rfl⟩))
    · rw [hc, if_neg (show ¬ nI 3 = 0 by decide), if_pos (show nI 3 = nI 3 from rfl), if_pos (by decide)]
      exact rl_if (by omega) (by omega) hp (.inr (by unfold ap; rw [if_neg (by omega), if_neg (by omega), if_neg (by omega), if_neg (by omega), if_neg (by omega), if_neg (by omega)]; exact ⟨rfl, rfl⟩))
-- would bolt
def boB (g : FD) (W : Nat → Nat → Nat) (w : Nat → Nat) (r h : Nat) : Bool := enB g W h r && (rlO g r h (w r) && (!fuB g w h || hlB W h r (lst W w h 5)))
theorem okY_v {w : Nat → Nat} (hw : okY g w) {r : Nat} (hr : r < 5) : w r = 9 ∨ w r < g.1 := by
  rcases hw r hr with h | h
  · exact .inl h
  · exact .inr h.1
theorem xb_ok {k : Nat} {w : Nat → Nat} {s : Nat → Nat → Nat} (hk : k < 21) (c : CW k w σ) (cf : CF g σ) (hg : okG g) (hw : okY g w) (t : T12 g s σ) (hs : okS g s) {r h : Nat} (hr : r < g.2.1) (hh : h < g.1) : F_X7_boltsWith k (nI r) (nI h) σ = some (bI (boB g (Wo g s) w r h)) := by
  have hg1 := hg.1; have hg2 := hg.2.1
  have hkp := hg.2.2.1 h hh
  have hkc := cntN_le (kpB w h) 5
  unfold F_X7_boltsWith boB
  rw [en_ok t cf hg hs hh hr, Option.bind_some]
  by_cases e : enB g (Wo g s) h r = true
  · rw [e, if_neg (by decide), hof_ok hk c (by omega), Option.bind_some, xl_ok cf hg hr hh (okY_v hw (by omega)), Option.bind_some]
    by_cases e0 : rlO g r h (w r) = true
    · rw [e0, if_neg (by decide), kc_ok hk c (fun x hx => okW_b hw hg hx) (by omega), Option.bind_some, at_1 (by omega), cf_k cf hh, Option.bind_some]
      by_cases e1 : kc w h < g.2.2 0 h
      · have e2 : fuB g w h = false := decide_eq_false (by omega)
        rw [if_neg (nI_ge e1 (by omega)), e2]; rfl
      · have e2 : fuB g w h = true := decide_eq_true (by omega)
        have e4 := lst_full hg (Wo g s) hh (w := w) (by omega)
        have e5 : lst (Wo g s) w h 5 < g.2.1 := by rcases hw _ e4.1 with q | q <;> omega
        have e8 : kc w h ≤ 5 := hkc
        rw [if_pos (nI_le (by omega) (by omega)), e2, ll_ok hk c hg hw t hs hh, Option.bind_some, if_neg (by rw [hI_m9 (by omega)]; omega), hI_n (w := lst (Wo g s) w h 5) (by omega), hl_ok t hg hs hh hr e5, Option.bind_some]
        by_cases e6 : hlB (Wo g s) h r (lst (Wo g s) w h 5) = true
        · rw [e6, if_neg (by decide)]; rfl
        · rw [Bool.not_eq_true] at e6
          rw [e6, if_pos (show bI false = 0 from rfl)]; rfl
    · rw [Bool.not_eq_true] at e0
      rw [e0, if_pos (show bI false = 0 from rfl)]; rfl
  · rw [Bool.not_eq_true] at e
    rw [e, if_pos (show bI false = 0 from rfl)]; rfl
theorem mb_ok {n : Nat} {w : Nat → Nat} {d x : Nat → Nat} (hn : 5 ≤ alen n) (m : MF g σ) (hg : okG g) (c : MW n w σ) (hw : okY g w) (e0 : MD d x σ) {r h : Nat} (hr : r < g.2.1) (hh : h < g.1) : F_X11_bolt n (nI r) (nI h) σ = some (bI (boB g (Wo g (sh g d x)) w r h)) := by
  have hg1 := hg.1; have hg2 := hg.2.1
  have hwr := okY_v hw (r := r) (by omega)
  unfold F_X11_bolt
  rw [rdA_ok (by omega) (by omega), c r (by omega), Option.bind_some]
  by_cases e9 : w r = h
  · rw [if_pos (by rw [hI_e (by omega) (by omega)]; exact e9)]
    have : rlO g r h (w r) = false := by
      unfold rlO; rw [decide_eq_false (by omega), e9, rl_irr]; rfl
    unfold boB
    rw [this, Bool.false_and, Bool.and_false]; rfl
  · rw [if_neg (by rw [hI_e (by omega) (by omega)]; exact e9)]
    unfold boB
    rw [ie_ok m hg e0 hh hr, Option.bind_some]
    by_cases e : enB g (Wo g (sh g d x)) h r = true
    · rw [e, if_neg (by decide), Option.bind_some, ml_ok m hg hr hh hwr, Option.bind_some]
      by_cases e2 : rlO g r h (w r) = true
      · rw [e2, if_neg (by decide), fu_ok hn m hg c hw hh, Option.bind_some]
        by_cases e1 : fuB g w h = true
        · have e4 := lst_full hg (Wo g (sh g d x)) hh (w := w) (of_decide_eq_true e1)
          have e5 : lst (Wo g (sh g d x)) w h 5 < g.2.1 := by rcases hw _ e4.1 with q | q <;> omega
          rw [e1, if_neg (by decide), lo_ok hn m hg c hw e0 hh, Option.bind_some, hI_n (w := lst (Wo g (sh g d x)) w h 5) (by omega), lr_ok m hg e0 hh hr e5, Option.bind_some]
          by_cases e6 : hlB (Wo g (sh g d x)) h r (lst (Wo g (sh g d x)) w h 5) = true
          · rw [e6, if_neg (by decide)]; rfl
          · rw [Bool.not_eq_true] at e6
            rw [e6, if_pos (show bI false = 0 from rfl)]; rfl
        · rw [Bool.not_eq_true] at e1
          rw [e1, if_pos (show bI false = 0 from rfl)]; rfl
      · rw [Bool.not_eq_true] at e2
        rw [e2, if_pos (show bI false = 0 from rfl)]; rfl
    · rw [Bool.not_eq_true] at e
      rw [e, if_pos (show bI false = 0 from rfl)]; rfl
