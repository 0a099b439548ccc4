-- the horse that a rider likes best of some
variable {g : FD} {P : PD} {σ σ' : Mem}
def bsA (g : FD) (r : Nat) (A : Nat → Bool) : Nat → Nat
  | 0 => 9
  | n + 1 => if A n && rlO g r n (bsA g r A n) then n else bsA g r A n
theorem bsA_sp (g : FD) (r : Nat) (A : Nat → Bool) : ∀ n, n ≤ 9 → (bsA g r A n = 9 ∧ ∀ h, h < n → A h = false) ∨ (bsA g r A n < n ∧ A (bsA g r A n) = true ∧ ∀ h, h < n → A h = true → h ≠ bsA g r A n → rl g r (bsA g r A n) h = true)
  | 0, _ => .inl ⟨rfl, fun h hh => absurd hh (Nat.not_lt_zero _)⟩
  | n + 1, hn => by
    have ih := bsA_sp g r A n (by omega)
    by_cases e : A n = true
    · by_cases e2 : rlO g r n (bsA g r A n) = true
      · have eq : bsA g r A (n + 1) = n := by show (if A n && rlO g r n (bsA g r A n) then n else _) = n; rw [e, e2]; rfl
        rw [eq]
        refine .inr ⟨by omega, e, fun h hh hA hne => ?_⟩
        have hlt : h < n := by omega
        rcases ih with ⟨i1, i2⟩ | ⟨i1, i2, i3⟩
        · rw [i2 h hlt] at hA; cases hA
        · unfold rlO at e2
          rw [decide_eq_false (by omega), Bool.false_or] at e2
          by_cases e3 : h = bsA g r A n
          · rw [e3]; exact e2
          · exact rl_tr e2 (i3 h hlt hA e3)
      · rw [Bool.not_eq_true] at e2
        have eq : bsA g r A (n + 1) = bsA g r A n := by show (if A n && rlO g r n (bsA g r A n) then n else _) = _; rw [e, e2]; rfl
        rw [eq]
        unfold rlO at e2
        simp only [Bool.or_eq_false_iff, decide_eq_false_iff_not] at e2
        rcases ih with ⟨i1, i2⟩ | ⟨i1, i2, i3⟩
        · exact absurd i1 e2.1
        · refine .inr ⟨by omega, i2, fun h hh hA hne => ?_⟩
          by_cases e3 : h = n
          · rw [e3]; exact rl_tot (by omega) e2.2
          · exact i3 h (by omega) hA hne
    · rw [Bool.not_eq_true] at e
      have eq : bsA g r A (n + 1) = bsA g r A n := by show (if A n && rlO g r n (bsA g r A n) then n else _) = _; rw [e]; rfl
      rw [eq]
      rcases ih with ⟨i1, i2⟩ | ⟨i1, i2, i3⟩
      · refine .inl ⟨i1, fun h hh => ?_⟩
        by_cases e3 : h = n
        · rw [e3]; exact e
        · exact i2 h (by omega)
      · refine .inr ⟨by omega, i2, fun h hh hA hne => ?_⟩
        by_cases e3 : h = n
        · rw [e3, e] at hA; cases hA
        · exact i3 h (by omega) hA hne
theorem cnt_drop {p : Nat → Bool} {y : Nat} : ∀ n, cntN p n ≤ cntN (fun x => p x && !decide (x = y)) n + 1 ∧ (n ≤ y → cntN p n = cntN (fun x => p x && !decide (x = y)) n)
  | 0 => ⟨by show 0 ≤ 0 + 1; omega, fun _ => rfl⟩
  | n + 1 => by
    have ih := cnt_drop (p := p) (y := y) n
    rw [cntN_s, cntN_s]
    constructor
    · by_cases e : n = y
      · subst e
        have := ih.2 (Nat.le_refl _)
        simp only [decide_true, Bool.not_true, Bool.and_false, Bool.false_eq_true, if_false]
        split <;> omega
      · simp only [decide_eq_false e, Bool.not_false, Bool.and_true]
        have := ih.1
        omega
    · intro hy
      have e : ¬ n = y := by omega
      simp only [decide_eq_false e, Bool.not_false, Bool.and_true]
      rw [ih.2 (by omega)]
theorem pigeon {f : Nat → Nat} {n : Nat} : ∀ L (p : Nat → Bool), (∀ x, x < n → p x = true → f x < L) → (∀ x y, x < n → y < n → p x = true → p y = true → f x = f y → x = y) → cntN p n ≤ L
  | 0, p, h, _ => by
    rw [cnt_0 (fun r hr => by
      rw [← Bool.not_eq_true]; intro q; exact absurd (h r hr q) (Nat.not_lt_zero _))]
    exact Nat.le_refl 0
  | L + 1, p, h, hi => by
    by_cases e : ∃ y, y < n ∧ p y = true ∧ f y = L
    · obtain ⟨y, y1, y2, y3⟩ := e
      have ih := pigeon (f := f) (n := n) L (fun x => p x && !decide (x = y)) (fun x hx hp => by
        simp only [Bool.and_eq_true, Bool.not_eq_true', decide_eq_false_iff_not] at hp
        have h1 := h x hx hp.1
        have h2 : f x ≠ L := fun q => hp.2 (hi x y hx y1 hp.1 y2 (by omega))
        omega) (fun a b ha hb hpa hpb => by
        simp only [Bool.and_eq_true] at hpa hpb
        exact hi a b ha hb hpa.1 hpb.1)
      have := (cnt_drop (p := p) (y := y) n).1
      omega
    · have ih := pigeon (f := f) (n := n) L p (fun x hx hp => by
        have h1 := h x hx hp
        have h2 : f x ≠ L := fun q => e ⟨x, hx, hp, q⟩
        omega) hi
      omega
theorem cnt_all (n : Nat) : cntN (fun _ => true) n = n := by
  induction n with
  | zero => rfl
  | succ n ih => rw [cntN_s, ih]; rfl
-- the horse in place L of what a rider likes
def prf (g : FD) (r L : Nat) : Nat := bsA g r (fun h => decide (L ≤ rk g r h)) g.1
theorem rk_cnt (g : FD) (r L : Nat) : cntN (fun x => decide (rk g r x < L)) g.1 ≤ L :=
  pigeon (f := rk g r) L _ (fun x _ hp => of_decide_eq_true hp) (fun x y hx hy _ _ e => rk_inj hx hy e)
theorem prf_ok (hg : okG g) {r L : Nat} (hL : L < g.1) : prf g r L < g.1 ∧ rk g r (prf g r L) = L := by
  have hg1 := hg.1
  rcases bsA_sp g r (fun h => decide (L ≤ rk g r h)) g.1 (by omega) with ⟨i1, i2⟩ | ⟨i1, i2, i3⟩
  · exfalso
    have h1 := rk_cnt g r L
    have h2 : cntN (fun _ => true) g.1 ≤ cntN (fun x => decide (rk g r x < L)) g.1 := cntN_mono _ (fun x hx _ => by
      have := i2 x hx
      simp only [decide_eq_false_iff_not] at this
      exact decide_eq_true (by omega))
    rw [cnt_all] at h2
    omega
  · refine ⟨i1, ?_⟩
    have h1 : L ≤ rk g r (prf g r L) := of_decide_eq_true i2
    have h2 : rk g r (prf g r L) ≤ L := Nat.le_trans (cntN_mono g.1 (fun x hx hp => by
      apply decide_eq_true
      apply Classical.byContradiction
      intro q
      have hA : decide (L ≤ rk g r x) = true := decide_eq_true (by omega)
      by_cases e : x = prf g r L
      · rw [e, rl_irr] at hp; cases hp
      · have h3 := i3 x hx hA e
        have h4 := rl_as h3
        rw [show bsA g r (fun h => decide (L ≤ rk g r h)) g.1 = prf g r L from rfl] at h4
        rw [h4] at hp; cases hp)) (rk_cnt g r L)
    omega
theorem cf_pr (c : CF g σ) (hg : okG g) {r L : Nat} (hr : r < g.2.1) (hL : L < g.1) : σ.2.1 9 (4 * r + L) = nI (prf g r L) := by
  have h := prf_ok hg (r := r) hL
  have h2 := cf_pf c hr h.1
  rw [h.2] at h2
  exact h2
theorem la_ok (c : CF g σ) (hg : okG g) {r L : Nat} (hr : r < g.2.1) (hL : L < g.1) : F_X3_likedAs (nI r) (nI L) σ = some (nI (prf g r L)) := by
  have := hg.1; have := hg.2.1
  unfold F_X3_likedAs
  rw [if_neg (nI_pos (by omega)), c.1, if_neg (nI_ge hL (by omega)), show (4 : Int32) = nI 4 from rfl, pk_mul, nI_add, at_9 (by omega), cf_pr c hg hr hL]; rfl
theorem bs_ok (d : MF g σ) (hg : okG g) {r : Nat} (hr : r < g.2.1) : F_X11_bestOf (nI r) σ = some (hI (bsA g r (fun _ => true) g.1)) := by
  have := hg.1
  unfold F_X11_bestOf
  refine lpD (fun k (b : Nat) i => F_X11_bestOf_b5 σ k (nI r) (hI b) (nI i)) g.1 (fun i => bsA g r (fun _ => true) i) _ ?_ ?_ 4000 (by omega)
  · intro k
    simp only [F_X11_bestOf_b5]
    rw [d.1, if_pos (nI_le (Nat.le_refl _) (by omega))]
  · intro k i hi
    simp only [F_X11_bestOf_b5]
    have h1 := bsA_sp g r (fun _ => true) i (by omega)
    rw [d.1, if_neg (nI_ge hi (by omega)), ml_ok d hg hr hi (by omega), Option.bind_some, nI_1]
    simp only [bsA]
    by_cases e : rlO g r i (bsA g r (fun _ => true) i) = true
    · rw [e, if_neg (by decide), Bool.true_and, if_pos rfl, hI_n (w := i) (by omega)]
    · rw [Bool.not_eq_true] at e; rw [e, if_pos (show bI false = 0 from rfl)]; rfl
theorem bs_0 (g : FD) (r : Nat) : ∀ n, bsA g r (fun _ => true) n = bsA g r (fun h => decide (0 ≤ rk g r h)) n
  | 0 => rfl
  | n + 1 => by simp only [bsA, bs_0 g r n, Nat.zero_le, decide_true]
theorem lb_ok (c : CF g σ) (hg : okG g) {r : Nat} (hr : r < g.2.1) : F_X3_likedAs (nI r) (0 : Int32) σ = some (hI (bsA g r (fun _ => true) g.1)) := by
  have := hg.1
  by_cases e : g.1 = 0
  · unfold F_X3_likedAs
    rw [if_neg (by decide), c.1, e, if_pos (by decide)]; rfl
  · rw [show (0 : Int32) = nI 0 from rfl, la_ok c hg hr (L := 0) (by omega), bs_0]
    have h := prf_ok hg (r := r) (L := 0) (by omega)
    show _ = some (hI (prf g r 0))
    rw [hI_n (by omega)]
theorem st_rider : Step_rider Inv := by
  intro a b σ hI0
  obtain ⟨g, P, R⟩ := id hI0
  obtain ⟨hg, hP, c, d, e, i, j, k, l, m, z⟩ := id R
  have I20 := Inv_fr hI0 (fr20 σ 0)
  have hg1 := hg.2.1
  have R2 := R_20 R
  have d2 : MF g (sI σ 20 0) := MF_20 d 0
  rcases rider_c hg a with ⟨x, hx, rfl⟩ | ⟨h1, h2⟩
  · have hs : ∀ t, t < 3 → F_X10_shown (nI x) (nI t) σ = some (nI (sP g P x t)) := by
      intro t ht
      have h3 := hP.2.2 x t hx ht
      unfold F_X10_shown
      rw [show (3 : Int32) = nI 3 from rfl, pk_mul, nI_add, at_6 (by omega), Option.bind_some, cf_t c hx ht, show (36 + 0 : Nat) = 36 from rfl, at_36 (by omega), Option.bind_some]
      have h4 : σ.2.1 36 (3 * x + t) = nI (P.2.1 (3 * x + t)) := e.2.1 (3 * x + t) (by omega)
      rw [h4, nI_add]
      have : sP g P x t = g.2.2 (7 + t) x + P.2.1 (3 * x + t) := by
        show min 9 (g.2.2 (7 + t) x + P.2.1 (3 * x + t) + 0) = _
        omega
      rw [this]
    have hm : ∀ t, t < 3 → F_X11_shows (nI x) (nI t) (sI σ 20 0) = some (nI (sP g P x t)) := fun t ht => sh_ok d2 hg (md_R R2) hx ht
    have hA : F_X10_rider (nI x) b σ = (if b = 0 then some (nI (100 * g.2.2 7 x + 10 * g.2.2 8 x + g.2.2 9 x)) else if b = 1 then some (nI (100 * sP g P x 0 + 10 * sP g P x 1 + sP g P x 2)) else if b = 2 then some (nI (g.2.2 10 x)) else if b = 3 then some (hI (P.1 x)) else if b = 4 then some (hI (bsA g x (fun _ => true) g.1)) else some (-2)) := by
      unfold F_X10_rider F_X10_shownFigures
      rw [hasR_1 c hg hx, Option.bind_some, if_neg (by decide), fig_1 (b := 0) (n := 6) (by show _ < 15; omega) (cf_t0 c hx) (cf_t1 c hx) (cf_t2 c hx), show (0 : Int32) = nI 0 from rfl, show (1 : Int32) = nI 1 from rfl, show (2 : Int32) = nI 2 from rfl, hs 0 (by omega), hs 1 (by omega), hs 2 (by omega), at_7 (by omega), cf_ta c hx, hof_ok (by omega) (cw_R R) (by omega), show F_X3_likedAs (nI x) (nI 0) σ = _ from lb_ok c hg hx, show (100 : Int32) = nI 100 from rfl, show (10 : Int32) = nI 10 from rfl]
      simp only [Option.bind_some, pk_mul, nI_add]
    have hB : F_X11_rider (nI x) b (σ) = (if b = 0 then some (nI (100 * g.2.2 7 x + 10 * g.2.2 8 x + g.2.2 9 x), sI σ 20 0) else if b = 1 then some (nI (100 * sP g P x 0 + 10 * sP g P x 1 + sP g P x 2), sI σ 20 0) else if b = 2 then some (nI (g.2.2 10 x), sI σ 20 0) else if b = 3 then some (hI (P.1 x), sI σ 20 0) else if b = 4 then some (hI (bsA g x (fun _ => true) g.1), sI σ 20 0) else some (-2, sI σ 20 0)) := by
      unfold F_X11_rider
      simp only [stI, Option.bind_some]
      generalize sI σ 20 0 = τ at *
      have h3 := mf_r d2 hx (k := 3) (by omega)
      have h1 := mf_r d2 hx (k := 1) (by omega)
      have h2 := mf_r d2 hx (k := 2) (by omega)
      rw [noR_1 d2 hg hx, Option.bind_some, if_pos rfl, show (0 : Int32) = nI 0 from rfl, show (1 : Int32) = nI 1 from rfl, show (2 : Int32) = nI 2 from rfl, show (3 : Int32) = nI 3 from rfl, show (4 : Int32) = nI 4 from rfl, pk_mul, nI_add, nI_add, nI_add, rd_55 (by omega), rd_55 (by omega), rd_55 (by omega), rd_55 (by omega), h1, h2, h3, mf_r0 d2 hx, hm 0 (by omega), hm 1 (by omega), hm 2 (by omega), rd_58 (by omega), mw_R R2 x (by omega), bs_ok d2 hg hx, show (100 : Int32) = nI 100 from rfl, show (10 : Int32) = nI 10 from rfl]
      simp only [Option.bind_some, pk_mul, nI_add]
    rw [hA, hB]
    by_cases b0 : b = 0
    · exact ⟨_, sI σ 20 0, by rw [if_pos b0], by rw [if_pos b0], I20⟩
    by_cases b1 : b = 1
    · exact ⟨_, sI σ 20 0, by rw [if_neg b0, if_pos b1], by rw [if_neg b0, if_pos b1], I20⟩
    by_cases b2 : b = 2
    · exact ⟨_, sI σ 20 0, by rw [if_neg b0, if_neg b1, if_pos b2], by rw [if_neg b0, if_neg b1, if_pos b2], I20⟩
    by_cases b3 : b = 3
    · exact ⟨_, sI σ 20 0, by rw [if_neg b0, if_neg b1, if_neg b2, if_pos b3], by rw [if_neg b0, if_neg b1, if_neg b2, if_pos b3], I20⟩
    by_cases b4 : b = 4
    · exact ⟨_, sI σ 20 0, by rw [if_neg b0, if_neg b1, if_neg b2, if_neg b3, if_pos b4], by rw [if_neg b0, if_neg b1, if_neg b2, if_neg b3, if_pos b4], I20⟩
    exact ⟨-2, sI σ 20 0, by rw [if_neg b0, if_neg b1, if_neg b2, if_neg b3, if_neg b4], by rw [if_neg b0, if_neg b1, if_neg b2, if_neg b3, if_neg b4], I20⟩
  · refine ⟨-1, sI σ 20 0, ?_, ?_, I20⟩
    · unfold F_X10_rider; rw [h1 σ c, Option.bind_some, if_pos rfl]
    · unfold F_X11_rider; simp only [stI, Option.bind_some]; rw [h2 _ d2, Option.bind_some, if_neg (by decide)]
