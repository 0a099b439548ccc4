-- what each horse and rider is, read off
variable {g : FD} {P : PD} {σ σ' : Mem}
theorem cf_nh (c : CF g σ) : σ.1 1 = nI g.1 := c.1
theorem cf_nr (c : CF g σ) : σ.1 2 = nI g.2.1 := c.2.1
theorem cf_k (c : CF g σ) {h : Nat} (hh : h < g.1) : σ.2.1 1 h = nI (g.2.2 0 h) := (c.2.2.1 h hh).1
theorem cf_w0 (c : CF g σ) {h : Nat} (hh : h < g.1) : σ.2.1 2 (3 * h) = nI (g.2.2 1 h) := (c.2.2.1 h hh).2.1 0 (by omega)
theorem cf_w1 (c : CF g σ) {h : Nat} (hh : h < g.1) : σ.2.1 2 (3 * h + 1) = nI (g.2.2 2 h) := (c.2.2.1 h hh).2.1 1 (by omega)
theorem cf_w2 (c : CF g σ) {h : Nat} (hh : h < g.1) : σ.2.1 2 (3 * h + 2) = nI (g.2.2 3 h) := (c.2.2.1 h hh).2.1 2 (by omega)
theorem cf_s (c : CF g σ) {h : Nat} (hh : h < g.1) : σ.2.1 3 h = nI (g.2.2 4 h) := (c.2.2.1 h hh).2.2.1
theorem cf_a (c : CF g σ) {h : Nat} (hh : h < g.1) : σ.2.1 4 h = nI (g.2.2 5 h) := (c.2.2.1 h hh).2.2.2.1
theorem cf_l (c : CF g σ) {h : Nat} (hh : h < g.1) : σ.2.1 5 h = nI (g.2.2 6 h) := (c.2.2.1 h hh).2.2.2.2
theorem cf_t (c : CF g σ) {r t : Nat} (hr : r < g.2.1) (ht : t < 3) : σ.2.1 6 (3 * r + t) = nI (g.2.2 (7 + t) r) := (c.2.2.2.1 r hr).1 t ht
theorem cf_t0 (c : CF g σ) {r : Nat} (hr : r < g.2.1) : σ.2.1 6 (3 * r) = nI (g.2.2 7 r) := (c.2.2.2.1 r hr).1 0 (by omega)
theorem cf_t1 (c : CF g σ) {r : Nat} (hr : r < g.2.1) : σ.2.1 6 (3 * r + 1) = nI (g.2.2 8 r) := (c.2.2.2.1 r hr).1 1 (by omega)
theorem cf_t2 (c : CF g σ) {r : Nat} (hr : r < g.2.1) : σ.2.1 6 (3 * r + 2) = nI (g.2.2 9 r) := (c.2.2.2.1 r hr).1 2 (by omega)
theorem cf_ta (c : CF g σ) {r : Nat} (hr : r < g.2.1) : σ.2.1 7 r = nI (g.2.2 10 r) := (c.2.2.2.1 r hr).2
theorem cf_rk (c : CF g σ) {r h : Nat} (hr : r < g.2.1) (hh : h < g.1) : σ.2.1 8 (4 * r + h) = nI (rk g r h) := (c.2.2.2.2 r h hr hh).1
theorem cf_pf (c : CF g σ) {r h : Nat} (hr : r < g.2.1) (hh : h < g.1) : σ.2.1 9 (4 * r + rk g r h) = nI h := (c.2.2.2.2 r h hr hh).2
theorem mf_h (d : MF g σ) {h k : Nat} (hh : h < g.1) (hk : k < 7) : σ.2.1 54 (7 * h + k) = nI (g.2.2 k h) := d.2.2.1 h k hh hk
theorem mf_h0 (d : MF g σ) {h : Nat} (hh : h < g.1) : σ.2.1 54 (7 * h) = nI (g.2.2 0 h) := d.2.2.1 h 0 hh (by omega)
theorem mf_r (d : MF g σ) {r k : Nat} (hr : r < g.2.1) (hk : k < 4) : σ.2.1 55 (4 * r + k) = nI (g.2.2 (7 + k) r) := d.2.2.2 r k hr hk
theorem mf_r0 (d : MF g σ) {r : Nat} (hr : r < g.2.1) : σ.2.1 55 (4 * r) = nI (g.2.2 7 r) := d.2.2.2 r 0 hr (by omega)
def sumN (f : Nat → Nat) : Nat → Nat
  | 0 => 0
  | n + 1 => sumN f n + f n
-- worth
def Wo (g : FD) (s : Nat → Nat → Nat) (h r : Nat) : Nat := sumN (fun t => g.2.2 (1 + t) h * s r t) 3
theorem Wo_e (g : FD) (s : Nat → Nat → Nat) (h r : Nat) : Wo g s h r = s r 0 * g.2.2 1 h + s r 1 * g.2.2 2 h + s r 2 * g.2.2 3 h := by
  simp only [Wo, sumN, Nat.zero_add, Nat.add_zero, Nat.reduceAdd]
  rw [Nat.mul_comm (g.2.2 1 h), Nat.mul_comm (g.2.2 2 h), Nat.mul_comm (g.2.2 3 h)]
def okS (g : FD) (s : Nat → Nat → Nat) : Prop := ∀ r t, r < g.2.1 → t < 3 → s r t ≤ 9
theorem Wo_le {s : Nat → Nat → Nat} (hg : okG g) (hs : okS g s) {h r : Nat} (hh : h < g.1) (hr : r < g.2.1) : Wo g s h r ≤ 81 := by
  rw [Wo_e]
  have a := hg.2.2.1 h hh
  have h0 := Nat.mul_le_mul (hs r 0 hr (by omega)) a.2.2.1
  have h1 := Nat.mul_le_mul (hs r 1 hr (by omega)) a.2.2.2.1
  have h2 := Nat.mul_le_mul (hs r 2 hr (by omega)) a.2.2.2.2.1
  omega
-- the class's table of worth
def T12 (g : FD) (s : Nat → Nat → Nat) (σ : Mem) : Prop := ∀ h r, h < g.1 → r < g.2.1 → σ.2.1 12 (5 * h + r) = nI (Wo g s h r)
theorem wR_ok (c : CF g σ) (hg : okG g) {r a b e : Nat} (hr : r < 5) (ha : a ≤ 9) (hb : b ≤ 9) (he : e ≤ 9) : ∃ σ', F_X9_weighRider (nI r) (nI a) (nI b) (nI e) σ = some σ' ∧ Fq (fun _ => true) (fun n => n != 12) true σ σ' ∧ (∀ h, h < g.1 → σ'.2.1 12 (5 * h + r) = nI (a * g.2.2 1 h + b * g.2.2 2 h + e * g.2.2 3 h)) ∧ ∀ h r', r' < 5 → r' ≠ r → σ'.2.1 12 (5 * h + r') = σ.2.1 12 (5 * h + r') := by
  have hg1 := hg.1
  have key := lp (fun n (s : Mem) i => F_X9_weighRider_b3 n (nI r) (nI a) (nI b) (nI e) (nI i) s) (fun o => ∃ σ', o = some σ' ∧ Fq (fun _ => true) (fun n => n != 12) true σ σ' ∧ (∀ h, h < g.1 → σ'.2.1 12 (5 * h + r) = nI (a * g.2.2 1 h + b * g.2.2 2 h + e * g.2.2 3 h)) ∧ ∀ h r', r' < 5 → r' ≠ r → σ'.2.1 12 (5 * h + r') = σ.2.1 12 (5 * h + r')) g.1 (fun i s => Fq (fun _ => true) (fun n => n != 12) true σ s ∧ (∀ h, h < i → s.2.1 12 (5 * h + r) = nI (a * g.2.2 1 h + b * g.2.2 2 h + e * g.2.2 3 h)) ∧ ∀ h r', r' < 5 → r' ≠ r → s.2.1 12 (5 * h + r') = σ.2.1 12 (5 * h + r')) ?_ ?_ g.1 0 σ 4000 (by omega) (by omega) (by omega) ⟨Fq_r σ, fun h hh => absurd hh (Nat.not_lt_zero _), fun _ _ _ _ => rfl⟩
  · exact key
  · intro n s ⟨p1, p2, p3⟩
    have c' := CF_fr c p1
    refine ⟨s, ?_, p1, p2, p3⟩
    simp only [F_X9_weighRider_b3]
    rw [c'.1, if_pos (nI_le (Nat.le_refl _) (by omega))]
  · intro n s i hi ⟨p1, p2, p3⟩
    have c' := CF_fr c p1
    refine .inr ⟨sA s 12 (5 * i + r) (nI (a * g.2.2 1 i + b * g.2.2 2 i + e * g.2.2 3 i)), ⟨Fq_sA p1, ?_, ?_⟩, ?_⟩
    · intro h hh
      simp only [sA_2, if_true, upd_ap]
      by_cases e1 : h = i
      · subst e1; rw [if_pos rfl]
      · rw [if_neg (by omega)]; exact p2 h (by omega)
    · intro h r' h1 h2
      simp only [sA_2, if_true, upd_ap]
      rw [if_neg (by omega)]; exact p3 h r' h1 h2
    · have e1 : ¬ g.1 ≤ i := by omega
      simp (disch := omega) only [F_X9_weighRider_b3, i_0, i_1, i_2, i_3, i_4, i_5, i_7, nI_add, pk_mul, nI_l1, nI_l2, nI_e, nI_n9, nI_n9', nI_neg, Option.bind_some, if_true, if_false, stI, stJ, cf_nh c', e1, at_2, put_12, cf_w0 c', cf_w1 c', cf_w2 c']
theorem weigh_ok (c : CF g σ) (hg : okG g) {k : Nat} (hk : k < 17) {d : Nat → Nat} (hd : ∀ i, i < 15 → σ.2.1 (36 + k) i = nI (d i)) (hs : ∀ r t, r < g.2.1 → t < 3 → g.2.2 (7 + t) r + d (3 * r + t) ≤ 9) : ∃ σ', F_X9_weigh k σ = some σ' ∧ Fq (fun _ => true) (fun n => n != 12) true σ σ' ∧ T12 g (fun r t => g.2.2 (7 + t) r + d (3 * r + t)) σ' := by
  have hg1 := hg.1
  have hg2 := hg.2.1
  have key := lp (fun n (s : Mem) i => F_X9_weigh_b2 k n (nI i) s) (fun o => ∃ σ', o = some σ' ∧ Fq (fun _ => true) (fun n => n != 12) true σ σ' ∧ T12 g (fun r t => g.2.2 (7 + t) r + d (3 * r + t)) σ') g.2.1 (fun i s => Fq (fun _ => true) (fun n => n != 12) true σ s ∧ ∀ h r, h < g.1 → r < i → s.2.1 12 (5 * h + r) = nI (Wo g (fun r t => g.2.2 (7 + t) r + d (3 * r + t)) h r)) ?_ ?_ g.2.1 0 σ 4000 (by omega) (by omega) (by omega) ⟨Fq_r σ, fun h r _ hh => absurd hh (Nat.not_lt_zero _)⟩
  · exact key
  · intro n s ⟨p1, p2⟩
    have c' := CF_fr c p1
    refine ⟨s, ?_, p1, p2⟩
    simp only [F_X9_weigh_b2]
    rw [c'.2.1, if_pos (nI_le (Nat.le_refl _) (by omega))]
  · intro n s i hi ⟨p1, p2⟩
    have c' := CF_fr c p1
    have e1 : ¬ g.2.1 ≤ i := by omega
    have hD : ∀ j, j < 15 → F_X10_at (36 + k) (nI j) s = some (nI (d j)) := fun j hj => by
      rw [at_ok (by rw [al_d hk]; exact hj), p1.2.1 (36 + k) (by simp; omega), hd j hj]
    have t0 := hs i 0 hi (by omega)
    have t1 := hs i 1 hi (by omega)
    have t2 := hs i 2 hi (by omega)
    obtain ⟨s2, q1, q2, q3, q4⟩ := wR_ok c' hg (r := i) (a := g.2.2 7 i + d (3 * i)) (b := g.2.2 8 i + d (3 * i + 1)) (e := g.2.2 9 i + d (3 * i + 2)) (by omega) t0 t1 t2
    refine .inr ⟨s2, ⟨Fq_t p1 q2, ?_⟩, ?_⟩
    · intro h r hh hr
      by_cases e2 : r = i
      · subst e2; rw [q3 h hh, Wo_e]; rfl
      · rw [q4 h r (by omega) e2]; exact p2 h r hh (by omega)
    · simp (disch := omega) only [F_X9_weigh_b2, i_0, i_1, i_2, i_3, i_4, i_5, i_7, nI_add, pk_mul, nI_l1, nI_l2, nI_e, nI_n9, nI_n9', nI_neg, Option.bind_some, if_true, if_false, stI, stJ, cf_nr c', e1, at_6, cf_t0 c', cf_t1 c', cf_t2 c', hD]
      rw [q1]; rfl
-- the class: worth, enough, whom a horse likes better
def hlB (W : Nat → Nat → Nat) (h a b : Nat) : Bool := decide (W h b < W h a) || (decide (W h a = W h b) && decide (a < b))
def enB (g : FD) (W : Nat → Nat → Nat) (h r : Nat) : Bool := decide (g.2.2 6 h ≤ W h r)
def bI (b : Bool) : Int32 := if b then 1 else 0
theorem of_ok {s : Nat → Nat → Nat} (t : T12 g s σ) (hg : okG g) {h r : Nat} (hh : h < g.1) (hr : r < g.2.1) : F_X9_of (nI h) (nI r) σ = some (nI (Wo g s h r)) := by
  have := hg.1; have := hg.2.1
  unfold F_X9_of
  simp (disch := omega) only [i_0, i_1, i_2, i_3, i_4, i_5, i_7, nI_add, pk_mul, nI_l1, nI_l2, nI_e, nI_n9, nI_n9', nI_neg, Option.bind_some, if_true, if_false, stI, stJ, at_12, t h r hh hr]
theorem en_ok {s : Nat → Nat → Nat} (t : T12 g s σ) (c : CF g σ) (hg : okG g) (hs : okS g s) {h r : Nat} (hh : h < g.1) (hr : r < g.2.1) : F_X9_enough (nI h) (nI r) σ = some (bI (enB g (Wo g s) h r)) := by
  have := hg.1
  have h1 := Wo_le hg hs hh hr
  have h2 := (hg.2.2.1 h hh).2.2.2.2.2.2.2
  unfold F_X9_enough
  simp (disch := omega) only [of_ok t hg hh hr, i_0, i_1, i_2, i_3, i_4, i_5, i_7, nI_add, pk_mul, nI_l1, nI_l2, nI_e, nI_n9, nI_n9', nI_neg, Option.bind_some, if_true, if_false, stI, stJ, at_5, cf_l c]
  unfold enB bI
  by_cases e : Wo g s h r < g.2.2 6 h
  · rw [if_pos e, decide_eq_false (by omega)]; rfl
  · rw [if_neg e, decide_eq_true (by omega)]; rfl
theorem hlB_t (W : Nat → Nat → Nat) (h a b : Nat) : (hlB W h a b = true) ↔ (W h b < W h a ∨ W h a = W h b ∧ a < b) := by
  unfold hlB; simp only [Bool.or_eq_true, Bool.and_eq_true, decide_eq_true_eq]
theorem hl_if {x y a b : Nat} {p : Prop} [Decidable p] (hx : x ≤ 81) (hy : y ≤ 81) (hp : p ↔ b ≤ a) : (if (nI 0 : Int32) < nI x - nI y then some (1 : Int32) else if nI x - nI y = nI 0 then (if p then some (0 : Int32) else some (1 : Int32)) else some (0 : Int32)) = some (bI (decide (y < x) || (decide (x = y) && decide (a < b)))) := by
  simp (disch := omega) only [s_pos, s_zero]
  by_cases h1 : y < x
  · simp [h1, bI]
  · by_cases h2 : x = y
    · by_cases h3 : b ≤ a
      · have h4 : ¬ a < b := by omega
        have h5 : p := hp.mpr h3
        simp [h1, h2, h4, h5, bI]
      · have h4 : a < b := by omega
        have h5 : ¬ p := fun q => h3 (hp.mp q)
        simp [h1, h2, h4, h5, bI]
    · simp [h1, h2, bI]
theorem hl_ok {s : Nat → Nat → Nat} (t : T12 g s σ) (hg : okG g) (hs : okS g s) {h a b : Nat} (hh : h < g.1) (ha : a < g.2.1) (hb : b < g.2.1) : F_X9_horseLikes (nI h) (nI a) (nI b) σ = some (bI (hlB (Wo g s) h a b)) := by
  have := hg.1; have := hg.2.1
  unfold F_X9_horseLikes
  simp (disch := omega) only [i_5, pk_mul, nI_add, at_12, t h a hh ha, t h b hh hb, Option.bind_some]
  exact hl_if (Wo_le hg hs hh ha) (Wo_le hg hs hh hb) (nI_leI (by omega) (by omega))
-- the reference
def sh (g : FD) (d x : Nat → Nat) (r t : Nat) : Nat := min 9 (g.2.2 (7 + t) r + d (3 * r + t) + x (3 * r + t))
def MD (d x : Nat → Nat) (σ : Mem) : Prop := (∀ i, i < 15 → σ.2.1 58 (5 + i) = nI (d i) ∧ d i ≤ 9) ∧ ∀ i, i < 15 → σ.2.1 66 i = nI (x i) ∧ x i ≤ 9
theorem okS_sh (g : FD) (d x : Nat → Nat) : okS g (sh g d x) := fun r t _ _ => Nat.min_le_left _ _
theorem sh_ok {d x : Nat → Nat} (c : MF g σ) (hg : okG g) (e : MD d x σ) {r t : Nat} (hr : r < g.2.1) (ht : t < 3) : F_X11_shows (nI r) (nI t) σ = some (nI (sh g d x r t)) := by
  have := hg.2.1
  have h0 := hg.2.2.2 r hr
  have h1 : g.2.2 (7 + t) r ≤ 9 := by rcases t with _|_|_|t <;> first | exact h0.1 | exact h0.2.1 | exact h0.2.2.1 | omega
  have h2 := e.1 (3 * r + t) (by omega)
  have h3 := e.2 (3 * r + t) (by omega)
  have h4 : σ.2.1 58 (5 + 3 * r + t) = nI (d (3 * r + t)) := by rw [← h2.1, Nat.add_assoc]
  unfold F_X11_shows
  simp (disch := omega) only [i_3, i_4, i_5, pk_mul, nI_add, rd_55, rd_58, rd_66, Option.bind_some, mf_r c, h4, h3.1]
  unfold sh
  by_cases h5 : g.2.2 (7 + t) r + d (3 * r + t) + x (3 * r + t) ≤ 9
  · rw [if_pos (show _ ≤ (9 : Int32) from nI_le (b := 9) h5 (by omega)), Nat.min_eq_right h5]
  · rw [if_neg (show ¬ _ ≤ (9 : Int32) from nI_ge (a := 9) (by omega) (by omega)), Nat.min_eq_left (by omega)]; rfl
theorem wo_ok {d x : Nat → Nat} (c : MF g σ) (hg : okG g) (e : MD d x σ) {h r : Nat} (hh : h < g.1) (hr : r < g.2.1) : F_X11_worthOf (nI h) (nI r) σ = some (nI (Wo g (sh g d x) h r)) := by
  have := hg.1; have := hg.2.1
  unfold F_X11_worthOf
  refine lpD (fun n (a : Nat) i => F_X11_worthOf_b5 σ n (nI h) (nI r) (nI a) (nI i)) 3 (fun i => sumN (fun t => g.2.2 (1 + t) h * sh g d x r t) i) _ ?_ ?_ 4000 (by omega)
  · intro n
    simp only [F_X11_worthOf_b5]
    rw [if_pos (show (3 : Int32) ≤ nI 3 from Int32.le_refl _)]; rfl
  · intro n i hi
    have e1 : ¬ 3 ≤ i := by omega
    have e2 : σ.2.1 54 (7 * h + 1 + i) = nI (g.2.2 (1 + i) h) := by rw [Nat.add_assoc]; exact mf_h c hh (by omega)
    simp (disch := omega) only [F_X11_worthOf_b5, i_0, i_1, i_2, i_3, i_4, i_5, i_7, nI_add, pk_mul, nI_l1, nI_l2, nI_e, nI_n9, nI_n9', nI_neg, Option.bind_some, if_true, if_false, stI, stJ, e1, rd_54, e2, sh_ok c hg e hr hi, sumN]
theorem ie_ok {d x : Nat → Nat} (c : MF g σ) (hg : okG g) (e : MD d x σ) {h r : Nat} (hh : h < g.1) (hr : r < g.2.1) : F_X11_isEnough (nI h) (nI r) σ = some (bI (enB g (Wo g (sh g d x)) h r)) := by
  have := hg.1
  have h1 := Wo_le hg (okS_sh g d x) hh hr
  have h2 := (hg.2.2.1 h hh).2.2.2.2.2.2.2
  unfold F_X11_isEnough
  simp (disch := omega) only [wo_ok c hg e hh hr, i_6, i_0, i_1, i_2, i_3, i_4, i_5, i_7, nI_add, pk_mul, nI_l1, nI_l2, nI_e, nI_n9, nI_n9', nI_neg, Option.bind_some, if_true, if_false, stI, stJ, rd_54, mf_h c]
  unfold enB bI
  by_cases e : Wo g (sh g d x) h r < g.2.2 6 h
  · rw [if_pos e, decide_eq_false (by omega)]; rfl
  · rw [if_neg e, decide_eq_true (by omega)]; rfl
theorem lr_ok {d x : Nat → Nat} (c : MF g σ) (hg : okG g) (e : MD d x σ) {h a b : Nat} (hh : h < g.1) (ha : a < g.2.1) (hb : b < g.2.1) : F_X11_likesRider (nI h) (nI a) (nI b) σ = some (bI (hlB (Wo g (sh g d x)) h a b)) := by
  have := hg.1; have := hg.2.1
  unfold F_X11_likesRider
  simp (disch := omega) only [wo_ok c hg e hh ha, wo_ok c hg e hh hb, Option.bind_some]
  exact hl_if (Wo_le hg (okS_sh g d x) hh ha) (Wo_le hg (okS_sh g d x) hh hb) (nI_leI (by omega) (by omega))
