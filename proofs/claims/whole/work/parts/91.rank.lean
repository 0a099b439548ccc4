-- ranks, made anew
variable {g : FD} {P : PD} {σ σ' : Mem}
theorem ap_ok (c : CF0 g σ) (hg : okG g) {r a b : Nat} (hr : r < g.2.1) (ha : a < g.1) (hb : b < g.1) : ∃ va vb : Int32, F_X3_appeal (nI r) (nI a) σ = some va ∧ F_X3_appeal (nI r) (nI b) σ = some vb ∧ ∃ x y, x ≤ 9 ∧ y ≤ 9 ∧ va - vb = nI x - nI y ∧ (ap g r a = (x : Int) ∧ ap g r b = (y : Int) ∨ ap g r a = -(y : Int) ∧ ap g r b = -(x : Int)) := by
  have hg1 := hg.1
  have hg2 := hg.2.1
  have A := c.2.2.1 a ha
  have B := c.2.2.1 b hb
  have oa := hg.2.2.1 a ha
  have ob := hg.2.2.1 b hb
  have ht : F_X10_at 7 (nI r) σ = some (nI (g.2.2 10 r)) := by rw [at_7 (by omega), (c.2.2.2 r hr).2]
  have h3 := (hg.2.2.2 r hr).2.2.2
  have neg2 : ∀ x y : Int32, -x - -y = y - x := fun x y => by rw [Int32.sub_eq_add_neg, Int32.neg_neg, Int32.add_comm, ← Int32.sub_eq_add_neg]
  unfold F_X3_appeal
  rw [ht, Option.bind_some, Option.bind_some, at_3 (by omega), at_3 (by omega), at_4 (by omega), at_4 (by omega), A.2.2.1, A.2.2.2.1, B.2.2.1, B.2.2.2.1]
  simp only [Option.bind_some]
  have hc : g.2.2 10 r = 0 ∨ g.2.2 10 r = 1 ∨ g.2.2 10 r = 2 ∨ g.2.2 10 r = 3 := by omega
  rcases hc with hc | hc | hc | hc
  · rw [hc, if_pos (show nI 0 = 0 from rfl), if_pos (show nI 0 = 0 from rfl)]
    exact ⟨_, _, rfl, rfl, g.2.2 4 a, g.2.2 4 b, by omega, by omega, rfl, .inl (by unfold ap; rw [if_pos hc, if_pos hc]; exact ⟨rfl, rfl⟩)⟩
  · rw [hc, if_neg (show ¬ nI 1 = 0 by decide), if_pos (show nI 1 = 1 from rfl), if_neg (show ¬ nI 1 = 0 by decide), if_pos (show nI 1 = 1 from rfl)]
    exact ⟨_, _, rfl, rfl, g.2.2 5 b, g.2.2 5 a, by omega, by omega, neg2 _ _, .inr (by unfold ap; rw [if_neg (by omega), if_pos hc, if_neg (by omega), if_pos hc]; exact ⟨rfl, rfl⟩)⟩
  · rw [hc, if_neg (show ¬ nI 2 = 0 by decide), if_neg (show ¬ nI 2 = 1 by decide), if_pos (show nI 2 = 2 from rfl), if_neg (show ¬ nI 2 = 0 by decide), if_neg (show ¬ nI 2 = 1 by decide), if_pos (show nI 2 = 2 from rfl)]
    exact ⟨_, _, rfl, rfl, g.2.2 5 a, g.2.2 5 b, by omega, by omega, rfl, .inl (by unfold ap; rw [if_neg (by omega), if_neg (by omega), if_pos hc, if_neg (by omega), if_neg (by omega), if_pos hc]; exact ⟨rfl, rfl⟩)⟩
  · rw [hc, if_neg (show ¬ nI 3 = 0 by decide), if_neg (show ¬ nI 3 = 1 by decide), if_neg (show ¬ nI 3 = 2 by decide), if_neg (show ¬ nI 3 = 0 by decide), if_neg (show ¬ nI 3 = 1 by decide), if_neg (show ¬ nI 3 = 2 by decide)]
    exact ⟨_, _, rfl, rfl, g.2.2 4 b, g.2.2 4 a, by omega, by omega, neg2 _ _, .inr (by unfold ap; rw [if_neg (by omega), if_neg (by omega), if_neg (by omega), if_neg (by omega), if_neg (by omega), if_neg (by omega)]; exact ⟨rfl, rfl⟩)⟩
theorem rh15 {kL : Int32 → Int32 → Mem → Option Mem} (c : CF0 g σ) (hg : okG g) {r h : Nat} (hr : r < g.2.1) (hh : h < g.1) : F_X3_rankHorses_b15 kL 4000 (nI r) (nI h) (0 : Int32) (0 : Int32) σ = kL (nI r) (nI (h + 1)) (sA (sA σ 8 (4 * r + h) (nI (rk g r h))) 9 (4 * r + rk g r h) (nI h)) := by
  have hg1 := hg.1
  have hg2 := hg.2.1
  have hb := rk_b (g := g) (r := r) hh
  refine lpD (fun n (a : Nat) i => F_X3_rankHorses_b15 kL n (nI r) (nI h) (nI a) (nI i) σ) g.1 (fun i => cntN (fun x => rl g r x h) i) _ ?_ ?_ 4000 (by omega)
  · intro n
    simp only [F_X3_rankHorses_b15]
    rw [c.1, if_pos (nI_le (Nat.le_refl _) (by omega)), show (4 : Int32) = nI 4 from rfl, pk_mul, nI_add, nI_add, show cntN (fun x => rl g r x h) g.1 = rk g r h from rfl, put_8 (by omega), Option.bind_some, put_9 (by omega), Option.bind_some, nI_1]
  · intro n i hi
    obtain ⟨va, vb, q1, q2, x, y, hx, hy, q3, q4⟩ := ap_ok c hg hr hi hh
    have hw := rl_if (g := g) (r := r) (a := i) (b := h) (p := nI h ≤ nI i) hx hy (nI_leI (by omega) (by omega)) q4
    simp only [F_X3_rankHorses_b15]
    rw [c.1, if_neg (nI_ge hi (by omega)), q1, Option.bind_some, q2, Option.bind_some, q3, nI_1, nI_1, cntN_s]
    have hgo : ∀ (A B : Option Mem), (if (0 : Int32) < nI x - nI y then A else if nI x - nI y = 0 then (if nI h ≤ nI i then B else A) else B) = if rl g r i h = true then A else B := fun A B => by
      have e0 : (0 : Int32) = nI 0 := rfl
      rw [e0]
      by_cases c1 : nI 0 < nI x - nI y
      · rw [if_pos c1] at hw ⊢
        have := Option.some.inj hw
        cases hb2 : rl g r i h with
        | true => rw [if_pos rfl]
        | false => rw [hb2] at this; exact absurd this (by decide)
      · rw [if_neg c1] at hw ⊢
        by_cases c2 : nI x - nI y = nI 0
        · rw [if_pos c2] at hw ⊢
          by_cases c3 : nI h ≤ nI i
          · rw [if_pos c3] at hw ⊢
            have := Option.some.inj hw
            cases hb2 : rl g r i h with
            | true => rw [hb2] at this; exact absurd this (by decide)
            | false => rw [if_neg (by decide)]
          · rw [if_neg c3] at hw ⊢
            have := Option.some.inj hw
            cases hb2 : rl g r i h with
            | true => rw [if_pos rfl]
            | false => rw [hb2] at this; exact absurd this (by decide)
        · rw [if_neg c2] at hw ⊢
          have := Option.some.inj hw
          cases hb2 : rl g r i h with
          | true => rw [hb2] at this; exact absurd this (by decide)
          | false => rw [if_neg (by decide)]
    rw [hgo]
    cases rl g r i h <;> rfl
def rkA (n : Nat) : Bool := n != 8 && n != 9
theorem CF0_fr {qI qA : Nat → Bool} {qJ : Bool} (h : CF0 g σ) (f : Fq qI qA qJ σ σ') (q1 : (qI 1 && qI 2 && qA 1 && qA 2 && qA 3 && qA 4 && qA 5 && qA 6 && qA 7) = true := by rfl) : CF0 g σ' := by
  simp only [Bool.and_eq_true] at q1
  obtain ⟨⟨⟨⟨⟨⟨⟨⟨z1, z2⟩, z3⟩, z4⟩, z5⟩, z6⟩, z7⟩, z8⟩, z9⟩ := q1
  unfold CF0
  rw [f.1 1 z1, f.1 2 z2, f.2.1 1 z3, f.2.1 2 z4, f.2.1 3 z5, f.2.1 4 z6, f.2.1 5 z7, f.2.1 6 z8, f.2.1 7 z9]; exact h
theorem rh_ok (c : CF0 g σ) (hg : okG g) {r : Nat} (hr : r < g.2.1) : ∃ σ', F_X3_rankHorses (nI r) σ = some σ' ∧ Fq (fun _ => true) rkA true σ σ' ∧ (∀ h, h < g.1 → σ'.2.1 8 (4 * r + h) = nI (rk g r h) ∧ σ'.2.1 9 (4 * r + rk g r h) = nI h) ∧ ∀ i, i < 4 * r → σ'.2.1 8 i = σ.2.1 8 i ∧ σ'.2.1 9 i = σ.2.1 9 i := by
  have hg1 := hg.1
  unfold F_X3_rankHorses
  refine lp (fun n (s : Mem) h => F_X3_rankHorses_b2 n (nI r) (nI h) s) (fun o => ∃ σ', o = some σ' ∧ Fq (fun _ => true) rkA true σ σ' ∧ (∀ h, h < g.1 → σ'.2.1 8 (4 * r + h) = nI (rk g r h) ∧ σ'.2.1 9 (4 * r + rk g r h) = nI h) ∧ ∀ i, i < 4 * r → σ'.2.1 8 i = σ.2.1 8 i ∧ σ'.2.1 9 i = σ.2.1 9 i) g.1 (fun k s => Fq (fun _ => true) rkA true σ s ∧ (∀ h, h < k → s.2.1 8 (4 * r + h) = nI (rk g r h) ∧ s.2.1 9 (4 * r + rk g r h) = nI h) ∧ ∀ i, i < 4 * r → s.2.1 8 i = σ.2.1 8 i ∧ s.2.1 9 i = σ.2.1 9 i) ?_ ?_ g.1 0 σ 4000 (by omega) (by omega) (by omega) ⟨Fq_r σ, fun h hh => absurd hh (Nat.not_lt_zero _), fun i _ => ⟨rfl, rfl⟩⟩
  · intro n s ⟨p1, p2, p3⟩
    refine ⟨s, ?_, p1, p2, p3⟩
    simp only [F_X3_rankHorses_b2]
    rw [(CF0_fr c p1).1, if_pos (nI_le (Nat.le_refl _) (by omega))]
  · intro n s k hk ⟨p1, p2, p3⟩
    have c' := CF0_fr c p1
    have hb := rk_b (g := g) (r := r) hk
    have e8 : ∀ i, (sA (sA s 8 (4 * r + k) (nI (rk g r k))) 9 (4 * r + rk g r k) (nI k)).2.1 8 i = if i = 4 * r + k then nI (rk g r k) else s.2.1 8 i := fun i => by
      rw [sA_2, if_neg (show ¬ (8 = 9) by decide), sA_2, if_pos rfl, upd_ap]
    have e9 : ∀ i, (sA (sA s 8 (4 * r + k) (nI (rk g r k))) 9 (4 * r + rk g r k) (nI k)).2.1 9 i = if i = 4 * r + rk g r k then nI k else s.2.1 9 i := fun i => by
      rw [sA_2, if_pos rfl, upd_ap, sA_2, if_neg (show ¬ (9 = 8) by decide)]
    refine .inr ⟨sA (sA s 8 (4 * r + k) (nI (rk g r k))) 9 (4 * r + rk g r k) (nI k), ⟨Fq_sA (Fq_sA p1), fun h hh => ?_, fun i hi => ?_⟩, ?_⟩
    · rw [e8, e9]
      by_cases q : h = k
      · rw [q, if_pos rfl, if_pos rfl]; exact ⟨rfl, rfl⟩
      · have hne : rk g r h ≠ rk g r k := fun z => q (rk_inj (by omega) hk z)
        rw [if_neg (by omega), if_neg (by omega)]
        exact p2 h (by omega)
    · rw [e8, e9, if_neg (by omega), if_neg (by omega)]
      exact p3 i hi
    · simp only [F_X3_rankHorses_b2]
      rw [c'.1, if_neg (nI_ge hk (by omega))]
      exact rh15 c' hg hr hk
theorem rk_all (c : CF0 g σ) (hg : okG g) : ∃ σ', F_X3_readFrom_b67 4000 (0 : Int32) σ = some σ' ∧ Fq (fun _ => true) rkA true σ σ' ∧ CF g σ' := by
  have hg1 := hg.1
  have hg2 := hg.2.1
  refine lp (fun n (s : Mem) r => F_X3_readFrom_b67 n (nI r) s) (fun o => ∃ σ', o = some σ' ∧ Fq (fun _ => true) rkA true σ σ' ∧ CF g σ') g.2.1 (fun k s => Fq (fun _ => true) rkA true σ s ∧ ∀ r h, r < k → h < g.1 → s.2.1 8 (4 * r + h) = nI (rk g r h) ∧ s.2.1 9 (4 * r + rk g r h) = nI h) ?_ ?_ g.2.1 0 σ 4000 (by omega) (by omega) (by omega) ⟨Fq_r σ, fun r h hh => absurd hh (Nat.not_lt_zero _)⟩
  · intro n s ⟨p1, p2⟩
    have c' := CF0_fr c p1
    refine ⟨s, ?_, p1, c'.1, c'.2.1, c'.2.2.1, c'.2.2.2, fun r h hr hh => p2 r h hr hh⟩
    simp only [F_X3_readFrom_b67]
    rw [c'.2.1, if_pos (nI_le (Nat.le_refl _) (by omega))]
  · intro n s k hk ⟨p1, p2⟩
    have c' := CF0_fr c p1
    obtain ⟨s2, q1, q2, q3, q4⟩ := rh_ok c' hg hk
    refine .inr ⟨s2, ⟨Fq_t p1 q2, fun r h hr hh => ?_⟩, ?_⟩
    · by_cases z : r = k
      · rw [z]; exact q3 h hh
      · have hb := rk_b (g := g) (r := r) hh
        rw [(q4 (4 * r + h) (by omega)).1, (q4 (4 * r + rk g r h) (by omega)).2]
        exact p2 r h (by omega) hh
    · simp only [F_X3_readFrom_b67]
      rw [c'.2.1, if_neg (nI_ge hk (by omega)), q1, Option.bind_some, nI_1]
