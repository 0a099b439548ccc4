-- fair
variable {g : FD} {P : PD} {σ σ' : Mem} {T : Nat → Nat} {n p : Nat}
def P0 : PD := (fun _ => 9, fun _ => 0, 0)
theorem okP0 (hg : okG g) : okP g P0 := ⟨fun r _ => .inl rfl, fun i _ => Nat.zero_le _, fun r t hr ht => by
  have h := hg.2.2.2 r hr
  show g.2.2 (7 + t) r + 0 ≤ 9
  rcases t with _|_|_|t
  · exact h.1
  · exact h.2.1
  · exact h.2.2.1
  · omega⟩
-- the class
theorem slot1 {s : Nat} (hs : s < 2) : F_X10_slotOf (nI s) σ = some (some (15 + s)) := by
  unfold F_X10_slotOf rdS
  rw [if_neg (nI_pos (by omega)), if_neg (nI_ge hs (by omega)), nI_clamp (by omega), if_neg (by rintro (h | h); exact nI_pos (by omega) h; omega)]
  rfl
theorem es_ok : F_X10_emptySlots σ = some (sI (sI σ 75 0) 76 0) := by
  have h2 : ∀ (f : Nat) (s : Mem), F_X10_emptySlots_b2 (f + 1) (nI 2) s = some s := fun f s => by
    simp only [F_X10_emptySlots_b2]
    rw [if_pos (show (2 : Int32) ≤ nI 2 from Int32.le_refl _)]
  have h1 : ∀ (f : Nat) (s : Mem), F_X10_emptySlots_b2 (f + 1) (nI 1) s = F_X10_emptySlots_b2 f (nI 2) (sI s 76 0) := fun f s => by
    simp only [F_X10_emptySlots_b2]
    rw [if_neg (show ¬ (2 : Int32) ≤ nI 1 by decide), slot1 (by omega), Option.bind_some]
    rfl
  have h0 : ∀ (f : Nat) (s : Mem), F_X10_emptySlots_b2 (f + 1) (nI 0) s = F_X10_emptySlots_b2 f (nI 1) (sI s 75 0) := fun f s => by
    simp only [F_X10_emptySlots_b2]
    rw [if_neg (show ¬ (2 : Int32) ≤ nI 0 by decide), slot1 (by omega), Option.bind_some]
    rfl
  unfold F_X10_emptySlots
  rw [show (0 : Int32) = nI 0 from rfl, h0 3999, h1 3998, h2 3997]; rfl
def c1I (n : Nat) : Bool := n != 4 && n != 40 && n != 75 && n != 76
def c1A (n : Nat) : Bool := n != 15 && n != 36
theorem cl_ok : ∃ σ', F_X5_clear 0 σ = some σ' ∧ Fq c1I c1A true σ σ' ∧ CP 0 P0 σ' := by
  unfold F_X5_clear F_X7_clear
  obtain ⟨σ1, a1, a2, a3⟩ := fill_ok (σ := σ) (n := 15 + 0) (v := (-9 : Int32))
  obtain ⟨σ2, b1, b2, b3⟩ := fill_ok (σ := σ1) (n := 36 + 0) (v := (0 : Int32))
  rw [a1, Option.bind_some, Option.bind_some, b1, Option.bind_some]
  refine ⟨sI σ2 (40 + 0) 0, rfl, Fq_sI (Fq_t (Fq_w a2 (fun _ _ => rfl) (fun n h => by simp [c1A] at h ⊢; omega) (fun h => h)) (Fq_w b2 (fun _ _ => rfl) (fun n h => by simp [c1A] at h ⊢; omega) (fun h => h))), fun r hr => ?_, fun i hi => ?_, rfl⟩
  · rw [sI_2, b2.2.1 (15 + 0) rfl]; exact a3 r hr
  · rw [sI_2]; exact b3 i hi
-- the reference
theorem m35 {nh : Nat} (h : σ.1 23 = nI nh) (hn : nh ≤ 4) : ∃ σ', F_X11_fair_b35 4000 (0 : Int32) σ = F_X11_fair_b66 4000 (0 : Int32) σ' ∧ Fq (fun _ => true) (fun n => n != 54) true σ σ' ∧ ∀ k, k < 7 * nh → σ'.2.1 54 k = σ.2.1 56 k := by
  refine lp (fun f (s : Mem) k => F_X11_fair_b35 f (nI k) s) (fun o => ∃ σ', o = F_X11_fair_b66 4000 (0 : Int32) σ' ∧ Fq (fun _ => true) (fun n => n != 54) true σ σ' ∧ ∀ k, k < 7 * nh → σ'.2.1 54 k = σ.2.1 56 k) (7 * nh) (fun k s => Fq (fun _ => true) (fun n => n != 54) true σ s ∧ ∀ j, j < k → s.2.1 54 j = σ.2.1 56 j) ?_ ?_ (7 * nh) 0 σ 4000 (by omega) (by omega) (by omega) ⟨Fq_r σ, fun j hj => absurd hj (Nat.not_lt_zero _)⟩
  · intro f s ⟨p1, p2⟩
    refine ⟨s, ?_, p1, p2⟩
    simp only [F_X11_fair_b35]
    rw [p1.1 23 rfl, h, show (7 : Int32) = nI 7 from rfl, pk_mul, if_pos (nI_le (Nat.le_refl _) (by omega))]
  · intro f s k hk ⟨p1, p2⟩
    refine .inr ⟨sA s 54 k (σ.2.1 56 k), ⟨Fq_sA p1, fun j hj => ?_⟩, ?_⟩
    · rw [sA_2, if_pos rfl, upd_ap]
      by_cases q : j = k
      · rw [if_pos q, q]
      · rw [if_neg q]; exact p2 j (by omega)
    · simp only [F_X11_fair_b35]
      rw [p1.1 23 rfl, h, show (7 : Int32) = nI 7 from rfl, pk_mul, if_neg (nI_ge hk (by omega)), rd_56 (by omega), Option.bind_some, p1.2.1 56 rfl, wr_54 (by omega), Option.bind_some, nI_1]
theorem m66 {nr : Nat} (h : σ.1 24 = nI nr) (hn : nr ≤ 5) : ∃ σ', F_X11_fair_b66 4000 (0 : Int32) σ = F_X11_fair_b96 4000 (0 : Int32) σ' ∧ Fq (fun _ => true) (fun n => n != 55) true σ σ' ∧ ∀ k, k < 4 * nr → σ'.2.1 55 k = σ.2.1 57 k := by
  refine lp (fun f (s : Mem) k => F_X11_fair_b66 f (nI k) s) (fun o => ∃ σ', o = F_X11_fair_b96 4000 (0 : Int32) σ' ∧ Fq (fun _ => true) (fun n => n != 55) true σ σ' ∧ ∀ k, k < 4 * nr → σ'.2.1 55 k = σ.2.1 57 k) (4 * nr) (fun k s => Fq (fun _ => true) (fun n => n != 55) true σ s ∧ ∀ j, j < k → s.2.1 55 j = σ.2.1 57 j) ?_ ?_ (4 * nr) 0 σ 4000 (by omega) (by omega) (by omega) ⟨Fq_r σ, fun j hj => absurd hj (Nat.not_lt_zero _)⟩
  · intro f s ⟨p1, p2⟩
    refine ⟨s, ?_, p1, p2⟩
    simp only [F_X11_fair_b66]
    rw [p1.1 24 rfl, h, show (4 : Int32) = nI 4 from rfl, pk_mul, if_pos (nI_le (Nat.le_refl _) (by omega))]
  · intro f s k hk ⟨p1, p2⟩
    refine .inr ⟨sA s 55 k (σ.2.1 57 k), ⟨Fq_sA p1, fun j hj => ?_⟩, ?_⟩
    · rw [sA_2, if_pos rfl, upd_ap]
      by_cases q : j = k
      · rw [if_pos q, q]
      · rw [if_neg q]; exact p2 j (by omega)
    · simp only [F_X11_fair_b66]
      rw [p1.1 24 rfl, h, show (4 : Int32) = nI 4 from rfl, pk_mul, if_neg (nI_ge hk (by omega)), rd_57 (by omega), Option.bind_some, p1.2.1 57 rfl, wr_55 (by omega), Option.bind_some, nI_1]
def c3I (n : Nat) : Bool := n != 27
def c3A (n : Nat) : Bool := n != 58 && n != 67
theorem m96 : ∃ σ', F_X11_fair_b96 4000 (0 : Int32) σ = some (((10 : Int32) * (σ.1 23)) + (σ.1 24), σ') ∧ Fq c3I c3A true σ σ' ∧ σ'.1 27 = 0 ∧ (∀ k, k < 21 → σ'.2.1 58 k = if k < 5 then -9 else 0) ∧ σ'.2.1 67 0 = 0 ∧ σ'.2.1 67 1 = 0 := by
  refine lp (fun f (s : Mem) k => F_X11_fair_b96 f (nI k) s) (fun o => ∃ σ', o = some (((10 : Int32) * (σ.1 23)) + (σ.1 24), σ') ∧ Fq c3I c3A true σ σ' ∧ σ'.1 27 = 0 ∧ (∀ k, k < 21 → σ'.2.1 58 k = if k < 5 then -9 else 0) ∧ σ'.2.1 67 0 = 0 ∧ σ'.2.1 67 1 = 0) 21 (fun k s => Fq (fun _ => true) (fun n => n != 58) true σ s ∧ ∀ j, j < k → s.2.1 58 j = if j < 5 then -9 else 0) ?_ ?_ 21 0 σ 4000 (by omega) (by omega) (by omega) ⟨Fq_r σ, fun j hj => absurd hj (Nat.not_lt_zero _)⟩
  · intro f s ⟨p1, p2⟩
    refine ⟨sA (sA (sI s 27 0) 67 0 0) 67 1 0, ?_, Fq_sA (Fq_sA (Fq_sI (Fq_w p1 (fun _ _ => rfl) (fun n h => by simp [c3A] at h ⊢; omega) (fun h => h)))), rfl, p2, rfl, rfl⟩
    have e0 : wrA (sI s 27 0) 67 (0 : Int32) (0 : Int32) = some (sA (sI s 27 0) 67 0 0) := wr_67 (i := 0) (by omega)
    have e1 : wrA (sA (sI s 27 0) 67 0 0) 67 (1 : Int32) (0 : Int32) = some (sA (sA (sI s 27 0) 67 0 0) 67 1 0) := wr_67 (i := 1) (by omega)
    simp only [F_X11_fair_b96]
    rw [if_pos (show (21 : Int32) ≤ nI 21 from Int32.le_refl _), show stI s 27 (0 : Int32) = some (sI s 27 0) from rfl, Option.bind_some, e0, Option.bind_some, e1, Option.bind_some, sA_1, sA_1, sI_1, if_neg (by decide), sI_1, if_neg (by decide), p1.1 23 rfl, p1.1 24 rfl]
  · intro f s k hk ⟨p1, p2⟩
    refine .inr ⟨sA s 58 k (if k < 5 then -9 else 0), ⟨Fq_sA p1, fun j hj => ?_⟩, ?_⟩
    · rw [sA_2, if_pos rfl, upd_ap]
      by_cases q : j = k
      · rw [if_pos q, q]
      · rw [if_neg q]; exact p2 j (by omega)
    · simp only [F_X11_fair_b96]
      rw [if_neg (show ¬ (21 : Int32) ≤ nI k from nI_ge (b := 21) hk (by omega)), show (5 : Int32) = nI 5 from rfl, if_le (by omega) (by omega), wr_58 (by omega), Option.bind_some, wr_58 (by omega), Option.bind_some, nI_1]
      by_cases q : k < 5
      · rw [if_neg (by omega), if_pos q]
      · rw [if_pos (by omega), if_neg q]
def c2I (n : Nat) : Bool := n != 20 && n != 22 && n != 23 && n != 24 && n != 25 && n != 26 && n != 27
def c2A (n : Nat) : Bool := n != 54 && n != 55 && n != 56 && n != 57 && n != 58 && n != 67
theorem mfa_ok (hg : okG g) (h : RF g σ) : ∃ σ', (Option.bind (stI σ 23 (σ.1 25)) fun σ3 => Option.bind (stI σ3 24 (σ3.1 26)) fun σ4 => F_X11_fair_b35 4000 (0 : Int32) σ4) = some (nI (10 * g.1 + g.2.1), σ') ∧ Fq c2I c2A true σ σ' ∧ MF g σ' ∧ σ'.1 27 = 0 ∧ (∀ k, k < 21 → σ'.2.1 58 k = if k < 5 then -9 else 0) ∧ σ'.2.1 67 0 = 0 ∧ σ'.2.1 67 1 = 0 := by
  have hg1 := hg.1
  have hg2 := hg.2.1
  obtain ⟨h25, h26, h56, h57⟩ := h
  obtain ⟨s1, a1, a2, a3⟩ := m35 (σ := sI (sI σ 23 (nI g.1)) 24 (nI g.2.1)) (nh := g.1) rfl hg1
  obtain ⟨s2, b1, b2, b3⟩ := m66 (σ := s1) (nr := g.2.1) (by rw [a2.1 24 rfl]; rfl) hg2
  obtain ⟨s3, d1, d2, d3, d4, d5, d6⟩ := m96 (σ := s2)
  have e23 : s2.1 23 = nI g.1 := by rw [b2.1 23 rfl, a2.1 23 rfl]; rfl
  have e24 : s2.1 24 = nI g.2.1 := by rw [b2.1 24 rfl, a2.1 24 rfl]; rfl
  refine ⟨s3, ?_, ?_, ⟨?_, ?_, fun x k hx hk => ?_, fun r k hr hk => ?_⟩, d3, d4, d5, d6⟩
  · rw [h25, show stI σ 23 (nI g.1) = some (sI σ 23 (nI g.1)) from rfl, Option.bind_some, show (sI σ 23 (nI g.1)).1 26 = nI g.2.1 from h26, show stI (sI σ 23 (nI g.1)) 24 (nI g.2.1) = some (sI (sI σ 23 (nI g.1)) 24 (nI g.2.1)) from rfl, Option.bind_some, a1, b1, d1, e23, e24, show (10 : Int32) = nI 10 from rfl, pk_mul, nI_add]
  · have F0 : Fq c2I c2A true σ (sI (sI σ 23 (nI g.1)) 24 (nI g.2.1)) := Fq_sI (Fq_sI (Fq_r σ))
    exact Fq_t F0 (Fq_t (Fq_w a2 (fun _ _ => rfl) (fun n h => by simp [c2A] at h ⊢; omega) (fun h => h)) (Fq_t (Fq_w b2 (fun _ _ => rfl) (fun n h => by simp [c2A] at h ⊢; omega) (fun h => h)) (Fq_w d2 (fun n h => by simp [c2I, c3I] at h ⊢; omega) (fun n h => by simp [c2A, c3A] at h ⊢; omega) (fun h => h))))
  · rw [d2.1 23 rfl]; exact e23
  · rw [d2.1 24 rfl]; exact e24
  · rw [d2.2.1 54 rfl, b2.2.1 54 rfl, a3 _ (by omega)]
    exact h56 x k hx hk
  · rw [d2.2.1 55 rfl, b3 _ (by omega), a2.2.1 57 rfl]
    exact h57 r k hr hk
-- the step
def aaI (n : Nat) : Bool := n != 1 && n != 2 && n != 4 && n != 40 && n != 75 && n != 76 && n != 20 && n != 22 && n != 23 && n != 24 && n != 25 && n != 26 && n != 27
def aaA (n : Nat) : Bool := n != 1 && n != 2 && n != 3 && n != 4 && n != 5 && n != 6 && n != 7 && n != 8 && n != 9 && n != 15 && n != 36 && n != 54 && n != 55 && n != 56 && n != 57 && n != 58 && n != 67
theorem st_fair : Step_fair Inv := by
  intro σ hI0
  obtain ⟨g, P, R⟩ := id hI0
  obtain ⟨n, T, t, tm⟩ := RT_u R.2.2.2.2.2.2.1
  have tm2 : TM T n (sI σ 20 0) := tm
  rcases scan0 t tm2 with ⟨q, s', c1, c2, c3, c4⟩ | ⟨nh, nr, ph, pr, s', c0, c1, c2, c3, c4, c5⟩
  · refine ⟨-3, σ, s', ?_, ?_, g, P, Rel_fr (R_20 R) (Fr_sq c4)⟩
    · unfold F_X10_fair
      rw [c2, Option.bind_some, if_neg (n9F (by omega))]
    · unfold F_X11_fair
      rw [show stI σ 20 (0 : Int32) = some (sI σ 20 0) from rfl, Option.bind_some, c3, Option.bind_some, if_neg (n9F (by omega))]
  · -- the class goes to its end
    obtain ⟨s3, g1, g2, g3⟩ := c5 σ t
    obtain ⟨s4, k1, k2, k3⟩ := rk_all g3 c0
    rw [k1] at g1
    obtain ⟨s5, l1, l2, l3⟩ := cl_ok (σ := s4)
    have hcl : F_X10_fair σ = some (((10 : Int32) * ((sI (sI (sI s5 4 0) 75 0) 76 0).1 1)) + ((sI (sI (sI s5 4 0) 75 0) 76 0).1 2), sI (sI (sI s5 4 0) 75 0) 76 0) := by
      unfold F_X10_fair
      rw [c1, Option.bind_some, if_pos rfl, g1, Option.bind_some, l1, Option.bind_some, show stI s5 4 (0 : Int32) = some (sI s5 4 0) from rfl, Option.bind_some, es_ok, Option.bind_some]
    have F45 : Fq c1I c1A true s4 (sI (sI (sI s5 4 0) 75 0) 76 0) := Fq_sI (Fq_sI (Fq_sI l2))
    have F04 : Fq rdI (fun n => rdQ n && rkA n) true σ s4 := Fq_t (Fq_w g2 (fun _ h => h) (fun n h => by rw [Bool.and_eq_true] at h; exact h.1) (fun h => h)) (Fq_w k2 (fun _ _ => rfl) (fun n h => by rw [Bool.and_eq_true] at h; exact h.2) (fun h => h))
    -- what is read, as the reference has it
    have tm5 : TM T n (sI (sI (sI (sI s5 4 0) 75 0) 76 0) 20 0) := TM_fr (TM_fr tm F04) (Fq_sI (qI := fun n => c1I n && n != 20) (qA := c1A) (Fq_w F45 (fun n h => by rw [Bool.and_eq_true] at h; exact h.1) (fun _ h => h) (fun h => h)))
    rcases scan0 t tm5 with ⟨q, z', z1, z2, z3, z4⟩ | ⟨nh2, nr2, ph2, pr2, z', z0, z1, z2, z3, z4, z5⟩
    · rw [c1] at z2
      exact absurd (Option.some.inj z2).symm (n9F (by omega))
    · obtain ⟨y3, x1, x2, x3⟩ := z5 σ t
      obtain ⟨y4, w1, w2, w3⟩ := rk_all x3 z0
      have he : s4 = y4 := by
        rw [x1, w1] at g1
        exact (Option.some.inj g1).symm
      subst he
      generalize gN T nh2 nr2 ph2 pr2 = G at *
      have C1 : CF G (sI (sI (sI s5 4 0) 75 0) 76 0) := CF_fr w3 F45
      obtain ⟨sf, v1, v2, v3, v4, v5, v6, v7⟩ := mfa_ok z0 z4
      have F2f : Fq c2I c2A true (sI (sI (sI s5 4 0) 75 0) 76 0) sf := Fq_t (Fq_sI (Fq_r _)) (Fq_t (Fq_w z3 (fun n h => by simp [sq1, c2I] at h ⊢; omega) (fun n h => by simp [sqA, c2A] at h ⊢; omega) (fun h => h)) v2)
      have FA : Fq aaI aaA true σ sf := Fq_t (Fq_w F04 (fun n h => by simp [rdI, aaI] at h ⊢; omega) (fun n h => by simp [rdQ, rkA, aaA] at h ⊢; omega) (fun h => h)) (Fq_t (Fq_w F45 (fun n h => by simp [c1I, aaI] at h ⊢; omega) (fun n h => by simp [c1A, aaA] at h ⊢; omega) (fun h => h)) (Fq_w F2f (fun n h => by simp [c2I, aaI] at h ⊢; omega) (fun n h => by simp [c2A, aaA] at h ⊢; omega) (fun h => h)))
      obtain ⟨hg, hP, c, d, e, i, j, k, l, m, z⟩ := id R
      refine ⟨nI (10 * G.1 + G.2.1), sI (sI (sI s5 4 0) 75 0) 76 0, sf, ?_, ?_, G, P0, z0, okP0 z0, CF_fr C1 F2f, v3, ?_, ?_, RT_fr j FA, ?_, ?_, RC_fr m FA, RZ_fr z FA⟩
      · rw [hcl, C1.1, C1.2.1, show (10 : Int32) = nI 10 from rfl, pk_mul, nI_add]
      · unfold F_X11_fair
        rw [show stI (sI (sI (sI s5 4 0) 75 0) 76 0) 20 (0 : Int32) = some (sI (sI (sI (sI s5 4 0) 75 0) 76 0) 20 0) from rfl, Option.bind_some, z2, Option.bind_some, if_pos rfl]
        exact v1
      · have l4 : CP 0 P0 (sI (sI (sI s5 4 0) 75 0) 76 0) := l3
        exact CP_fr l4 F2f
      · refine ⟨fun r hr => ?_, fun x hx => ?_, ?_⟩
        · rw [Nat.zero_add, v5 r (by omega), if_pos hr]; rfl
        · rw [Nat.zero_add, v5 (5 + x) (by omega), if_neg (by omega)]; rfl
        · rw [Nat.zero_add, v5 20 (by omega), if_neg (by omega)]; rfl
      · obtain ⟨f, cc, Q, h1, h2, h3, h4, h5⟩ := k
        refine ⟨f, 0, Q, h1, Nat.zero_le _, fun j hj => absurd hj (Nat.not_lt_zero _), ⟨?_, ?_, fun j hj => absurd hj (Nat.not_lt_zero _)⟩, ⟨v4, fun j hj => absurd hj (Nat.not_lt_zero _)⟩⟩
        · rw [FA.1 3 rfl]; exact h4.1
        · rw [F2f.1 4 rfl]; rfl
      · intro s hs
        refine .inl ?_
        rcases s with _|_|s
        · exact ⟨by rw [F2f.1 _ rfl]; rfl, v6⟩
        · exact ⟨by rw [F2f.1 _ rfl]; rfl, v7⟩
        · omega
