-- wants: learnt
variable {g : FD} {P : PD} {σ σ' : Mem}
theorem xl_learnt {p : Nat → Bool} {u : Int32} (hL : ∀ k, k < 64 → F_X11_isLearnt (nI k) σ = some (bI (p k))) : F_X11_learnt_b26 4000 u (0 : Int32) (-9 : Int32) (0 : Int32) σ = some (if u = 0 then nI (cntN p 64) else fsP p 64, σ) := by
  refine lpD (fun n (q : Nat × Int32) k => F_X11_learnt_b26 n u (nI q.1) q.2 (nI k) σ) 64 (fun k => (cntN p k, fsP p k)) _ ?_ ?_ 4000 (by omega)
  · intro n
    simp only [F_X11_learnt_b26]
    rw [if_pos (show (64 : Int32) ≤ nI 64 from Int32.le_refl _)]
    by_cases hu : u = 0
    · rw [if_pos hu, if_pos hu]
    · rw [if_neg hu, if_neg hu]
  · intro n k hk
    have hc := cntN_le p k
    show F_X11_learnt_b26 (n + 1) u (nI (cntN p k)) (fsP p k) (nI k) σ = F_X11_learnt_b26 n u (nI (cntN p k + (if p k then 1 else 0))) (if cntN p k = 0 ∧ p k = true then nI (fgs k) else fsP p k) (nI (k + 1)) σ
    simp only [F_X11_learnt_b26]
    rw [if_neg (show ¬ (64 : Int32) ≤ nI k from nI_ge (b := 64) hk (by omega)), hL k hk, Option.bind_some, kfg hk, nI_1, nI_1]
    by_cases c : p k = true
    · rw [c, if_neg (show ¬ bI true = 0 by decide), if_pos rfl]
      by_cases c0 : cntN p k = 0
      · rw [if_pos (show nI (cntN p k) = 0 by rw [c0]; rfl), if_pos ⟨c0, rfl⟩]
      · rw [if_neg (nI_ne0 (by omega) (by omega)), if_neg (fun e => c0 e.1)]
    · rw [(Bool.not_eq_true _).mp c, if_pos (show bI false = 0 from rfl), if_neg (by decide), if_neg (fun e => by cases e.2)]
      rfl
theorem RC_u (h : RC σ) : ∃ (c : Nat) (A B : Nat → Nat), c ≤ 6 ∧ σ.1 5 = nI c ∧ σ.1 28 = nI c ∧ ∀ i, i < c → A i < 5 ∧ B i < 5 ∧ σ.2.1 10 i = nI (A i) ∧ σ.2.1 61 i = nI (A i) ∧ σ.2.1 11 i = nI (B i) ∧ σ.2.1 62 i = nI (B i) := by
  obtain ⟨c, hc, h5, h28, hi⟩ := h
  refine ⟨c, fun i => if q : i < c then (hi i q).choose else 0, fun i => if q : i < c then (hi i q).choose_spec.choose else 0, hc, h5, h28, fun i q => ?_⟩
  simp only [dif_pos q]
  exact (hi i q).choose_spec.choose_spec
theorem lrn {g : FD} {P : PD} (R : Rel g P σ) : ∃ (p : Nat → Bool) (N : Nat), N < 2 ^ 64 ∧ (∀ x, x < 64 → N.testBit x = p x) ∧ F_X2_learntBits σ = some (lN N) ∧ ∀ k, k < 64 → F_X11_isLearnt (nI k) (sI σ 20 0) = some (bI (p k)) := by
  obtain ⟨hg, hP, c, d, e, i, j, k, l, m, z⟩ := id R
  obtain ⟨n, A, B, hn, h5, h28, hA⟩ := RC_u m
  obtain ⟨N, e1, e2, e3⟩ := lt_n g A B n
  refine ⟨leB g A B n, N, e2, fun x hx => by rw [e3, decide_eq_true hx, Bool.true_and], ?_, fun x hx => ?_⟩
  · rw [ltb_ok c hg hn h5 (fun i hi => ⟨(hA i hi).1, (hA i hi).2.1, (hA i hi).2.2.1, (hA i hi).2.2.2.2.1⟩), e1]
  · exact il_ok (MF_20 d 0) hg hx hn h28 (fun i hi => ⟨(hA i hi).1, (hA i hi).2.1, (hA i hi).2.2.2.1, (hA i hi).2.2.2.2.2⟩)
theorem st_learnt : Step_learnt Inv := by
  intro u σ hI0
  obtain ⟨g, P, R⟩ := id hI0
  have I20 := Inv_fr hI0 (fr20 σ 0)
  obtain ⟨p, N, hN, hp, hc, hr⟩ := lrn R
  rcases two_c u with ⟨u1, u2⟩ | ⟨u1, u2⟩
  · refine ⟨if u = 0 then nI (cntN p 64) else fsP p 64, sI σ 20 0, ?_, ?_, I20⟩
    · unfold F_X10_learnt
      rcases u1 with rfl | rfl
      · rw [if_pos rfl, hc, Option.bind_some, if_pos rfl, bJ_ok hN, Option.bind_some, if_pos rfl, cntN_cg 64 hp]
      · rw [if_neg (by decide), if_pos rfl, hc, Option.bind_some, if_neg (by decide), lf_ok hN hp, Option.bind_some, if_neg (by decide)]
    · unfold F_X11_learnt
      rw [show stI σ 20 0 = some (sI σ 20 0) from rfl, Option.bind_some, u2, Option.bind_some, if_neg (by decide), xl_learnt hr]
  · refine ⟨-2, sI σ 20 0, ?_, ?_, I20⟩
    · unfold F_X10_learnt
      rw [if_neg u1.1, if_neg u1.2]
    · unfold F_X11_learnt
      rw [show stI σ 20 0 = some (sI σ 20 0) from rfl, Option.bind_some, u2]; rfl
