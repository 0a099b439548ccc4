-- the text from its first byte
variable {g : FD} {P : PD} {σ σ' : Mem} {T : Nat → Nat} {n p : Nat}
theorem scan0 {sc sr : Mem} (t : TX T n sc) (tm : TM T n sr) :
    (∃ q s', q ≤ 100 ∧ F_X6_firstFault sc = some (nI q) ∧ F_X11_readFair sr = some (nI q, s') ∧ Fq sq1 sqA true sr s') ∨
    (∃ nh nr ph pr s', okG (gN T nh nr ph pr) ∧ F_X6_firstFault sc = some (-9) ∧ F_X11_readFair sr = some (-9, s') ∧ Fq sq1 sqA true sr s' ∧ RF (gN T nh nr ph pr) s' ∧ ∀ s2, TX T n s2 → ∃ s3, F_X3_readFrom s2 = F_X3_readFrom_b67 4000 (0 : Int32) s3 ∧ Fq rdI rdQ true s2 s3 ∧ CF0 (gN T nh nr ph pr) s3) := by
  have hn := t.1
  have F3 : Fq sq1 sqA true sr (sI (sI (sI sr 22 0) 25 0) 26 0) := Fq_sI (Fq_sI (Fq_sI (Fq_r sr)))
  have e0 : F_X11_readFair sr = if nI n = (0 : Int32) then some ((0 : Int32), sI (sI (sI sr 22 0) 25 0) 26 0) else Option.bind (rdA (sI (sI (sI sr 22 0) 25 0) 26 0) 53 (0 : Int32)) fun v4 => if v4 = (70 : Int32) then F_X11_readFair_b40 4000 (sI (sI (sI (sI sr 22 0) 25 0) 26 0) 22 1) else some ((0 : Int32), sI (sI (sI sr 22 0) 25 0) 26 0) := by
    unfold F_X11_readFair
    rw [show stI sr 22 (0 : Int32) = some (sI sr 22 0) from rfl, Option.bind_some, show stI (sI sr 22 0) 25 (0 : Int32) = some (sI (sI sr 22 0) 25 0) from rfl, Option.bind_some, show stI (sI (sI sr 22 0) 25 0) 26 (0 : Int32) = some (sI (sI (sI sr 22 0) 25 0) 26 0) from rfl, Option.bind_some, show stI (sI (sI (sI sr 22 0) 25 0) 26 0) 22 (1 : Int32) = some (sI (sI (sI (sI sr 22 0) 25 0) 26 0) 22 1) from rfl, Option.bind_some, show (sI (sI (sI sr 22 0) 25 0) 26 0).1 21 = nI n from tm.2.1]
  by_cases z : n = 0
  · subst z
    refine .inl ⟨0, sI (sI (sI sr 22 0) 25 0) 26 0, by omega, ?_, ?_, F3⟩
    · unfold F_X6_firstFault F_X6_byteAt
      rw [t.2.1, if_pos (show nI 0 ≤ (0 : Int32) from Int32.le_refl _), Option.bind_some, if_neg (by decide)]; rfl
    · rw [e0, if_pos (show nI 0 = (0 : Int32) from rfl)]; rfl
  · have h0 := t.2.2 0 (by omega)
    have hm := tm.2.2 0 (by omega)
    have e1 : F_X11_readFair sr = if nI (T 0) = (70 : Int32) then F_X11_readFair_b40 4000 (sI (sI (sI (sI sr 22 0) 25 0) 26 0) 22 1) else some ((0 : Int32), sI (sI (sI sr 22 0) 25 0) 26 0) := by
      have e2 : rdA (sI (sI (sI sr 22 0) 25 0) 26 0) 53 (0 : Int32) = some (nI (T 0)) := by
        rw [show (0 : Int32) = nI 0 from rfl, rd_53 (by omega)]
        exact congrArg some hm.1
      rw [e0, if_neg (nI_ne0 (by omega) (by omega)), e2, Option.bind_some]
    have e3 : F_X6_firstFault sc = if nI (T 0) = (70 : Int32) then F_X6_firstFault_b21 sc 4000 (nI (4 - 0)) (nI (5 - 0)) (nI 1) (nI 0) else some (nI 0) := by
      unfold F_X6_firstFault
      rw [show (0 : Int32) = nI 0 from rfl, by_ok t (by omega), Option.bind_some, show (4 : Int32) = nI (4 - 0) from rfl, show (5 : Int32) = nI (5 - 0) from rfl, show (1 : Int32) = nI 1 from rfl]
    by_cases q : nI (T 0) = (70 : Int32)
    · rw [if_pos q] at e1 e3
      have F4 : Fq sq1 sqA true sr (sI (sI (sI (sI sr 22 0) 25 0) 26 0) 22 1) := Fq_sI F3
      have hg0 : okG (gN T 0 0 (fun _ => 0) (fun _ => 0)) := ⟨Nat.zero_le _, Nat.zero_le _, fun h hh => absurd hh (Nat.not_lt_zero _), fun h hh => absurd hh (Nat.not_lt_zero _)⟩
      have rf0 : RF (gN T 0 0 (fun _ => 0) (fun _ => 0)) (sI (sI (sI (sI sr 22 0) 25 0) 26 0) 22 1) := ⟨rfl, rfl, fun h k hh => absurd hh (Nat.not_lt_zero _), fun h k hh => absurd hh (Nat.not_lt_zero _)⟩
      rcases scan t n 1 0 0 (fun _ => 0) (fun _ => 0) 0 4000 4000 (sI (sI (sI (sI sr 22 0) 25 0) 26 0) 22 1) (by omega) (by omega) (by omega) (by omega) (by omega) hg0 (TM_fr tm F4) rf0 rfl with ⟨q, s', c1, c2, c3, c4⟩ | ⟨nh', nr', ph', pr', s', c0, c1, c2, c3, c4, c5⟩
      · exact .inl ⟨q, s', c1, by rw [e3]; exact c2, by rw [e1]; exact c3, Fq_t F4 c4⟩
      · refine .inr ⟨nh', nr', ph', pr', s', c0, by rw [e3]; exact c1, by rw [e1]; exact c2, Fq_t F4 c3, c4, fun s2 t2 => ?_⟩
        have t3 : TX T n (sI (sI s2 1 0) 2 0) := t2
        obtain ⟨s3, g1, g2, g3⟩ := c5 (sI (sI s2 1 0) 2 0) 4000 t3 ⟨rfl, rfl, fun h hh => absurd hh (Nat.not_lt_zero _), fun h hh => absurd hh (Nat.not_lt_zero _)⟩ (by omega)
        have e4 : ∀ a b : Int32, a = 1 → b = 0 → F_X3_readFrom s2 = F_X3_readFrom_b14 4000 a b (sI (sI s2 1 0) 2 0) := fun a b ha hb => by
          rw [ha, hb]
          unfold F_X3_readFrom
          rw [show stI s2 1 (0 : Int32) = some (sI s2 1 0) from rfl, Option.bind_some, show stI (sI s2 1 0) 2 (0 : Int32) = some (sI (sI s2 1 0) 2 0) from rfl, Option.bind_some]
        exact ⟨s3, by rw [e4 (nI 1) (nI (0 + 0)) rfl rfl]; exact g1, Fq_t (Fq_sI (Fq_sI (Fq_r s2))) g2, g3⟩
    · rw [if_neg q] at e1 e3
      exact .inl ⟨0, sI (sI (sI sr 22 0) 25 0) 26 0, by omega, e3, e1, F3⟩
theorem Fr_sq (f : Fq sq1 sqA true σ σ') : Fr σ σ' := Fq_w f (fun n h => by
  by_cases e1 : n = 22
  · subst e1; cases h
  by_cases e2 : n = 25
  · subst e2; cases h
  by_cases e3 : n = 26
  · subst e3; cases h
  simp [sq1, e1, e2, e3]) (fun n h => by
  by_cases e1 : n = 56
  · subst e1; cases h
  by_cases e2 : n = 57
  · subst e2; cases h
  simp [sqA, e1, e2]) (fun h => h)
theorem st_fault : Step_fault Inv := by
  intro σ hI0
  obtain ⟨g, P, R⟩ := id hI0
  obtain ⟨n, T, t, tm⟩ := RT_u R.2.2.2.2.2.2.1
  have tm2 : TM T n (sI σ 20 0) := tm
  rcases scan0 t tm2 with ⟨q, s', c1, c2, c3, c4⟩ | ⟨nh, nr, ph, pr, s', c0, c1, c2, c3, c4, c5⟩
  · refine ⟨nI q, s', ?_, ?_, g, P, Rel_fr (R_20 R) (Fr_sq c4)⟩
    · unfold F_X10_fault; rw [c2]; rfl
    · unfold F_X11_fault
      rw [show stI σ 20 (0 : Int32) = some (sI σ 20 0) from rfl, Option.bind_some, c3]; rfl
  · refine ⟨-9, s', ?_, ?_, g, P, Rel_fr (R_20 R) (Fr_sq c3)⟩
    · unfold F_X10_fault; rw [c1]; rfl
    · unfold F_X11_fault
      rw [show stI σ 20 (0 : Int32) = some (sI σ 20 0) from rfl, Option.bind_some, c2]; rfl
