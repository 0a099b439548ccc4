-- race
variable {g : FD} {P : PD} {σ σ' : Mem}
def rcS (g : FD) (W : Nat → Nat → Nat) : Nat → Int32 × (Nat → Nat)
  | 0 => (-9, fun _ => 9)
  | n + 1 => if isW g (wN g n) = true ∧ (rcS g W n).1 < nI (pts g W (wN g n) g.2.1) then (nI (pts g W (wN g n) g.2.1), wN g n) else rcS g W n
theorem rcS_1 {W : Nat → Nat → Nat} {n : Nat} (h1 : isW g (wN g n) = true) (h2 : (rcS g W n).1 < nI (pts g W (wN g n) g.2.1)) : rcS g W (n + 1) = (nI (pts g W (wN g n) g.2.1), wN g n) := by
  show (if isW g (wN g n) = true ∧ (rcS g W n).1 < nI (pts g W (wN g n) g.2.1) then (nI (pts g W (wN g n) g.2.1), wN g n) else rcS g W n) = _
  rw [if_pos ⟨h1, h2⟩]
theorem rcS_2 {W : Nat → Nat → Nat} {n : Nat} (h : ¬ (isW g (wN g n) = true ∧ (rcS g W n).1 < nI (pts g W (wN g n) g.2.1))) : rcS g W (n + 1) = rcS g W n := by
  show (if isW g (wN g n) = true ∧ (rcS g W n).1 < nI (pts g W (wN g n) g.2.1) then (nI (pts g W (wN g n) g.2.1), wN g n) else rcS g W n) = _
  rw [if_neg h]
theorem rcS_ok (g : FD) (W : Nat → Nat → Nat) : ∀ n, okY g (rcS g W n).2
  | 0 => fun r _ => .inl rfl
  | n + 1 => by
    by_cases h : isW g (wN g n) = true ∧ (rcS g W n).1 < nI (pts g W (wN g n) g.2.1)
    · rw [rcS_1 h.1 h.2]; exact wN_ok g n
    · rw [rcS_2 h]; exact rcS_ok g W n
theorem rcS_9 (g : FD) (W : Nat → Nat → Nat) : ∀ n, (-9 : Int32) ≤ (rcS g W n).1
  | 0 => Int32.le_refl _
  | n + 1 => by
    by_cases h : isW g (wN g n) = true ∧ (rcS g W n).1 < nI (pts g W (wN g n) g.2.1)
    · rw [rcS_1 h.1 h.2]; exact Int32.le_trans (rcS_9 g W n) (Int32.le_of_lt h.2)
    · rw [rcS_2 h]; exact rcS_9 g W n
theorem rcS_e (hg : okG g) (W : Nat → Nat → Nat) : (rcS g W (wM g)).1 ≠ -9 := by
  have hp := wM_p g
  have hk : ∀ h, kc (wN g (wM g - 1)) h = cntN (fun _ => decide (9 = h)) 5 := fun h => cntN_cg 5 (fun r _ => by unfold kpB; rw [wN_top hg])
  have h1 : isW g (wN g (wM g - 1)) = true := al_t g.1 (fun h hh => by
    have := hg.1
    rw [hk, cntN_0 5 (fun _ _ => decide_eq_false (by omega))]
    exact decide_eq_true (Nat.zero_le _))
  have h2 : pts g W (wN g (wM g - 1)) g.2.1 = 0 := sumN_ext (Nat.zero_le _) (fun r _ _ => by unfold pS; rw [wN_top hg, if_pos rfl])
  have h3 : wM g = (wM g - 1) + 1 := by omega
  rw [h3]
  by_cases q : (rcS g W (wM g - 1)).1 < nI (pts g W (wN g (wM g - 1)) g.2.1)
  · rw [rcS_1 h1 q, h2]; show nI 0 ≠ -9; decide
  · rw [rcS_2 (fun h => q h.2)]
    rw [h2] at q
    intro e
    rw [e] at q
    exact q (by decide)
-- the class
def rqI (n : Nat) : Bool := n != 8
def rqA (n : Nat) : Bool := n != 33 && n != 34
theorem Fq_z (f : Fq (fun _ => true) zA true σ σ') : Fq rqI rqA true σ σ' := Fq_w f (fun _ _ => rfl) (fun n h => by simp [rqA, zA] at h ⊢; exact h.1) (fun h => h)
theorem xfr_ok {s : Nat → Nat → Nat} (c : CF g σ) (hg : okG g) (t : T12 g s σ) (hs : okS g s) (h9 : ∀ r, r < 5 → σ.2.1 33 r = -9) : ∃ σ', F_X8_findRace σ = some σ' ∧ Fq rqI rqA true σ σ' ∧ σ'.1 8 = (rcS g (Wo g s) (wM g)).1 ∧ CW 19 (rcS g (Wo g s) (wM g)).2 σ' ∧ ∀ r, r < 5 → σ'.2.1 33 r = -9 := by
  have hwM := wM_b hg
  have hwP := wM_p g
  unfold F_X8_findRace F_X7_clear
  obtain ⟨σ2, a1, a2, a3⟩ := fill_ok (σ := sI σ 8 (-9)) (n := 15 + 19) (v := (-9 : Int32))
  have F2 : Fq rqI rqA true σ σ2 := Fq_t (Fq_sI (Fq_r σ)) (Fq_w a2 (fun _ _ => rfl) (fun n h => by simp [rqA] at h ⊢; omega) (fun h => h))
  rw [show stI σ 8 (-9 : Int32) = some (sI σ 8 (-9)) from rfl, Option.bind_some, a1, Option.bind_some, Option.bind_some, nw_ok (CF_fr c F2) hg, Option.bind_some]
  refine lp (fun n (a : Mem) N => F_X8_findRace_b20 n (nI (wM g)) (nI N) a) (fun o => ∃ σ', o = some σ' ∧ Fq rqI rqA true σ σ' ∧ σ'.1 8 = (rcS g (Wo g s) (wM g)).1 ∧ CW 19 (rcS g (Wo g s) (wM g)).2 σ' ∧ ∀ r, r < 5 → σ'.2.1 33 r = -9) (wM g) (fun N a => Fq rqI rqA true σ a ∧ a.1 8 = (rcS g (Wo g s) N).1 ∧ CW 19 (rcS g (Wo g s) N).2 a ∧ (∀ r, r < 5 → g.2.1 ≤ r → a.2.1 33 r = -9) ∧ (0 < N → CW 18 (wN g (N - 1)) a)) ?_ ?_ (wM g) 0 σ2 4000 (by omega) (by omega) (by omega) ⟨F2, ?_, fun r hr => a3 r hr, fun r hr _ => by rw [a2.2.1 33 rfl]; exact h9 r hr, fun h => absurd h (Nat.lt_irrefl _)⟩
  · intro n a ⟨p1, p2, p3, p4, p5⟩
    simp only [F_X8_findRace_b20]
    rw [if_pos (nI_le (Nat.le_refl _) (by omega))]
    refine ⟨a, rfl, p1, p2, p3, fun r hr => ?_⟩
    have := p5 hwP r hr
    rw [wN_top hg] at this
    exact this
  · intro n a N hN ⟨p1, p2, p3, p4, p5⟩
    have c' := CF_fr c p1
    obtain ⟨σ5, b1, b2, b3⟩ := sw_ok c' hg (N := N) (by omega) p4
    have p15 := Fq_t p1 (Fq_z b2)
    have c5 := CF_fr c p15
    have t5 : T12 g s σ5 := by unfold T12; rw [p15.2.1 12 rfl]; exact t
    have h8 : σ5.1 8 = (rcS g (Wo g s) N).1 := by rw [b2.1 8 rfl]; exact p2
    have p35 : CW 19 (rcS g (Wo g s) N).2 σ5 := fun r hr => by rw [b2.2.1 _ rfl]; exact p3 r hr
    have p45 : ∀ r, r < 5 → g.2.1 ≤ r → σ5.2.1 33 r = -9 := fun r hr h => by
      have := b3 r hr
      rw [okW_9 (wN_ok g N) hr h] at this
      exact this
    have e0 : F_X8_findRace_b20 (n + 1) (nI (wM g)) (nI N) a = (if bI (isW g (wN g N)) = 0 then F_X8_findRace_b20 n (nI (wM g)) (nI (N + 1)) σ5 else if nI (pts g (Wo g s) (wN g N) g.2.1) ≤ (rcS g (Wo g s) N).1 then F_X8_findRace_b20 n (nI (wM g)) (nI (N + 1)) σ5 else Option.bind (stI σ5 8 (nI (pts g (Wo g s) (wN g N) g.2.1))) fun σ9 => Option.bind (F_X7_copyFrom 19 18 σ9) fun σ10 => F_X8_findRace_b20 n (nI (wM g)) (nI (N + 1)) σ10) := by
      simp only [F_X8_findRace_b20]
      rw [if_neg (nI_ge hN (by omega)), b1, Option.bind_some, xiw_ok c5 hg (wN_ok g N) b3, Option.bind_some, xpt_ok c5 hg (wN_ok g N) b3 t5 hs, Option.bind_some, h8, if_pos (rcS_9 g (Wo g s) N), nI_1]
    have skip : ¬ (isW g (wN g N) = true ∧ (rcS g (Wo g s) N).1 < nI (pts g (Wo g s) (wN g N) g.2.1)) → Fq rqI rqA true σ σ5 ∧ σ5.1 8 = (rcS g (Wo g s) (N + 1)).1 ∧ CW 19 (rcS g (Wo g s) (N + 1)).2 σ5 ∧ (∀ r, r < 5 → g.2.1 ≤ r → σ5.2.1 33 r = -9) ∧ (0 < N + 1 → CW 18 (wN g (N + 1 - 1)) σ5) := fun h => by
      rw [rcS_2 h]
      exact ⟨p15, h8, p35, p45, fun _ => b3⟩
    refine .inr ?_
    by_cases q : isW g (wN g N) = true
    · by_cases q2 : (rcS g (Wo g s) N).1 < nI (pts g (Wo g s) (wN g N) g.2.1)
      · have b3' : CW 18 (wN g N) (sI σ5 8 (nI (pts g (Wo g s) (wN g N) g.2.1))) := b3
        obtain ⟨σ6, d1, d2, d3⟩ := c7_ok (k0 := 19) (k1 := 18) (by omega) (by omega) b3'
        refine ⟨σ6, ⟨Fq_t p15 (Fq_t (Fq_sI (Fq_r σ5)) (Fq_w d3 (fun _ _ => rfl) (fun n h => by simp [rqA] at h ⊢; omega) (fun h => h))), ?_, ?_, ?_, ?_⟩, ?_⟩
        · rw [rcS_1 q q2, d3.1 8 rfl]; rfl
        · rw [rcS_1 q q2]; exact d2
        · intro r hr h
          rw [d3.2.1 33 rfl]; exact p45 r hr h
        · intro _ r hr
          rw [d3.2.1 (15 + 18) rfl]; exact b3 r hr
        · rw [e0, q, if_neg (by decide), if_neg (Int32.not_le.mpr q2), show stI σ5 8 (nI (pts g (Wo g s) (wN g N) g.2.1)) = some (sI σ5 8 (nI (pts g (Wo g s) (wN g N) g.2.1))) from rfl, Option.bind_some, d1, Option.bind_some]
      · exact ⟨σ5, skip (fun h => q2 h.2), by rw [e0, q, if_neg (by decide), if_pos (Int32.not_lt.mp q2)]⟩
    · exact ⟨σ5, skip (fun h => q h.1), by rw [e0, (Bool.not_eq_true _).mp q, if_pos (show bI false = 0 from rfl)]⟩
  · rw [a2.1 8 rfl]; rfl
-- the reference
def mqA (n : Nat) : Bool := n != 64 && n != 65
theorem md_m {d x : Nat → Nat} {qI : Nat → Bool} (e : MD d x σ) (f : Fq qI mqA true σ σ') : MD d x σ' := by
  unfold MD; rw [f.2.1 58 rfl, f.2.1 66 rfl]; exact e
theorem m103 {kL9 : Int32 → Int32 → Mem → Option (Int32 × Mem)} {x1 : Int32} {w : Nat → Nat} (m : MF g σ) (hg : okG g) (h0 : MV g 64 w σ) : ∃ s', F_X11_findRace_b103 kL9 4000 x1 (nI 0) σ = Option.bind (F_X11_nextWay s') (fun q => kL9 x1 q.1 q.2) ∧ Fq (fun _ => true) (fun n => n != 65) true σ s' ∧ MV g 65 w s' := by
  have hg2 := hg.2.1
  refine lp (fun n (a : Mem) i => F_X11_findRace_b103 kL9 n x1 (nI i) a) (fun o => ∃ s', o = Option.bind (F_X11_nextWay s') (fun q => kL9 x1 q.1 q.2) ∧ Fq (fun _ => true) (fun n => n != 65) true σ s' ∧ MV g 65 w s') g.2.1 (fun i a => Fq (fun _ => true) (fun n => n != 65) true σ a ∧ ∀ r, r < i → a.2.1 65 r = hI (w r)) ?_ ?_ g.2.1 0 σ 4000 (by omega) (by omega) (by omega) ⟨Fq_r σ, fun r hr => absurd hr (Nat.not_lt_zero _)⟩
  · intro n a ⟨p1, p2⟩
    refine ⟨a, ?_, p1, p2⟩
    simp only [F_X11_findRace_b103]
    rw [(MF_fr m p1).2.1, if_pos (nI_le (Nat.le_refl _) (by omega))]
  · intro n a i hi ⟨p1, p2⟩
    refine .inr ⟨sA a 65 i (hI (w i)), ⟨Fq_sA p1, fun r hr => ?_⟩, ?_⟩
    · rw [sA_2, if_pos rfl, upd_ap]
      by_cases q : r = i
      · rw [if_pos q, q]
      · rw [if_neg q]; exact p2 r (by omega)
    · simp only [F_X11_findRace_b103]
      rw [(MF_fr m p1).2.1, if_neg (nI_ge hi (by omega)), rd_64 (by omega), p1.2.1 64 rfl, h0 i hi, Option.bind_some, wr_65 (by omega), Option.bind_some, nI_1]
theorem m25 {kL9 : Int32 → Int32 → Mem → Option (Int32 × Mem)} {x1 : Int32} {w : Nat → Nat} {d x : Nat → Nat} (m : MF g σ) (hg : okG g) (hw : okY g w) (h0 : MV g 64 w σ) (e0 : MD d x σ) : F_X11_findRace_b25 kL9 4000 x1 (nI 0) (nI 0) σ = if nI (pts g (Wo g (sh g d x)) w g.2.1) ≤ x1 then Option.bind (F_X11_nextWay σ) (fun q => kL9 x1 q.1 q.2) else F_X11_findRace_b103 kL9 4000 (nI (pts g (Wo g (sh g d x)) w g.2.1)) (nI 0) σ := by
  have hg1 := hg.1
  have hg2 := hg.2.1
  refine lpD (fun n (a : Nat) i => F_X11_findRace_b25 kL9 n x1 (nI a) (nI i) σ) g.2.1 (fun i => pts g (Wo g (sh g d x)) w i) _ ?_ ?_ 4000 (by omega)
  · intro n
    simp only [F_X11_findRace_b25]
    rw [m.2.1, if_pos (nI_le (Nat.le_refl _) (by omega))]; rfl
  · intro n i hi
    have hwi := okY_v hw (r := i) (by omega)
    simp only [F_X11_findRace_b25]
    rw [m.2.1, if_neg (nI_ge hi (by omega)), rd_64 (by omega), h0 i hi, Option.bind_some, nI_1, pts_s]
    unfold pS
    by_cases q : w i = 9
    · rw [if_pos (by rw [q]; rfl), if_pos q, show (0 : Int32) = nI 0 from rfl, nI_add]
    · have hh : w i < g.1 := by omega
      have hwo := Wo_le hg (okS_sh g d x) hh hi
      rw [if_neg (by rw [hI_m9 (by omega)]; exact q), if_neg q, Option.bind_some, hI_n q, show (7 : Int32) = nI 7 from rfl, show (4 : Int32) = nI 4 from rfl, show (10 : Int32) = nI 10 from rfl, pk_mul, nI_add, rd_54 (by omega), mf_h m hh (by omega), Option.bind_some, Option.bind_some, wo_ok m hg e0 hh hi, Option.bind_some, pk_div (by omega) (by omega) (by omega), nI_add, nI_add]
theorem mfr_ok {d x : Nat → Nat} (m : MF g σ) (hg : okG g) (e0 : MD d x σ) : ∃ σ', F_X11_findRace σ = some ((rcS g (Wo g (sh g d x)) (wM g)).1, σ') ∧ Fq (fun _ => true) mqA true σ σ' ∧ MV g 65 (rcS g (Wo g (sh g d x)) (wM g)).2 σ' := by
  have hg1 := hg.1
  have hg2 := hg.2.1
  have hwM := wM_b hg
  have hwP := wM_p g
  obtain ⟨σ1, a1, a2, a3⟩ := fw_ok m hg
  unfold F_X11_findRace
  rw [a1, Option.bind_some]
  have wz : ∀ {a b : Mem}, Fq (fun _ => true) zB true a b → Fq (fun _ => true) mqA true a b := fun f => Fq_w f (fun _ _ => rfl) (fun n h => by simp [mqA, zB] at h ⊢; exact h.1) (fun h => h)
  have key := lp (fun n (a : Mem) N => F_X11_findRace_b9 n (rcS g (Wo g (sh g d x)) N).1 (bI (decide (N < wM g))) a) (fun o => ∃ σ', o = some ((rcS g (Wo g (sh g d x)) (wM g)).1, σ') ∧ Fq (fun _ => true) mqA true σ σ' ∧ MV g 65 (rcS g (Wo g (sh g d x)) (wM g)).2 σ') (wM g) (fun N a => Fq (fun _ => true) mqA true σ a ∧ MV g 64 (wN g N) a ∧ ((rcS g (Wo g (sh g d x)) N).1 = -9 ∨ MV g 65 (rcS g (Wo g (sh g d x)) N).2 a)) ?_ ?_ (wM g) 0 σ1 4000 (by omega) (by omega) (by omega) ⟨wz a2, a3, .inl rfl⟩
  · rw [decide_eq_true hwP] at key
    exact key
  · intro n a ⟨p1, p2, p3⟩
    simp only [F_X11_findRace_b9]
    rw [decide_eq_false (Nat.lt_irrefl _), if_pos (show bI false = 0 from rfl)]
    exact ⟨a, rfl, p1, p3.resolve_left (rcS_e hg _)⟩
  · intro n a N hN ⟨p1, p2, p3⟩
    have m' := MF_fr m p1
    have e' := md_m e0 p1
    have hI1 := miw_ok m' hg (wN_ok g N) p2
    refine .inr ?_
    have ha : F_X11_findRace_b9 (n + 1) (rcS g (Wo g (sh g d x)) N).1 (bI (decide (N < wM g))) a = (if bI (isW g (wN g N)) = 0 then Option.bind (F_X11_nextWay a) (fun q3 => F_X11_findRace_b9 n (rcS g (Wo g (sh g d x)) N).1 q3.1 q3.2) else F_X11_findRace_b25 (F_X11_findRace_b9 n) 4000 (rcS g (Wo g (sh g d x)) N).1 (0 : Int32) (0 : Int32) a) := by
      simp only [F_X11_findRace_b9]
      rw [decide_eq_true hN, if_neg (show ¬ bI true = 0 by decide), hI1, Option.bind_some]
    have hb := m25 (kL9 := F_X11_findRace_b9 n) (x1 := (rcS g (Wo g (sh g d x)) N).1) m' hg (wN_ok g N) p2 e'
    have skip : ¬ (isW g (wN g N) = true ∧ (rcS g (Wo g (sh g d x)) N).1 < nI (pts g (Wo g (sh g d x)) (wN g N) g.2.1)) → F_X11_findRace_b9 (n + 1) (rcS g (Wo g (sh g d x)) N).1 (bI (decide (N < wM g))) a = Option.bind (F_X11_nextWay a) (fun q3 => F_X11_findRace_b9 n (rcS g (Wo g (sh g d x)) N).1 q3.1 q3.2) → ∃ a', (Fq (fun _ => true) mqA true σ a' ∧ MV g 64 (wN g (N + 1)) a' ∧ ((rcS g (Wo g (sh g d x)) (N + 1)).1 = -9 ∨ MV g 65 (rcS g (Wo g (sh g d x)) (N + 1)).2 a')) ∧ F_X11_findRace_b9 (n + 1) (rcS g (Wo g (sh g d x)) N).1 (bI (decide (N < wM g))) a = F_X11_findRace_b9 n (rcS g (Wo g (sh g d x)) (N + 1)).1 (bI (decide (N + 1 < wM g))) a' := fun h h2 => by
      obtain ⟨a', n1, n2, n3⟩ := nx_ok m' hg hN p2
      rw [rcS_2 h]
      refine ⟨a', ⟨Fq_t p1 (wz n2), n3, ?_⟩, by rw [h2, n1, Option.bind_some]⟩
      rcases p3 with p3 | p3
      · exact .inl p3
      · exact .inr (fun r hr => by rw [n2.2.1 65 rfl]; exact p3 r hr)
    by_cases q : isW g (wN g N) = true
    · by_cases q2 : (rcS g (Wo g (sh g d x)) N).1 < nI (pts g (Wo g (sh g d x)) (wN g N) g.2.1)
      · obtain ⟨s1, c1, c2, c3⟩ := m103 (kL9 := F_X11_findRace_b9 n) (x1 := nI (pts g (Wo g (sh g d x)) (wN g N) g.2.1)) m' hg p2
        have c4 : MV g 64 (wN g N) s1 := fun r hr => by rw [c2.2.1 64 rfl]; exact p2 r hr
        have c5 := MF_fr m' c2
        obtain ⟨a', n1, n2, n3⟩ := nx_ok c5 hg hN c4
        refine ⟨a', ⟨Fq_t p1 (Fq_t (Fq_w c2 (fun _ _ => rfl) (fun n h => by simp [mqA] at h ⊢; exact h.2) (fun h => h)) (wz n2)), n3, ?_⟩, ?_⟩
        · rw [rcS_1 q q2]
          exact .inr (fun r hr => by rw [n2.2.1 65 rfl]; exact c3 r hr)
        · rw [ha, q, if_neg (by decide), show (0 : Int32) = nI 0 from rfl, hb, if_neg (Int32.not_le.mpr q2), c1, n1, Option.bind_some, rcS_1 q q2]
      · refine skip (fun h => q2 h.2) ?_
        rw [ha, q, if_neg (by decide), show (0 : Int32) = nI 0 from rfl, hb, if_pos (Int32.not_lt.mp q2)]
    · refine skip (fun h => q h.1) ?_
      rw [ha, (Bool.not_eq_true _).mp q, if_pos (show bI false = 0 from rfl)]
-- the steps
theorem Rel_33 {qI qA : Nat → Bool} (R : Rel g P σ) (f : Fq (fun n => pI n) (fun n => pA n && n != 33) true σ σ') (h : ∀ r, r < 5 → σ'.2.1 33 r = -9) : Rel g P σ' := by
  obtain ⟨a, b, c, d, e, i, j, k, l, m, z⟩ := R
  refine ⟨a, b, CF_fr c f, MF_fr d f, CP_fr e f, MP_fr i f, RT_fr j f, RA_fr k f, RS_fr l f, RC_fr m f, ?_⟩
  exact ⟨by rw [f.2.2 rfl]; exact z.1, fun i hi => by rw [f.2.1 66 rfl]; exact z.2.1 i hi, h⟩
theorem Fq_rq (f : Fq rqI rqA true σ σ') : Fq (fun n => pI n) (fun n => pA n && n != 33) true σ σ' := Fq_w f (fun n h => by
  by_cases e1 : n = 8
  · subst e1; cases h
  simp [rqI, e1]) (fun n h => by
  by_cases e1 : n = 33
  · subst e1; cases h
  by_cases e2 : n = 34
  · subst e2; cases h
  simp [rqA, e1, e2]) (fun h => h)
theorem Fr_mq {qI : Nat → Bool} (f : Fq qI mqA true σ σ') (hq : ∀ n, pI n = true → qI n = true) : Fr σ σ' := Fq_w f hq (fun n h => by
  by_cases e1 : n = 64
  · subst e1; cases h
  by_cases e2 : n = 65
  · subst e2; cases h
  simp [mqA, e1, e2]) (fun h => h)
theorem st_race : Step_race Inv := by
  intro σ hI0
  obtain ⟨g, P, R⟩ := id hI0
  have hg := R.1
  obtain ⟨σ1, w1, w2, w3⟩ := weigh0 R
  have R1 := Rel_fr R w2
  obtain ⟨σ2, x1, x2, x3, x4, x5⟩ := xfr_ok R1.2.2.1 hg w3 (oS_P g P) R1.2.2.2.2.2.2.2.2.2.2.2.2
  have R2 := Rel_33 (qI := rqI) (qA := rqA) R1 (Fq_rq x2) x5
  have R3 := R_20 R2
  obtain ⟨σ4, q1, q2, q3⟩ := mfr_ok R3.2.2.2.1 hg (md_R R3)
  have R4 := Rel_fr R3 (Fr_mq q2 (fun _ _ => rfl))
  refine ⟨(rcS g (Wo g (sP g P)) (wM g)).1, σ2, σ4, ?_, ?_, g, P, R4⟩
  · unfold F_X10_race
    rw [w1, Option.bind_some, x1, Option.bind_some, x3]
  · unfold F_X11_race
    rw [show stI σ2 20 0 = some (sI σ2 20 0) from rfl, Option.bind_some, q1]; rfl
theorem st_raceOf : Step_raceOf Inv := by
  intro u σ hI0
  obtain ⟨g, P, R⟩ := id hI0
  have hg := R.1
  have hg2 := hg.2.1
  have I20 := Inv_fr hI0 (fr20 σ 0)
  rcases rider_c hg u with ⟨r, hr, rfl⟩ | ⟨h1, h2⟩
  · obtain ⟨σ1, w1, w2, w3⟩ := weigh0 R
    have R1 := Rel_fr R w2
    obtain ⟨σ2, x1, x2, x3, x4, x5⟩ := xfr_ok R1.2.2.1 hg w3 (oS_P g P) R1.2.2.2.2.2.2.2.2.2.2.2.2
    have R2 := Rel_33 (qI := rqI) (qA := rqA) R1 (Fq_rq x2) x5
    have R3 := R_20 R2
    obtain ⟨σ4, q1, q2, q3⟩ := mfr_ok R3.2.2.2.1 hg (md_R R3)
    have R4 := Rel_fr R3 (Fr_mq q2 (fun _ _ => rfl))
    refine ⟨if hI ((rcS g (Wo g (sP g P)) (wM g)).2 r) = (-9 : Int32) then 9 else hI ((rcS g (Wo g (sP g P)) (wM g)).2 r), σ2, σ4, ?_, ?_, g, P, R4⟩
    · unfold F_X10_raceOf
      rw [hasR_1 R.2.2.1 hg hr, Option.bind_some, if_neg (by decide), w1, Option.bind_some, x1, Option.bind_some, hof_ok (by omega) x4 (by omega), Option.bind_some]
      split <;> rfl
    · unfold F_X11_raceOf
      rw [show stI σ2 20 0 = some (sI σ2 20 0) from rfl, Option.bind_some, noR_1 R3.2.2.2.1 hg hr, Option.bind_some, if_pos rfl, q1, Option.bind_some]
      have e : rdA σ4 65 (nI r) = some (hI ((rcS g (Wo g (sP g P)) (wM g)).2 r)) := by rw [rd_65 (by omega), q3 r hr]; rfl
      show Option.bind (rdA σ4 65 (nI r)) _ = _
      rw [e, Option.bind_some, Option.bind_some]
      split <;> rfl
  · refine ⟨-1, σ, sI σ 20 0, ?_, ?_, I20⟩
    · unfold F_X10_raceOf; rw [h1 σ R.2.2.1]; rfl
    · unfold F_X11_raceOf
      rw [show stI σ 20 0 = some (sI σ 20 0) from rfl, Option.bind_some, h2 _ (MF_20 R.2.2.2.1 0)]; rfl
