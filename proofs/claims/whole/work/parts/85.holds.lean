-- all that hold
variable {g : FD} {P : PD} {σ σ' : Mem}
def hoS (g : FD) (W : Nat → Nat → Nat) : Nat → Nat × (Nat → Nat) × (Nat → Bool)
  | 0 => (0, fun _ => 9, fun _ => false)
  | n + 1 => if heB g W (wN g n) = true then ((hoS g W n).1 + 1, (if (hoS g W n).1 = 0 then wN g n else (hoS g W n).2.1), fun r => (hoS g W n).2.2 r || decide (wN g n r ≠ (if (hoS g W n).1 = 0 then wN g n else (hoS g W n).2.1) r)) else hoS g W n
theorem hoS_1 {W : Nat → Nat → Nat} {n : Nat} (h : heB g W (wN g n) = true) : hoS g W (n + 1) = ((hoS g W n).1 + 1, (if (hoS g W n).1 = 0 then wN g n else (hoS g W n).2.1), fun r => (hoS g W n).2.2 r || decide (wN g n r ≠ (if (hoS g W n).1 = 0 then wN g n else (hoS g W n).2.1) r)) := by
  show (if heB g W (wN g n) = true then _ else _) = _
  rw [if_pos h]
theorem hoS_2 {W : Nat → Nat → Nat} {n : Nat} (h : ¬ heB g W (wN g n) = true) : hoS g W (n + 1) = hoS g W n := by
  show (if heB g W (wN g n) = true then _ else _) = _
  rw [if_neg h]
theorem hoS_ok (g : FD) (W : Nat → Nat → Nat) : ∀ n, okY g (hoS g W n).2.1 ∧ (hoS g W n).1 ≤ n ∧ ((hoS g W n).1 = 0 → ∀ r, (hoS g W n).2.2 r = false)
  | 0 => ⟨fun r _ => .inl rfl, Nat.le_refl _, fun _ _ => rfl⟩
  | n + 1 => by
    have ih := hoS_ok g W n
    by_cases h : heB g W (wN g n) = true
    · rw [hoS_1 h]
      refine ⟨?_, by show (hoS g W n).1 + 1 ≤ n + 1; omega, fun q => absurd q (Nat.succ_ne_zero _)⟩
      show okY g (if _ then _ else _)
      split
      · exact wN_ok g n
      · exact ih.1
    · rw [hoS_2 h]
      exact ⟨ih.1, by omega, ih.2.2⟩
theorem hoS_m (g : FD) (W : Nat → Nat → Nat) (n : Nat) : ∀ m, (hoS g W n).1 ≤ (hoS g W (n + m)).1
  | 0 => Nat.le_refl _
  | m + 1 => by
    have ih := hoS_m g W n m
    show _ ≤ (hoS g W ((n + m) + 1)).1
    by_cases h : heB g W (wN g (n + m)) = true
    · rw [hoS_1 h]; show _ ≤ (hoS g W (n + m)).1 + 1; omega
    · rw [hoS_2 h]; exact ih
-- the class
def hqI (n : Nat) : Bool := n != 6 && n != 7
theorem Fq_hz (f : Fq (fun _ => true) zA true σ σ') : Fq hqI rqA true σ σ' := Fq_w f (fun _ _ => rfl) (fun n h => by simp [rqA, zA] at h ⊢; exact h.1) (fun h => h)
theorem x30_ok {w f : Nat → Nat} (c : CF g σ) (hg : okG g) (hw : okY g w) (hf : okY g f) (h8 : CW 18 w σ) (h9 : CW 19 f σ) : ∃ s', F_X8_addHolding_b30 4000 (0 : Int32) σ = some s' ∧ Fq (fun n => n != 7) (fun _ => true) true σ s' ∧ ∀ r, r < g.2.1 → bt (s'.1 7) r = (bt (σ.1 7) r || decide (w r ≠ f r)) := by
  have hg1 := hg.1
  have hg2 := hg.2.1
  refine lp (fun n (a : Mem) i => F_X8_addHolding_b30 n (nI i) a) (fun o => ∃ s', o = some s' ∧ Fq (fun n => n != 7) (fun _ => true) true σ s' ∧ ∀ r, r < g.2.1 → bt (s'.1 7) r = (bt (σ.1 7) r || decide (w r ≠ f r))) g.2.1 (fun i a => Fq (fun n => n != 7) (fun _ => true) true σ a ∧ ∀ r, r < g.2.1 → bt (a.1 7) r = (bt (σ.1 7) r || (decide (r < i) && decide (w r ≠ f r)))) ?_ ?_ g.2.1 0 σ 4000 (by omega) (by omega) (by omega) ⟨Fq_r σ, fun r hr => by rw [decide_eq_false (Nat.not_lt_zero r), Bool.false_and, Bool.or_false]⟩
  · intro n a ⟨p1, p2⟩
    refine ⟨a, ?_, p1, fun r hr => by rw [p2 r hr, decide_eq_true hr, Bool.true_and]⟩
    simp only [F_X8_addHolding_b30]
    rw [(CF_fr c p1).2.1, if_pos (nI_le (Nat.le_refl _) (by omega))]
  · intro n a i hi ⟨p1, p2⟩
    have c' := CF_fr c p1
    have a8 : CW 18 w a := fun r hr => by rw [p1.2.1 _ rfl]; exact h8 r hr
    have a9 : CW 19 f a := fun r hr => by rw [p1.2.1 _ rfl]; exact h9 r hr
    have hwi := okW_b hw hg (r := i) (by omega)
    have hfi := okW_b hf hg (r := i) (by omega)
    have e0 : F_X8_addHolding_b30 (n + 1) (nI i) a = if w i = f i then F_X8_addHolding_b30 n (nI (i + 1)) a else F_X8_addHolding_b30 n (nI (i + 1)) (sI a 7 (a.1 7 ||| ((1 : Int32) <<< (nI i &&& 31)))) := by
      simp only [F_X8_addHolding_b30]
      rw [c'.2.1, if_neg (nI_ge hi (by omega)), hof_ok (by omega) a8 (by omega), Option.bind_some, hof_ok (by omega) a9 (by omega), Option.bind_some, if_hh (by omega) (by omega), nI_1]
      rfl
    by_cases q : w i = f i
    · refine .inr ⟨a, ⟨p1, fun r hr => ?_⟩, by rw [e0, if_pos q]⟩
      rw [p2 r hr]
      by_cases e : r = i
      · rw [e, decide_eq_false (show ¬ w i ≠ f i from fun h => h q), Bool.and_false, Bool.and_false]
      · by_cases e2 : r < i
        · rw [decide_eq_true e2, decide_eq_true (show r < i + 1 by omega)]
        · rw [decide_eq_false e2, decide_eq_false (show ¬ r < i + 1 by omega)]
    · refine .inr ⟨sI a 7 (a.1 7 ||| ((1 : Int32) <<< (nI i &&& 31))), ⟨Fq_sI p1, fun r hr => ?_⟩, by rw [e0, if_neg q]⟩
      rw [sI_1, if_pos rfl, or_bt _ (by omega) (by omega), p2 r hr]
      by_cases e : r = i
      · rw [e, decide_eq_true (show w i ≠ f i from q), decide_eq_true (show i < i + 1 by omega), decide_eq_true rfl, Bool.or_true, Bool.true_and, Bool.or_true]
      · rw [decide_eq_false e, Bool.or_false]
        by_cases e2 : r < i
        · rw [decide_eq_true e2, decide_eq_true (show r < i + 1 by omega)]
        · rw [decide_eq_false e2, decide_eq_false (show ¬ r < i + 1 by omega)]
theorem xfh_ok {s : Nat → Nat → Nat} (c : CF g σ) (hg : okG g) (t : T12 g s σ) (hs : okS g s) (h9 : ∀ r, r < 5 → σ.2.1 33 r = -9) : ∃ σ', F_X8_findHolding σ = some σ' ∧ Fq hqI rqA true σ σ' ∧ σ'.1 6 = nI (hoS g (Wo g s) (wM g)).1 ∧ CW 19 (hoS g (Wo g s) (wM g)).2.1 σ' ∧ (∀ r, r < g.2.1 → bt (σ'.1 7) r = (hoS g (Wo g s) (wM g)).2.2 r) ∧ ∀ r, r < 5 → σ'.2.1 33 r = -9 := by
  have hg1 := hg.1
  have hg2 := hg.2.1
  have hwM := wM_b hg
  have hwP := wM_p g
  unfold F_X8_findHolding F_X7_clear
  obtain ⟨σ2, a1, a2, a3⟩ := fill_ok (σ := sI (sI σ 6 0) 7 0) (n := 15 + 19) (v := (-9 : Int32))
  have F2 : Fq hqI rqA true σ σ2 := Fq_t (Fq_sI (Fq_sI (Fq_r σ))) (Fq_w a2 (fun _ _ => rfl) (fun n h => by simp [rqA] at h ⊢; omega) (fun h => h))
  rw [show stI σ 6 (0 : Int32) = some (sI σ 6 0) from rfl, Option.bind_some, show stI (sI σ 6 0) 7 (0 : Int32) = some (sI (sI σ 6 0) 7 0) from rfl, Option.bind_some, a1, Option.bind_some, Option.bind_some, nw_ok (CF_fr c F2) hg, Option.bind_some]
  refine lp (fun n (a : Mem) N => F_X8_findHolding_b24 n (nI (wM g)) (nI N) a) (fun o => ∃ σ', o = some σ' ∧ Fq hqI rqA true σ σ' ∧ σ'.1 6 = nI (hoS g (Wo g s) (wM g)).1 ∧ CW 19 (hoS g (Wo g s) (wM g)).2.1 σ' ∧ (∀ r, r < g.2.1 → bt (σ'.1 7) r = (hoS g (Wo g s) (wM g)).2.2 r) ∧ ∀ r, r < 5 → σ'.2.1 33 r = -9) (wM g) (fun N a => Fq hqI rqA true σ a ∧ a.1 6 = nI (hoS g (Wo g s) N).1 ∧ CW 19 (hoS g (Wo g s) N).2.1 a ∧ (∀ r, r < g.2.1 → bt (a.1 7) r = (hoS g (Wo g s) N).2.2 r) ∧ (∀ r, r < 5 → g.2.1 ≤ r → a.2.1 33 r = -9) ∧ (0 < N → CW 18 (wN g (N - 1)) a)) ?_ ?_ (wM g) 0 σ2 4000 (by omega) (by omega) (by omega) ⟨F2, ?_, fun r hr => a3 r hr, fun r hr => ?_, fun r hr _ => by rw [a2.2.1 33 rfl]; exact h9 r hr, fun h => absurd h (Nat.lt_irrefl _)⟩
  · intro n a ⟨p1, p2, p3, p4, p5, p6⟩
    simp only [F_X8_findHolding_b24]
    rw [if_pos (nI_le (Nat.le_refl _) (by omega))]
    refine ⟨a, rfl, p1, p2, p3, p4, fun r hr => ?_⟩
    have := p6 hwP r hr
    rw [wN_top hg] at this
    exact this
  · intro n a N hN ⟨p1, p2, p3, p4, p5, p6⟩
    have c' := CF_fr c p1
    obtain ⟨σ5, b1, b2, b3⟩ := sw_ok c' hg (N := N) (by omega) p5
    have p15 := Fq_t p1 (Fq_hz b2)
    have c5 := CF_fr c p15
    have t5 : T12 g s σ5 := by unfold T12; rw [p15.2.1 12 rfl]; exact t
    have h6 : σ5.1 6 = nI (hoS g (Wo g s) N).1 := by rw [b2.1 6 rfl]; exact p2
    have h7 : ∀ r, r < g.2.1 → bt (σ5.1 7) r = (hoS g (Wo g s) N).2.2 r := fun r hr => by rw [b2.1 7 rfl]; exact p4 r hr
    have p35 : CW 19 (hoS g (Wo g s) N).2.1 σ5 := fun r hr => by rw [b2.2.1 _ rfl]; exact p3 r hr
    have p55 : ∀ r, r < 5 → g.2.1 ≤ r → σ5.2.1 33 r = -9 := fun r hr h => by
      have := b3 r hr
      rw [okW_9 (wN_ok g N) hr h] at this
      exact this
    have hok := hoS_ok g (Wo g s) N
    have e0 : F_X8_findHolding_b24 (n + 1) (nI (wM g)) (nI N) a = (if bI (isW g (wN g N)) = 0 then F_X8_findHolding_b24 n (nI (wM g)) (nI (N + 1)) σ5 else if bI (alE g (Wo g s) (wN g N) g.2.1) = 0 then F_X8_findHolding_b24 n (nI (wM g)) (nI (N + 1)) σ5 else if bI (noB g (Wo g s) (wN g N) g.2.1) = 0 then F_X8_findHolding_b24 n (nI (wM g)) (nI (N + 1)) σ5 else Option.bind (F_X8_addHolding σ5) fun σ9 => F_X8_findHolding_b24 n (nI (wM g)) (nI (N + 1)) σ9) := by
      simp only [F_X8_findHolding_b24]
      rw [if_neg (nI_ge hN (by omega)), b1, Option.bind_some, xiw_ok c5 hg (wN_ok g N) b3, Option.bind_some, xae_ok c5 hg (wN_ok g N) b3 t5 hs, Option.bind_some, xnb_ok c5 hg (wN_ok g N) b3 t5 hs, Option.bind_some, nI_1]
    have skip : ¬ heB g (Wo g s) (wN g N) = true → Fq hqI rqA true σ σ5 ∧ σ5.1 6 = nI (hoS g (Wo g s) (N + 1)).1 ∧ CW 19 (hoS g (Wo g s) (N + 1)).2.1 σ5 ∧ (∀ r, r < g.2.1 → bt (σ5.1 7) r = (hoS g (Wo g s) (N + 1)).2.2 r) ∧ (∀ r, r < 5 → g.2.1 ≤ r → σ5.2.1 33 r = -9) ∧ (0 < N + 1 → CW 18 (wN g (N + 1 - 1)) σ5) := fun h => by
      rw [hoS_2 h]
      exact ⟨p15, h6, p35, h7, p55, fun _ => b3⟩
    refine .inr ?_
    by_cases q : heB g (Wo g s) (wN g N) = true
    · have q0 := q
      unfold heB at q0
      rw [Bool.and_eq_true, Bool.and_eq_true] at q0
      have e1 : F_X8_findHolding_b24 (n + 1) (nI (wM g)) (nI N) a = Option.bind (F_X8_addHolding σ5) fun σ9 => F_X8_findHolding_b24 n (nI (wM g)) (nI (N + 1)) σ9 := by
        rw [e0, q0.1, q0.2.1, q0.2.2, if_neg (by decide), if_neg (by decide), if_neg (by decide)]
      have fin : ∀ σ6, Fq hqI rqA true σ5 σ6 → σ6.1 6 = nI ((hoS g (Wo g s) N).1 + 1) → σ6.1 7 = σ5.1 7 → CW 18 (wN g N) σ6 → CW 19 (if (hoS g (Wo g s) N).1 = 0 then wN g N else (hoS g (Wo g s) N).2.1) σ6 → F_X8_addHolding σ5 = F_X8_addHolding_b30 4000 (0 : Int32) σ6 → ∃ a', (Fq hqI rqA true σ a' ∧ a'.1 6 = nI (hoS g (Wo g s) (N + 1)).1 ∧ CW 19 (hoS g (Wo g s) (N + 1)).2.1 a' ∧ (∀ r, r < g.2.1 → bt (a'.1 7) r = (hoS g (Wo g s) (N + 1)).2.2 r) ∧ (∀ r, r < 5 → g.2.1 ≤ r → a'.2.1 33 r = -9) ∧ (0 < N + 1 → CW 18 (wN g (N + 1 - 1)) a')) ∧ F_X8_findHolding_b24 (n + 1) (nI (wM g)) (nI N) a = F_X8_findHolding_b24 n (nI (wM g)) (nI (N + 1)) a' := fun σ6 f1 f2 f3 f4 f5 f6 => by
        have hof : okY g (if (hoS g (Wo g s) N).1 = 0 then wN g N else (hoS g (Wo g s) N).2.1) := by
          split
          · exact wN_ok g N
          · exact hok.1
        have p16 := Fq_t p15 f1
        obtain ⟨s7, d1, d2, d3⟩ := x30_ok (CF_fr c p16) hg (wN_ok g N) hof f4 f5
        refine ⟨s7, ⟨Fq_t p16 (Fq_w d2 (fun n h => by simp [hqI] at h ⊢; exact h.2) (fun _ _ => rfl) (fun h => h)), ?_, ?_, ?_, ?_, ?_⟩, by rw [e1, f6, d1, Option.bind_some]⟩
        · rw [hoS_1 q, d2.1 6 rfl]; exact f2
        · rw [hoS_1 q]
          intro r hr
          rw [d2.2.1 _ rfl]; exact f5 r hr
        · intro r hr
          rw [hoS_1 q, d3 r hr, f3, h7 r hr]
        · intro r hr h
          rw [d2.2.1 33 rfl]
          have := f4 r hr
          rw [okW_9 (wN_ok g N) hr h] at this
          exact this
        · intro _ r hr
          rw [d2.2.1 _ rfl]; exact f4 r hr
      by_cases z : (hoS g (Wo g s) N).1 = 0
      · obtain ⟨σ6, d1, d2, d3⟩ := c7_ok (k0 := 19) (k1 := 18) (by omega) (by omega) b3
        refine fin (sI σ6 6 (nI ((hoS g (Wo g s) N).1 + 1))) (Fq_t (Fq_w d3 (fun _ _ => rfl) (fun n h => by simp [rqA] at h ⊢; omega) (fun h => h)) (Fq_sI (Fq_r σ6))) rfl (d3.1 7 rfl) (fun r hr => ?_) (by rw [if_pos z]; exact d2) ?_
        · show σ6.2.1 (15 + 18) r = _
          rw [d3.2.1 _ rfl]; exact b3 r hr
        · unfold F_X8_addHolding
          rw [h6, if_pos (by rw [z]; rfl), d1, Option.bind_some, d3.1 6 rfl, h6, nI_1]; rfl
      · refine fin (sI σ5 6 (nI ((hoS g (Wo g s) N).1 + 1))) (Fq_sI (Fq_r σ5)) rfl rfl b3 (by rw [if_neg z]; exact p35) ?_
        unfold F_X8_addHolding
        rw [h6, if_neg (nI_ne0 (by omega) (by omega)), nI_1]; rfl
    · refine ⟨σ5, skip q, ?_⟩
      rw [e0]
      unfold heB at q
      by_cases q1 : isW g (wN g N) = true
      · rw [q1, if_neg (by decide)]
        by_cases q2 : alE g (Wo g s) (wN g N) g.2.1 = true
        · rw [q2, if_neg (by decide)]
          by_cases q3 : noB g (Wo g s) (wN g N) g.2.1 = true
          · exact absurd (by rw [q1, q2, q3]; rfl) q
          · rw [(Bool.not_eq_true _).mp q3, if_pos (show bI false = 0 from rfl)]
        · rw [(Bool.not_eq_true _).mp q2, if_pos (show bI false = 0 from rfl)]
      · rw [(Bool.not_eq_true _).mp q1, if_pos (show bI false = 0 from rfl)]
  · rw [a2.1 6 rfl]; rfl
  · rw [a2.1 7 rfl]
    exact b_0 r
-- the reference
def kqI (n : Nat) : Bool := n != 30
theorem m24 {kL11 : Int32 → Mem → Option Mem} {w : Nat → Nat} {cc : Nat} (hc : cc ≤ 4000) (m : MF g σ) (hg : okG g) (hw : okY g w) (h0 : MV g 64 w σ) (h30 : σ.1 30 = nI cc) : ∃ s', F_X11_findHolds_b24 kL11 4000 (0 : Int32) σ = Option.bind (F_X11_nextWay s') (fun q => kL11 q.1 q.2) ∧ Fq kqI (fun n => n != 65) true σ s' ∧ s'.1 30 = nI (cc + 1) ∧ ∀ r, r < g.2.1 → s'.2.1 65 r = if cc = 0 then nI (w r) else if σ.2.1 65 r = nI (w r) then nI (w r) else -9 := by
  have hg1 := hg.1
  have hg2 := hg.2.1
  refine lp (fun n (a : Mem) i => F_X11_findHolds_b24 kL11 n (nI i) a) (fun o => ∃ s', o = Option.bind (F_X11_nextWay s') (fun q => kL11 q.1 q.2) ∧ Fq kqI (fun n => n != 65) true σ s' ∧ s'.1 30 = nI (cc + 1) ∧ ∀ r, r < g.2.1 → s'.2.1 65 r = if cc = 0 then nI (w r) else if σ.2.1 65 r = nI (w r) then nI (w r) else -9) g.2.1 (fun i a => Fq (fun _ => true) (fun n => n != 65) true σ a ∧ (∀ r, r < i → a.2.1 65 r = if cc = 0 then nI (w r) else if σ.2.1 65 r = nI (w r) then nI (w r) else -9) ∧ ∀ r, i ≤ r → a.2.1 65 r = σ.2.1 65 r) ?_ ?_ g.2.1 0 σ 4000 (by omega) (by omega) (by omega) ⟨Fq_r σ, fun r hr => absurd hr (Nat.not_lt_zero _), fun r _ => rfl⟩
  · intro n a ⟨p1, p2, p3⟩
    refine ⟨sI a 30 (nI (cc + 1)), ?_, Fq_sI (Fq_w p1 (fun _ _ => rfl) (fun _ h => h) (fun h => h)), rfl, p2⟩
    simp only [F_X11_findHolds_b24]
    rw [(MF_fr m p1).2.1, if_pos (nI_le (Nat.le_refl _) (by omega)), p1.1 30 rfl, h30, nI_1]; rfl
  · intro n a i hi ⟨p1, p2, p3⟩
    have hwi := okW_b hw hg (r := i) (by omega)
    have hv : (if hI (w i) = (-9 : Int32) then F_X11_findHolds_b54 kL11 (F_X11_findHolds_b24 kL11 n) (nI i) (9 : Int32) a else F_X11_findHolds_b54 kL11 (F_X11_findHolds_b24 kL11 n) (nI i) (hI (w i)) a) = F_X11_findHolds_b54 kL11 (F_X11_findHolds_b24 kL11 n) (nI i) (nI (w i)) a := by
      rw [if_h9 (by omega)]
      by_cases q : w i = 9
      · rw [if_pos q, q]; rfl
      · rw [if_neg q, hI_n q]
    refine .inr ⟨sA a 65 i (if cc = 0 then nI (w i) else if σ.2.1 65 i = nI (w i) then nI (w i) else -9), ⟨Fq_sA p1, fun r hr => ?_, fun r hr => ?_⟩, ?_⟩
    · rw [sA_2, if_pos rfl, upd_ap]
      by_cases q : r = i
      · rw [if_pos q, q]
      · rw [if_neg q]; exact p2 r (by omega)
    · rw [sA_2, if_pos rfl, upd_ap, if_neg (by omega)]; exact p3 r (by omega)
    · simp only [F_X11_findHolds_b24]
      rw [(MF_fr m p1).2.1, if_neg (nI_ge hi (by omega)), rd_64 (by omega), p1.2.1 64 rfl, h0 i hi, Option.bind_some, Option.bind_some, hv]
      unfold F_X11_findHolds_b54
      rw [p1.1 30 rfl, h30, rd_65 (by omega), p3 i (Nat.le_refl _), Option.bind_some, wr_65 (by omega), wr_65 (by omega), Option.bind_some, Option.bind_some, nI_1, show (0 : Int32) = nI 0 from rfl, if_eq (by omega) (by omega)]
      by_cases q : cc = 0
      · rw [if_pos q, if_pos q]
      · rw [if_neg q, if_neg q]
        by_cases q2 : σ.2.1 65 i = nI (w i)
        · rw [if_pos q2, if_pos q2]
        · rw [if_neg q2, if_neg q2]
def b65 (g : FD) (s : Nat × (Nat → Nat) × (Nat → Bool)) (σ : Mem) : Prop := s.1 = 0 ∨ ∀ r, r < g.2.1 → σ.2.1 65 r = if s.2.2 r = true then -9 else nI (s.2.1 r)
theorem mfh_ok {d x : Nat → Nat} (m : MF g σ) (hg : okG g) (e0 : MD d x σ) : ∃ σ', F_X11_findHolds σ = some σ' ∧ Fq kqI mqA true σ σ' ∧ σ'.1 30 = nI (hoS g (Wo g (sh g d x)) (wM g)).1 ∧ b65 g (hoS g (Wo g (sh g d x)) (wM g)) σ' := by
  have hg1 := hg.1
  have hg2 := hg.2.1
  have hwM := wM_b hg
  have hwP := wM_p g
  have m0 : MF g (sI σ 30 0) := MF_fr m (Fq_sI (qI := kqI) (qA := mqA) (qJ := true) (Fq_r σ))
  obtain ⟨σ1, a1, a2, a3⟩ := fw_ok m0 hg
  unfold F_X11_findHolds
  rw [show stI σ 30 (0 : Int32) = some (sI σ 30 0) from rfl, Option.bind_some, a1, Option.bind_some]
  have wz : ∀ {a b : Mem}, Fq (fun _ => true) zB true a b → Fq kqI mqA true a b := fun f => Fq_w f (fun _ _ => rfl) (fun n h => by simp [mqA, zB] at h ⊢; exact h.1) (fun h => h)
  have key := lp (fun n (a : Mem) N => F_X11_findHolds_b11 n (bI (decide (N < wM g))) a) (fun o => ∃ σ', o = some σ' ∧ Fq kqI mqA true σ σ' ∧ σ'.1 30 = nI (hoS g (Wo g (sh g d x)) (wM g)).1 ∧ b65 g (hoS g (Wo g (sh g d x)) (wM g)) σ') (wM g) (fun N a => Fq kqI mqA true σ a ∧ MV g 64 (wN g N) a ∧ a.1 30 = nI (hoS g (Wo g (sh g d x)) N).1 ∧ b65 g (hoS g (Wo g (sh g d x)) N) a) ?_ ?_ (wM g) 0 σ1 4000 (by omega) (by omega) (by omega) ⟨Fq_t (Fq_sI (Fq_r σ)) (wz a2), a3, by rw [a2.1 30 rfl]; rfl, .inl rfl⟩
  · rw [decide_eq_true hwP] at key
    exact key
  · intro n a ⟨p1, p2, p3, p4⟩
    simp only [F_X11_findHolds_b11]
    rw [decide_eq_false (Nat.lt_irrefl _), if_pos (show bI false = 0 from rfl)]
    exact ⟨a, rfl, p1, p3, p4⟩
  · intro n a N hN ⟨p1, p2, p3, p4⟩
    have m' := MF_fr m p1
    have e' := md_m e0 p1
    have hok := hoS_ok g (Wo g (sh g d x)) N
    have hI1 := mih_ok m' hg (wN_ok g N) p2 e'
    refine .inr ?_
    have ha : F_X11_findHolds_b11 (n + 1) (bI (decide (N < wM g))) a = (if bI (heB g (Wo g (sh g d x)) (wN g N)) = 0 then Option.bind (F_X11_nextWay a) (fun q4 => F_X11_findHolds_b11 n q4.1 q4.2) else F_X11_findHolds_b24 (F_X11_findHolds_b11 n) 4000 (0 : Int32) a) := by
      simp only [F_X11_findHolds_b11]
      rw [decide_eq_true hN, if_neg (show ¬ bI true = 0 by decide), hI1, Option.bind_some]
    by_cases q : heB g (Wo g (sh g d x)) (wN g N) = true
    · obtain ⟨s1, c1, c2, c3, c4⟩ := m24 (kL11 := F_X11_findHolds_b11 n) (cc := (hoS g (Wo g (sh g d x)) N).1) (by omega) m' hg (wN_ok g N) p2 p3
      have c5 : MV g 64 (wN g N) s1 := fun r hr => by rw [c2.2.1 64 rfl]; exact p2 r hr
      have c6 := MF_fr m' c2
      obtain ⟨a', n1, n2, n3⟩ := nx_ok c6 hg hN c5
      refine ⟨a', ⟨Fq_t p1 (Fq_t (Fq_w c2 (fun _ h => h) (fun n h => by simp [mqA] at h ⊢; exact h.2) (fun h => h)) (wz n2)), n3, ?_, ?_⟩, by rw [ha, q, if_neg (by decide), c1, n1, Option.bind_some]⟩
      · rw [hoS_1 q, n2.1 30 rfl]; exact c3
      · rw [hoS_1 q]
        refine .inr (fun r hr => ?_)
        have hwr := okW_b (wN_ok g N) hg (r := r) (by omega)
        have hfr := okW_b hok.1 hg (r := r) (by omega)
        rw [n2.2.1 65 rfl, c4 r hr]
        show _ = if ((hoS g (Wo g (sh g d x)) N).2.2 r || decide (wN g N r ≠ (if (hoS g (Wo g (sh g d x)) N).1 = 0 then wN g N else (hoS g (Wo g (sh g d x)) N).2.1) r)) = true then -9 else nI ((if (hoS g (Wo g (sh g d x)) N).1 = 0 then wN g N else (hoS g (Wo g (sh g d x)) N).2.1) r)
        by_cases z : (hoS g (Wo g (sh g d x)) N).1 = 0
        · rw [if_pos z, hok.2.2 z r]
          simp only [if_pos z]
          rw [decide_eq_false (fun h => h rfl), if_neg (by decide)]
        · rw [if_neg z]
          simp only [if_neg z]
          have h65 := (p4.resolve_left z) r hr
          rw [h65]
          cases hu : (hoS g (Wo g (sh g d x)) N).2.2 r with
          | true =>
            rw [if_pos rfl, if_neg (by rw [nI_n9' (by omega)]; exact id), Bool.true_or, if_pos rfl]
          | false =>
            rw [if_neg (show ¬ (false = true) by decide), Bool.false_or, if_eq (by omega) (by omega)]
            by_cases q2 : (hoS g (Wo g (sh g d x)) N).2.1 r = wN g N r
            · rw [if_pos q2, decide_eq_false (fun h => h q2.symm), if_neg (by decide), q2]
            · rw [if_neg q2, decide_eq_true (show wN g N r ≠ (hoS g (Wo g (sh g d x)) N).2.1 r from fun h => q2 h.symm), if_pos rfl]
    · obtain ⟨a', n1, n2, n3⟩ := nx_ok m' hg hN p2
      refine ⟨a', ⟨Fq_t p1 (wz n2), n3, ?_, ?_⟩, by rw [ha, (Bool.not_eq_true _).mp q, if_pos (show bI false = 0 from rfl), n1, Option.bind_some]⟩
      · rw [hoS_2 q, n2.1 30 rfl]; exact p3
      · rw [hoS_2 q]
        rcases p4 with p4 | p4
        · exact .inl p4
        · exact .inr (fun r hr => by rw [n2.2.1 65 rfl]; exact p4 r hr)
theorem Fq_hq (f : Fq hqI rqA true σ σ') : Fq (fun n => pI n) (fun n => pA n && n != 33) true σ σ' := Fq_w f (fun n h => by
  by_cases e1 : n = 6
  · subst e1; cases h
  by_cases e2 : n = 7
  · subst e2; cases h
  simp [hqI, e1, e2]) (fun n h => by
  by_cases e1 : n = 33
  · subst e1; cases h
  by_cases e2 : n = 34
  · subst e2; cases h
  simp [rqA, e1, e2]) (fun h => h)
theorem pI_30 (n : Nat) (h : pI n = true) : kqI n = true := by
  by_cases e1 : n = 30
  · subst e1; cases h
  simp [kqI, e1]
theorem st_holds : Step_holds Inv := by
  intro σ hI0
  obtain ⟨g, P, R⟩ := id hI0
  have hg := R.1
  obtain ⟨σ1, w1, w2, w3⟩ := weigh0 R
  have R1 := Rel_fr R w2
  obtain ⟨σ2, x1, x2, x3, x4, x5, x6⟩ := xfh_ok R1.2.2.1 hg w3 (oS_P g P) R1.2.2.2.2.2.2.2.2.2.2.2.2
  have R2 := Rel_33 (qI := hqI) (qA := rqA) R1 (Fq_hq x2) x6
  have R3 := R_20 R2
  obtain ⟨σ4, q1, q2, q3, q4⟩ := mfh_ok R3.2.2.2.1 hg (md_R R3)
  have R4 := Rel_fr R3 (Fr_mq q2 pI_30)
  refine ⟨nI (hoS g (Wo g (sP g P)) (wM g)).1, σ2, σ4, ?_, ?_, g, P, R4⟩
  · unfold F_X10_holds
    rw [w1, Option.bind_some, x1, Option.bind_some, x3]
  · unfold F_X11_holds
    rw [show stI σ2 20 0 = some (sI σ2 20 0) from rfl, Option.bind_some, q1, Option.bind_some, q3]; rfl
