-- acts: pages in a row
variable {g : FD} {P : PD} {σ σ' : Mem}
theorem weigh1 (c : CF g σ) (hg : okG g) (hP : okP g P) (e : CP 0 P σ) : ∃ σ', F_X9_weigh 0 σ = some σ' ∧ Fq (fun _ => true) (fun n => n != 12) true σ σ' ∧ T12 g (sP g P) σ' := by
  obtain ⟨σ', h1, h2, h3⟩ := weigh_ok c hg (k := 0) (by omega) e.2.1 hP.2.2
  refine ⟨σ', h1, h2, fun h r hh hr => ?_⟩
  rw [h3 h r hh hr, Wo_e, Wo_e]
  have q : ∀ t, t < 3 → sP g P r t = g.2.2 (7 + t) r + P.2.1 (3 * r + t) := fun t ht => by
    have := hP.2.2 r t hr ht
    show min 9 (g.2.2 (7 + t) r + P.2.1 (3 * r + t) + 0) = _
    omega
  rw [q 0 (by omega), q 1 (by omega), q 2 (by omega)]
theorem cpA_ok {n m L : Nat} {len : Int32} (hl : len = nI L) (hn : L ≤ alen n) (hm : L ≤ alen m) : cpA σ n (0 : Int32) m (0 : Int32) len = some (sF σ m (va_cpy (σ.2.1 n) (σ.2.1 m) 0 0 L)) := by
  have := alB n
  subst hl
  unfold cpA
  rw [show (0 : Int32) = nI 0 from rfl, nI_clamp (by omega), nI_clamp (by omega), if_neg]
  have h1 := nI_pos (n := 0) (by omega)
  have h2 := nI_pos (n := L) (by omega)
  rw [show (0 : Int32) = nI 0 from rfl] at h1 h2
  rintro (h | h | h | h | h)
  · exact h1 h
  · exact h1 h
  · exact h2 h
  · omega
  · omega
theorem c7_ok {k0 k1 : Nat} {w : Nat → Nat} (h0 : k0 < 21) (h1 : k1 < 21) (h : CW k1 w σ) : ∃ σ', F_X7_copyFrom k0 k1 σ = some σ' ∧ CW k0 w σ' ∧ Fq (fun _ => true) (fun n => n != 15 + k0) true σ σ' := by
  unfold F_X7_copyFrom
  rw [cpA_ok (L := 5) (len := 5) rfl (by rw [al_w h1]; omega) (by rw [al_w h0]; omega), Option.bind_some]
  refine ⟨_, rfl, fun r hr => ?_, Fq_sF (Fq_r σ) (by simp)⟩
  rw [sF_2, if_pos rfl, pk_cpy_in (by omega) (by omega), Nat.sub_zero, Nat.zero_add]
  exact h r hr
theorem cfm_ok {k0 k1 : Nat} (h0 : k0 < 17) (h1 : k1 < 17) (h : CP k1 P σ) : ∃ σ', F_X5_copyFrom k0 k1 σ = some σ' ∧ CP k0 P σ' ∧ Fq (fun n => n != 40 + k0) (fun n => n != 15 + k0 && n != 36 + k0) true σ σ' := by
  obtain ⟨σ1, q1, q2, q3⟩ := c7_ok (k0 := k0) (k1 := k1) (by omega) (by omega) h.1
  unfold F_X5_copyFrom
  rw [q1, Option.bind_some, cpA_ok (L := 15) (by rw [al_d h0]) (by rw [al_d h1]; omega) (by rw [al_d h0]; omega), Option.bind_some]
  refine ⟨_, rfl, ⟨?_, ?_, ?_⟩, Fq_sI (Fq_sF (Fq_w q3 (fun _ _ => rfl) (fun n hn => by simp at hn ⊢; exact hn.1) (fun h => h)) (by simp)) (by simp)⟩
  · intro r hr
    rw [sI_2, sF_2, if_neg (by omega)]
    exact q2 r hr
  · intro i hi
    rw [sI_2, sF_2, if_pos rfl, pk_cpy_in (by omega) (by omega), Nat.sub_zero, Nat.zero_add, q3.2.1 (36 + k1) (by simp; omega)]
    exact h.2.1 i hi
  · rw [sI_1, if_pos rfl, sF_1, q3.1 _ rfl]
    exact h.2.2
theorem stA_ok {f j : Nat} (h : σ.1 3 = nI f) (hf : f < 14) (hj : j ≤ 14) : F_X0_stateAt (nI j) σ = some (some (1 + (f + j) % 14)) := by
  have hm : (f + j) % 14 < 14 := Nat.mod_lt _ (by omega)
  unfold F_X0_stateAt
  rw [h, nI_add, show (14 : Int32) = nI 14 from rfl, pk_rem (by omega) (by omega) (by omega), if_neg (nI_pos (by omega)), if_neg (nI_ge hm (by omega))]
  unfold rdS
  rw [if_neg (by rw [nI_clamp (by omega)]; rintro (h | h); exact nI_pos (by omega) h; omega), nI_clamp (by omega)]
  rfl
def cN (c : Nat) : Nat := if c = 14 then 14 else c + 1
def push (c : Nat) (Q : Nat → PD) (P : PD) : Nat → PD := fun j => if c = 14 then (if j < 13 then Q (j + 1) else P) else (if j < c then Q j else P)
def rI (n : Nat) : Bool := n != 3 && n != 4 && !(41 ≤ n && n < 55)
def rA (n : Nat) : Bool := !(16 ≤ n && n < 30) && !(37 ≤ n && n < 51)
theorem rem_w {k : Nat} (h1 : 1 ≤ k) (h2 : k < 15) (f : Fq (fun n => n != 40 + k) (fun n => n != 15 + k && n != 36 + k) true σ σ') : Fq rI rA true σ σ' :=
  Fq_w f (fun n hn => by simp [rI] at hn ⊢; omega) (fun n hn => by simp [rA] at hn ⊢; omega) (fun h => h)
theorem rem_ok {f c : Nat} {Q : Nat → PD} (h : CA f c Q σ) (hf : f < 14) (hc : c ≤ 14) (hP : CP 0 P σ) : ∃ σ1 f', F_X0_remember 0 σ = some σ1 ∧ f' < 14 ∧ CA f' (cN c) (push c Q P) σ1 ∧ Fq rI rA true σ σ1 := by
  obtain ⟨h3, h4, h5⟩ := h
  unfold F_X0_remember
  by_cases e : c = 14
  · subst e
    have hm : (f + 1) % 14 < 14 := Nat.mod_lt _ (by omega)
    rw [h4, if_pos (show nI 14 = (14 : Int32) from rfl)]
    simp only [stI, Option.bind_some]
    rw [h3, show (1 : Int32) = nI 1 from rfl, show (14 : Int32) = nI 14 from rfl, nI_add, pk_rem (by omega) (by omega) (by omega)]
    have e4 : (sI σ 3 (nI ((f + 1) % 14))).1 4 = nI 14 := h4
    rw [e4, pk_sub (by omega)]
    have e5 : (sI (sI σ 3 (nI ((f + 1) % 14))) 4 (nI (14 - 1))).1 4 = nI 13 := rfl
    rw [e5, stA_ok (f := (f + 1) % 14) (j := 13) rfl hm (by omega), Option.bind_some]
    show ∃ σ1 f', (ifK (1 + ((f + 1) % 14 + 13) % 14) 17 _) = some σ1 ∧ _
    have hk : 1 + ((f + 1) % 14 + 13) % 14 < 17 := by omega
    have hk1 : 1 + ((f + 1) % 14 + 13) % 14 < 15 := by omega
    unfold ifK
    rw [if_pos hk]
    have f0 : Fq (fun n => n != 3 && n != 4) (fun _ => true) true σ (sI (sI σ 3 (nI ((f + 1) % 14))) 4 (nI (14 - 1))) := Fq_sI (Fq_sI (Fq_r σ))
    have hP' := CP_fr hP f0
    obtain ⟨σ2, q1, q2, q3⟩ := cfm_ok hk (by omega) hP'
    have e6 : σ2.1 4 = nI 13 := by rw [q3.1 4 (by simp; omega)]; rfl
    have e7 : σ2.1 3 = nI ((f + 1) % 14) := by rw [q3.1 3 (by simp; omega)]; rfl
    rw [q1, Option.bind_some, e6, nI_add]
    have fr : Fq rI rA true σ (sI σ2 4 (nI (13 + 1))) := Fq_sI (Fq_t (Fq_w f0 (fun n hn => by simp [rI] at hn ⊢; omega) (fun _ _ => rfl) (fun h => h)) (rem_w (by omega) hk1 q3))
    refine ⟨_, (f + 1) % 14, rfl, hm, ⟨by rw [sI_1, if_neg (by omega)]; exact e7, rfl, fun j hj => ?_⟩, fr⟩
    have hj2 : j < 14 := hj
    show CP (1 + ((f + 1) % 14 + j) % 14) (if (14 : Nat) = 14 then (if j < 13 then Q (j + 1) else P) else _) _
    rw [if_pos rfl]
    by_cases ej : j < 13
    · rw [if_pos ej]
      have hx := h5 (j + 1) (by omega)
      have em : (f + (j + 1)) % 14 = ((f + 1) % 14 + j) % 14 := by omega
      rw [em] at hx
      have hx2 := CP_fr hx f0 rfl rfl (by simp; omega)
      have hx3 := CP_fr hx2 q3 (by simp; omega) (by simp; omega) (by simp; omega)
      exact CP_fr hx3 (qI := fun n => n != 4) (qA := fun _ => true) (qJ := true) (Fq_sI (Fq_r _)) rfl rfl (by simp; omega)
    · rw [if_neg ej]
      have em : j = 13 := by omega
      subst em
      exact CP_fr q2 (qI := fun n => n != 4) (qA := fun _ => true) (qJ := true) (Fq_sI (Fq_r _)) rfl rfl (by simp; omega)
  · rw [h4, if_neg (by rw [show (14 : Int32) = nI 14 from rfl, nI_e (by omega) (by omega)]; exact e), stA_ok h3 hf hc, Option.bind_some]
    show ∃ σ1 f', (ifK (1 + (f + c) % 14) 17 _) = some σ1 ∧ _
    have hk : 1 + (f + c) % 14 < 17 := by omega
    have hk1 : 1 + (f + c) % 14 < 15 := by omega
    unfold ifK
    rw [if_pos hk]
    obtain ⟨σ2, q1, q2, q3⟩ := cfm_ok hk (by omega) hP
    have e6 : σ2.1 4 = nI c := by rw [q3.1 4 (by simp; omega)]; exact h4
    have e7 : σ2.1 3 = nI f := by rw [q3.1 3 (by simp; omega)]; exact h3
    rw [q1, Option.bind_some]
    simp only [stI, Option.bind_some]
    rw [e6, nI_1]
    refine ⟨_, f, rfl, hf, ⟨by rw [sI_1, if_neg (by omega)]; exact e7, by rw [sI_1, if_pos rfl]; unfold cN; rw [if_neg e], fun j hj => ?_⟩, Fq_sI (rem_w (by omega) hk1 q3)⟩
    unfold cN at hj
    rw [if_neg e] at hj
    show CP (1 + (f + j) % 14) (if c = 14 then _ else (if j < c then Q j else P)) _
    rw [if_neg e]
    by_cases ej : j < c
    · rw [if_pos ej]
      have hx3 := CP_fr (h5 j ej) q3 (by simp; omega) (by simp; omega) (by simp; omega)
      exact CP_fr hx3 (qI := fun n => n != 4) (qA := fun _ => true) (qJ := true) (Fq_sI (Fq_r _)) rfl rfl (by simp; omega)
    · rw [if_neg ej]
      have em : j = c := by omega
      subst em
      exact CP_fr q2 (qI := fun n => n != 4) (qA := fun _ => true) (qJ := true) (Fq_sI (Fq_r _)) rfl rfl (by simp; omega)
-- the reference's book
theorem MP_of {n b n' b' : Nat} (h : MP n' b' P σ') (hx : ∀ i, i < 21 → σ.2.1 n (b + i) = σ'.2.1 n' (b' + i)) : MP n b P σ := by
  refine ⟨fun r hr => by rw [hx r (by omega)]; exact h.1 r hr, fun i hi => ?_, by rw [hx 20 (by omega)]; exact h.2.2⟩
  have h1 := hx (5 + i) (by omega)
  have h2 := h.2.1 i hi
  rw [Nat.add_assoc, h1, ← Nat.add_assoc]; exact h2
theorem nb51 {c : Nat} (hc : c < 14) (h : σ.1 27 = nI c) : ∃ σ2, F_X11_note_b51 4000 (nI 0) σ = some σ2 ∧ σ2.1 27 = nI (c + 1) ∧ Fq (fun n => n != 27) (fun n => n != 59) true σ σ2 ∧ (∀ i, i < 21 → σ2.2.1 59 (21 * c + i) = σ.2.1 58 i) ∧ ∀ j, j < 21 * c → σ2.2.1 59 j = σ.2.1 59 j := by
  refine lp (fun n (s : Mem) i => F_X11_note_b51 n (nI i) s) (fun o => ∃ σ2, o = some σ2 ∧ σ2.1 27 = nI (c + 1) ∧ Fq (fun n => n != 27) (fun n => n != 59) true σ σ2 ∧ (∀ i, i < 21 → σ2.2.1 59 (21 * c + i) = σ.2.1 58 i) ∧ ∀ j, j < 21 * c → σ2.2.1 59 j = σ.2.1 59 j) 21 (fun i s => Fq (fun _ => true) (fun n => n != 59) true σ s ∧ (∀ j, j < i → s.2.1 59 (21 * c + j) = σ.2.1 58 j) ∧ ∀ j, j < 21 * c → s.2.1 59 j = σ.2.1 59 j) ?_ ?_ 21 0 σ 4000 (by omega) (by omega) (by omega) ⟨Fq_r σ, fun j hj => absurd hj (Nat.not_lt_zero _), fun _ _ => rfl⟩
  · intro n s ⟨p1, p2, p3⟩
    have e : s.1 27 = nI c := by rw [p1.1 27 rfl]; exact h
    simp only [F_X11_note_b51]
    rw [if_pos (show (21 : Int32) ≤ nI 21 from Int32.le_refl _), e, nI_1]
    exact ⟨_, rfl, rfl, Fq_sI (Fq_w p1 (fun _ _ => rfl) (fun _ h => h) (fun h => h)), p2, p3⟩
  · intro n s i hi ⟨p1, p2, p3⟩
    have e : s.1 27 = nI c := by rw [p1.1 27 rfl]; exact h
    refine .inr ⟨sA s 59 (21 * c + i) (σ.2.1 58 i), ⟨Fq_sA p1, fun j hj => ?_, fun j hj => ?_⟩, ?_⟩
    · rw [sA_2, if_pos rfl, upd_ap]
      by_cases ej : j = i
      · subst ej; rw [if_pos rfl]
      · rw [if_neg (by omega)]; exact p2 j (by omega)
    · rw [sA_2, if_pos rfl, upd_ap, if_neg (by omega)]; exact p3 j hj
    · simp only [F_X11_note_b51]
      rw [if_neg (show ¬ (21 : Int32) ≤ nI i from nI_ge (b := 21) hi (by omega)), rd_58 (by omega), Option.bind_some, e, show (21 : Int32) = nI 21 from rfl, pk_mul, nI_add, wr_59 (by omega), Option.bind_some, nI_1, p1.2.1 58 rfl]
theorem nb11 (h : σ.1 27 = nI 14) : ∃ σ1, F_X11_note_b11 4000 (nI 0) σ = F_X11_note_b51 4000 (nI 0) σ1 ∧ σ1.1 27 = nI 13 ∧ Fq (fun n => n != 27) (fun n => n != 59) true σ σ1 ∧ ∀ j, j < 273 → σ1.2.1 59 j = σ.2.1 59 (j + 21) := by
  refine lp (fun n (s : Mem) i => F_X11_note_b11 n (nI i) s) (fun o => ∃ σ1, o = F_X11_note_b51 4000 (nI 0) σ1 ∧ σ1.1 27 = nI 13 ∧ Fq (fun n => n != 27) (fun n => n != 59) true σ σ1 ∧ ∀ j, j < 273 → σ1.2.1 59 j = σ.2.1 59 (j + 21)) 273 (fun i s => Fq (fun _ => true) (fun n => n != 59) true σ s ∧ (∀ j, j < i → s.2.1 59 j = σ.2.1 59 (j + 21)) ∧ ∀ j, i ≤ j → s.2.1 59 j = σ.2.1 59 j) ?_ ?_ 273 0 σ 4000 (by omega) (by omega) (by omega) ⟨Fq_r σ, fun j hj => absurd hj (Nat.not_lt_zero _), fun _ _ => rfl⟩
  · intro n s ⟨p1, p2, p3⟩
    have e : s.1 27 = nI 14 := by rw [p1.1 27 rfl]; exact h
    simp only [F_X11_note_b11, stI, Option.bind_some]
    rw [if_pos (show (273 : Int32) ≤ nI 273 from Int32.le_refl _), e, show nI 14 - 1 = nI 13 from rfl]
    exact ⟨sI s 27 (nI 13), rfl, rfl, Fq_sI (Fq_w p1 (fun _ _ => rfl) (fun _ h => h) (fun h => h)), p2⟩
  · intro n s i hi ⟨p1, p2, p3⟩
    refine .inr ⟨sA s 59 i (σ.2.1 59 (i + 21)), ⟨Fq_sA p1, fun j hj => ?_, fun j hj => ?_⟩, ?_⟩
    · rw [sA_2, if_pos rfl, upd_ap]
      by_cases ej : j = i
      · subst ej; rw [if_pos rfl]
      · rw [if_neg ej]; exact p2 j (by omega)
    · rw [sA_2, if_pos rfl, upd_ap, if_neg (by omega)]; exact p3 j (by omega)
    · simp only [F_X11_note_b11]
      rw [if_neg (show ¬ (273 : Int32) ≤ nI i from nI_ge (b := 273) hi (by omega)), show (21 : Int32) = nI 21 from rfl, nI_add, rd_59 (by omega), Option.bind_some, wr_59 (by omega), Option.bind_some, nI_1, p3 (i + 21) (by omega)]
theorem note_ok {c : Nat} {Q : Nat → PD} (h : MA c Q σ) (hc : c ≤ 14) (hP : MP 58 0 P σ) : ∃ σ2, F_X11_note σ = some σ2 ∧ MA (cN c) (push c Q P) σ2 ∧ Fq (fun n => n != 27) (fun n => n != 59) true σ σ2 := by
  unfold F_X11_note
  by_cases e : c = 14
  · subst e
    obtain ⟨σ1, q1, q2, q3, q4⟩ := nb11 h.1
    obtain ⟨σ2, s1, s2, s3, s4, s5⟩ := nb51 (c := 13) (by omega) q2
    rw [h.1, if_pos (show nI 14 = (14 : Int32) from rfl)]
    refine ⟨σ2, (show F_X11_note_b11 4000 (nI 0) σ = _ by rw [q1, s1]), ⟨s2, fun j hj => ?_⟩, Fq_t q3 s3⟩
    have hj2 : j < 14 := hj
    show MP 59 (21 * j) (if (14 : Nat) = 14 then (if j < 13 then Q (j + 1) else P) else _) _
    rw [if_pos rfl]
    by_cases ej : j < 13
    · rw [if_pos ej]
      refine MP_of (h.2 (j + 1) (by omega)) (fun i hi => ?_)
      rw [s5 _ (by omega), q4 _ (by omega)]
      rw [show 21 * j + i + 21 = 21 * (j + 1) + i by omega]
    · rw [if_neg ej]
      have em : j = 13 := by omega
      subst em
      refine MP_of hP (fun i hi => ?_)
      rw [s4 i hi, q3.2.1 58 rfl, Nat.zero_add]
  · rw [h.1, if_neg (by rw [show (14 : Int32) = nI 14 from rfl, nI_e (by omega) (by omega)]; exact e)]
    obtain ⟨σ2, s1, s2, s3, s4, s5⟩ := nb51 (c := c) (by omega) h.1
    refine ⟨σ2, s1, ⟨by rw [s2]; unfold cN; rw [if_neg e], fun j hj => ?_⟩, s3⟩
    unfold cN at hj
    rw [if_neg e] at hj
    show MP 59 (21 * j) (if c = 14 then _ else (if j < c then Q j else P)) _
    rw [if_neg e]
    by_cases ej : j < c
    · rw [if_pos ej]
      exact MP_of (h.2 j ej) (fun i hi => s5 _ (by omega))
    · rw [if_neg ej]
      have em : j = c := by omega
      subst em
      exact MP_of hP (fun i hi => by rw [s4 i hi, Nat.zero_add])
theorem okQ_push {c : Nat} {Q : Nat → PD} (hc : c ≤ 14) (h : ∀ j, j < c → okP g (Q j)) (hP : okP g P) : ∀ j, j < cN c → okP g (push c Q P j) := by
  intro j hj
  unfold cN at hj
  unfold push
  split
  · rename_i e
    split
    · exact h _ (by omega)
    · exact hP
  · split
    · exact h _ (by omega)
    · exact hP
theorem cN_le {c : Nat} (hc : c ≤ 14) : cN c ≤ 14 := by unfold cN; split <;> omega
-- one value throughout
theorem fill_ok {n : Nat} {v : Int32} : ∃ σ', F_J7_fill_53178 n v σ = some σ' ∧ Fq (fun _ => true) (fun m => m != n) true σ σ' ∧ (∀ i, i < alen n → σ'.2.1 n i = v) := by
  have hb := alB n
  unfold F_J7_fill_53178
  refine lp (fun m (s : Mem) i => F_J7_fill_53178_b5 n m v (nI i) (nI (alen n)) s) (fun o => ∃ σ', o = some σ' ∧ Fq (fun _ => true) (fun m => m != n) true σ σ' ∧ (∀ i, i < alen n → σ'.2.1 n i = v)) (alen n) (fun i s => Fq (fun _ => true) (fun m => m != n) true σ s ∧ ∀ j, j < i → s.2.1 n j = v) ?_ ?_ (alen n) 0 σ 4000 (by omega) (by omega) (by omega) ⟨Fq_r σ, fun j hj => absurd hj (Nat.not_lt_zero _)⟩
  · intro m s ⟨p1, p2⟩
    simp only [F_J7_fill_53178_b5]
    rw [if_pos (nI_le (Nat.le_refl _) (by omega))]
    exact ⟨s, rfl, p1, p2⟩
  · intro m s i hi ⟨p1, p2⟩
    refine .inr ⟨sA s n i v, ⟨Fq_sA p1 (by simp), fun j hj => ?_⟩, ?_⟩
    · rw [sA_2, if_pos rfl, upd_ap]
      by_cases ej : j = i
      · rw [if_pos ej]
      · rw [if_neg ej]; exact p2 j (by omega)
    · simp only [F_J7_fill_53178_b5]
      rw [if_neg (nI_ge hi (by omega)), wrA_ok hi (by omega), Option.bind_some, nI_1]
