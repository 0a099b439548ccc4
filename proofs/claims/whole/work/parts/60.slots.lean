-- steps: the bell, undone, kept, gone on from
variable {g : FD} {P P' : PD} {σ σ' : Mem}
theorem un_27 {c : Nat} (hc : c < 14) (h : σ.1 27 = nI c) : ∃ σ2, F_X11_undo_b27 4000 (nI 0) σ = some (nI c, σ2) ∧ Fq (fun _ => true) (fun n => n != 58) true σ σ2 ∧ ∀ i, i < 21 → σ2.2.1 58 i = σ.2.1 59 (21 * c + i) := by
  refine lp (fun n (s : Mem) i => F_X11_undo_b27 n (nI i) s) (fun o => ∃ σ2, o = some (nI c, σ2) ∧ Fq (fun _ => true) (fun n => n != 58) true σ σ2 ∧ ∀ i, i < 21 → σ2.2.1 58 i = σ.2.1 59 (21 * c + i)) 21 (fun i s => Fq (fun _ => true) (fun n => n != 58) true σ s ∧ ∀ j, j < i → s.2.1 58 j = σ.2.1 59 (21 * c + j)) ?_ ?_ 21 0 σ 4000 (by omega) (by omega) (by omega) ⟨Fq_r σ, fun j hj => absurd hj (Nat.not_lt_zero _)⟩
  · intro n s ⟨p1, p2⟩
    have e : s.1 27 = nI c := by rw [p1.1 27 rfl]; exact h
    simp only [F_X11_undo_b27]
    rw [if_pos (show (21 : Int32) ≤ nI 21 from Int32.le_refl _), e]
    exact ⟨s, rfl, p1, p2⟩
  · intro n s i hi ⟨p1, p2⟩
    have e : s.1 27 = nI c := by rw [p1.1 27 rfl]; exact h
    refine .inr ⟨sA s 58 i (σ.2.1 59 (21 * c + i)), ⟨Fq_sA p1, fun j hj => ?_⟩, ?_⟩
    · rw [sA_2, if_pos rfl, upd_ap]
      by_cases ej : j = i
      · subst ej; rw [if_pos rfl]
      · rw [if_neg ej]; exact p2 j (by omega)
    · simp only [F_X11_undo_b27]
      rw [if_neg (show ¬ (21 : Int32) ≤ nI i from nI_ge (b := 21) hi (by omega)), e, show (21 : Int32) = nI 21 from rfl, pk_mul, nI_add, rd_59 (by omega), Option.bind_some, wr_58 (by omega), Option.bind_some, nI_1, p1.2.1 59 rfl]
theorem st_undo : Step_undo Inv := by
  intro σ hI0
  obtain ⟨g, P, R⟩ := id hI0
  obtain ⟨hg, hP, c, d, e, i, j, k, l, m, z⟩ := id R
  have I20 := Inv_fr hI0 (fr20 σ 0)
  obtain ⟨fa, ca, Q, k1, k2, k3, k4, k5⟩ := id k
  by_cases e0 : ca = 0
  · subst e0
    refine ⟨-3, σ, sI σ 20 0, ?_, ?_, I20⟩
    · unfold F_X10_undo F_X0_bringBack
      rw [k4.2.1, if_pos (show nI 0 ≤ 0 from Int32.le_refl _)]; rfl
    · unfold F_X11_undo
      simp only [stI, Option.bind_some]
      rw [if_pos (show (sI σ 20 0).1 27 = 0 from k5.1)]
  · obtain ⟨b, rfl⟩ : ∃ b, ca = b + 1 := ⟨ca - 1, by omega⟩
    have hk : 1 + (fa + b) % 14 < 17 := by omega
    have hP' := k3 b (by omega)
    obtain ⟨σ1, q1, q2, q3⟩ := cfm_ok (k0 := 0) (k1 := 1 + (fa + b) % 14) (by omega) hk (k4.2.2 b (by omega))
    have e4 : σ1.1 4 = nI (b + 1) := by rw [q3.1 4 rfl]; exact k4.2.1
    have hA : F_X10_undo σ = some (nI b, sI σ1 4 (nI b)) := by
      unfold F_X10_undo F_X0_bringBack
      rw [k4.2.1, if_neg (nI_nle (by omega) (by omega)), nI_pred, stA_ok k4.1 k1 (by omega), Option.bind_some]
      show (Option.bind (ifK (1 + (fa + b) % 14) 17 _) _) = _
      unfold ifK
      rw [if_pos hk, q1, Option.bind_some, e4, nI_pred]; rfl
    have F1 : Fq (fun n => n != 40 && n != 4) (fun n => n != 15 && n != 36) true σ (sI σ1 4 (nI b)) := Fq_sI (Fq_w q3 (fun n h => by simp at h ⊢; omega) (fun n h => by simpa using h) (fun h => h))
    have e3 : CP 0 (Q b) (sI σ1 4 (nI b)) := CP_fr q2 (qI := fun n => n != 4) (qA := fun _ => true) (qJ := true) (Fq_sI (Fq_r _))
    have CA1 : CA fa b Q (sI σ1 4 (nI b)) := by
      refine ⟨by rw [F1.1 3 rfl]; exact k4.1, rfl, fun q hq => ?_⟩
      exact CP_fr (k4.2.2 q (by omega)) F1 (by simp; omega) (by simp; omega) (by simp; omega)
    rw [hA]
    generalize sI σ1 4 (nI b) = σ3 at *
    have F2 : Fq (fun n => n != 20 && n != 27) (fun _ => true) true σ3 (sI (sI σ3 20 0) 27 (nI b)) := Fq_sI (Fq_sI (Fq_r _))
    obtain ⟨σ6, u1, u2, u3⟩ := un_27 (σ := sI (sI σ3 20 0) 27 (nI b)) (c := b) (by omega) rfl
    have F36 : Fq nN nA true σ3 σ6 := Fq_t (Fq_w F2 (fun n h => by simpa [nN] using h) (fun _ _ => rfl) (fun h => h)) (Fq_w u2 (fun _ _ => rfl) (fun n h => by simp [nA] at h ⊢; omega) (fun h => h))
    have F13 : Fq mI mA true σ σ3 := w_m F1 (fun n h => by simp [mI] at h ⊢; omega) (fun n h => by simp [mA] at h ⊢; omega)
    have M5 : MA (b + 1) Q σ3 := MA_fr k5 F13
    refine ⟨nI b, σ3, σ6, rfl, ?_, g, Q b, Rel_mk R (Fq_t (w_l F13) (w_n F36)) hP' (CP_fr e3 F36) ?_ k1 (c := b) (by omega) (fun q hq => k3 q (by omega)) (CA_fr CA1 F36) ⟨?_, fun q hq => ?_⟩⟩
    · unfold F_X11_undo
      simp only [stI, Option.bind_some]
      have e27 : (sI σ3 20 0).1 27 = nI (b + 1) := M5.1
      rw [e27, if_neg (nI_ne0 (by omega) (by omega)), nI_pred]
      exact u1
    · refine MP_of (M5.2 b (by omega)) (fun q hq => ?_)
      rw [Nat.zero_add, u3 q hq, F2.2.1 59 rfl]
    · rw [u2.1 27 rfl]; rfl
    · refine MP_fr (MP_fr (M5.2 q (by omega)) F2) u2
theorem kp_26 {s : Nat} (hs : s < 2) {w : Nat → Nat} (d : MF g σ) (hg : okG g) (hw : okY g w) (hm : MW 58 w σ) : ∃ σ2, F_X11_keep_b26 4000 (nI s) (nI 0) σ = some (nI (cntN (tkB w) 5), σ2) ∧ Fq (fun _ => true) (fun n => n != 60) true σ σ2 ∧ (∀ i, i < 21 → σ2.2.1 60 (21 * s + i) = σ.2.1 58 i) ∧ ∀ j, (j < 21 * s ∨ 21 * s + 21 ≤ j) → σ2.2.1 60 j = σ.2.1 60 j := by
  refine lp (fun n (t : Mem) i => F_X11_keep_b26 n (nI s) (nI i) t) (fun o => ∃ σ2, o = some (nI (cntN (tkB w) 5), σ2) ∧ Fq (fun _ => true) (fun n => n != 60) true σ σ2 ∧ (∀ i, i < 21 → σ2.2.1 60 (21 * s + i) = σ.2.1 58 i) ∧ ∀ j, (j < 21 * s ∨ 21 * s + 21 ≤ j) → σ2.2.1 60 j = σ.2.1 60 j) 21 (fun i t => Fq (fun _ => true) (fun n => n != 60) true σ t ∧ (∀ j, j < i → t.2.1 60 (21 * s + j) = σ.2.1 58 j) ∧ ∀ j, (j < 21 * s ∨ 21 * s + 21 ≤ j) → t.2.1 60 j = σ.2.1 60 j) ?_ ?_ 21 0 σ 4000 (by omega) (by omega) (by omega) ⟨Fq_r σ, fun j hj => absurd hj (Nat.not_lt_zero _), fun _ _ => rfl⟩
  · intro n t ⟨p1, p2, p3⟩
    have m2 : MW 58 w t := by unfold MW; rw [p1.2.1 58 rfl]; exact hm
    simp only [F_X11_keep_b26]
    rw [if_pos (show (21 : Int32) ≤ nI 21 from Int32.le_refl _), to_ok (by decide) (MF_fr d p1) hg m2 hw, Option.bind_some, mn_ok, Option.bind_some]
    exact ⟨t, rfl, p1, p2, p3⟩
  · intro n t i hi ⟨p1, p2, p3⟩
    refine .inr ⟨sA t 60 (21 * s + i) (σ.2.1 58 i), ⟨Fq_sA p1, fun j hj => ?_, fun j hj => ?_⟩, ?_⟩
    · rw [sA_2, if_pos rfl, upd_ap]
      by_cases ej : j = i
      · subst ej; rw [if_pos rfl]
      · rw [if_neg (by omega)]; exact p2 j (by omega)
    · rw [sA_2, if_pos rfl, upd_ap, if_neg (by omega)]; exact p3 j hj
    · simp only [F_X11_keep_b26]
      rw [if_neg (show ¬ (21 : Int32) ≤ nI i from nI_ge (b := 21) hi (by omega)), rd_58 (by omega), Option.bind_some, show (21 : Int32) = nI 21 from rfl, pk_mul, nI_add, wr_60 (by omega), Option.bind_some, nI_1, p1.2.1 58 rfl]
theorem slot_c (a : Int32) : (∃ s, s < 2 ∧ a = nI s ∧ (∀ σ, F_X10_slotOf a σ = some (some (15 + s))) ∧ ∀ σ, F_X11_in a.toInt64 (0 : Int64) (1 : Int64) σ = some 1) ∨ ((∀ σ, F_X10_slotOf a σ = some none) ∧ ∀ σ, F_X11_in a.toInt64 (0 : Int64) (1 : Int64) σ = some 0) := by
  rcases inN a (n := 1) (by omega) with ⟨t, h1, h2, h3⟩ | ⟨h1, h2⟩
  · subst h2
    refine .inl ⟨t, by omega, rfl, fun σ => ?_, h3⟩
    unfold F_X10_slotOf rdS
    rw [if_neg (nI_pos (by omega)), if_neg (nI_ge (by omega) (by omega)), if_neg (by rw [nI_clamp (by omega)]; rintro (h | h); exact nI_pos (by omega) h; omega), nI_clamp (by omega)]
    rfl
  · refine .inr ⟨fun σ => ?_, h2⟩
    unfold F_X10_slotOf
    by_cases e : a < 0
    · rw [if_pos e]
    · rcases h1 with h1 | h1
      · exact absurd h1 e
      · rw [if_neg e, if_pos h1]
theorem st_keep : Step_keep Inv := by
  intro a σ hI0
  obtain ⟨g, P, R⟩ := id hI0
  obtain ⟨hg, hP, c, d, e, i, j, k, l, m, z⟩ := id R
  have I20 := Inv_fr hI0 (fr20 σ 0)
  rcases slot_c a with ⟨s, hs, rfl, t1, t2⟩ | ⟨t1, t2⟩
  · obtain ⟨σ1, q1, q2, q3⟩ := cfm_ok (k0 := 15 + s) (k1 := 0) (by omega) (by omega) e
    have F13 : Fq (fun n => n != 40 + (15 + s) && n != 60 + (15 + s)) (fun n => n != 15 + (15 + s) && n != 36 + (15 + s)) true σ (sI σ1 (60 + (15 + s)) 1) := Fq_sI (Fq_w q3 (fun n h => by simp at h ⊢; omega) (fun _ h => h) (fun h => h)) (by simp)
    have e1 : CP 0 P σ1 := CP_fr e q3 (by simp <;> omega) (by simp <;> omega) (by simp <;> omega)
    have e2 : CW 0 P.1 (sI σ1 (60 + (15 + s)) 1) := e1.1
    have l2 : CP (15 + s) P (sI σ1 (60 + (15 + s)) 1) := CP_fr q2 (qI := fun n => n != 60 + (15 + s)) (qA := fun _ => true) (qJ := true) (Fq_sI (Fq_r _) (by simp)) rfl rfl (by simp <;> omega)
    have hf : (sI σ1 (60 + (15 + s)) 1).1 (60 + (15 + s)) = 1 := by rw [sI_1, if_pos rfl]
    have hA : F_X10_keep (nI s) σ = some (nI (cntN (tkB P.1) 5), sI σ1 (60 + (15 + s)) 1) := by
      unfold F_X10_keep
      rw [t1, Option.bind_some]
      show ifK (15 + s) 17 _ = _
      unfold ifK
      rw [if_pos (by omega), q1, Option.bind_some]
      simp only [stI, Option.bind_some]
      rw [tb_ok (by omega) e2 (fun x hx => okW_b hP.1 hg hx), Option.bind_some, bc_ok, Option.bind_some]
    rw [hA]
    generalize sI σ1 (60 + (15 + s)) 1 = σ3 at *
    have d3 : MF g σ3 := MF_fr d F13 (by rcases s with _|_|s <;> first | rfl | omega)
    have i3 : MP 58 0 P σ3 := MP_fr i F13 (by simp; omega)
    have F34 : Fq (fun n => n != 20) (fun n => n != 67) true σ3 (sA (sI σ3 20 0) 67 s 1) := Fq_sA (Fq_sI (Fq_r _))
    have d4 := MF_fr d3 F34
    have i4 := MP_fr i3 F34
    have r67 : ∀ x, x ≠ s → (sA (sI σ3 20 0) 67 s 1).2.1 67 x = σ3.2.1 67 x := fun x hx => by rw [sA_2, if_pos rfl, upd_ap, if_neg hx]; rfl
    have r67s : (sA (sI σ3 20 0) 67 s 1).2.1 67 s = 1 := by rw [sA_2, if_pos rfl, upd_ap, if_pos rfl]
    have hw67 : wrA (sI σ3 20 0) 67 (nI s) 1 = some (sA (sI σ3 20 0) 67 s 1) := wr_67 (by omega)
    generalize sA (sI σ3 20 0) 67 s 1 = σ4 at *
    obtain ⟨σ6, u1, u2, u3, u4⟩ := kp_26 hs d4 hg hP.1 (mw_of i4)
    refine ⟨nI (cntN (tkB P.1) 5), σ3, σ6, rfl, ?_, g, P, ?_⟩
    · unfold F_X11_keep
      simp only [stI, Option.bind_some]
      rw [t2, Option.bind_some, if_neg (by decide), hw67, Option.bind_some]
      exact u1
    · have F36 : Fq (fun n => n != 20) (fun n => n != 67 && n != 60) true σ3 σ6 := Fq_t (Fq_w F34 (fun _ h => h) (fun n h => by simp at h ⊢; omega) (fun h => h)) (Fq_w u2 (fun _ _ => rfl) (fun n h => by simp at h ⊢; omega) (fun h => h))
      have F16 : Fq (fun n => n != 20 && !(55 ≤ n && n < 57) && !(75 ≤ n && n < 77)) (fun n => n != 67 && n != 60 && !(30 ≤ n && n < 32) && !(51 ≤ n && n < 53)) true σ σ6 := Fq_t (Fq_w F13 (fun n h => by simp at h ⊢; omega) (fun n h => by simp at h ⊢; omega) (fun h => h)) (Fq_w F36 (fun n h => by simp at h ⊢; omega) (fun n h => by simp at h ⊢; omega) (fun h => h))
      refine ⟨hg, hP, CF_fr c F16, MF_fr d F16, CP_fr e F16, MP_fr i F16, RT_fr j F16, RA_fr k F16, fun x hx => ?_, RC_fr m F16, RZ_fr z F16⟩
      by_cases ex : x = s
      · subst ex
        refine .inr ⟨by rw [F36.1 _ (by simp; omega)]; exact hf, by rw [u2.2.1 67 rfl]; exact r67s, P, hP, CP_fr l2 F36 (by simp; omega) (by simp; omega) (by simp; omega), MP_of i4 (fun q hq => ?_)⟩
        rw [u3 q hq, Nat.zero_add]
      · have hb1 : σ6.1 (60 + (15 + x)) = σ.1 (60 + (15 + x)) := by rw [F36.1 _ (by simp; omega), F13.1 _ (by simp; omega)]
        have hb2 : σ6.2.1 67 x = σ.2.1 67 x := by rw [u2.2.1 67 rfl, r67 x ex, F13.2.1 67 (by simp; omega)]
        rw [hb1, hb2]
        rcases l x hx with l1 | ⟨l1, l3, Q, l4, l5, l6⟩
        · exact .inl l1
        · refine .inr ⟨l1, l3, Q, l4, CP_fr (CP_fr l5 F13 (by simp; omega) (by simp; omega) (by simp; omega)) F36 (by simp; omega) (by simp; omega) (by simp; omega), MP_of l6 (fun q hq => ?_)⟩
          rw [u4 _ (by omega), F34.2.1 60 rfl, F13.2.1 60 (by simp; omega)]
  · refine ⟨-1, σ, sI σ 20 0, ?_, ?_, I20⟩
    · unfold F_X10_keep; rw [t1]; rfl
    · unfold F_X11_keep; simp only [stI, Option.bind_some]; rw [t2]; rfl
theorem ag_31 {s : Nat} (hs : s < 2) (d : MF g σ) (hg : okG g) (hP : okP g P) (hm : MP 60 (21 * s) P σ) : ∃ σ2, F_X11_again_b31 4000 (nI s) (nI 0) σ = some (nI (cntN (tkB P.1) 5), sI σ2 27 0) ∧ Fq (fun _ => true) (fun n => n != 58) true σ σ2 ∧ MP 58 0 P σ2 := by
  refine lp (fun n (t : Mem) i => F_X11_again_b31 n (nI s) (nI i) t) (fun o => ∃ σ2, o = some (nI (cntN (tkB P.1) 5), sI σ2 27 0) ∧ Fq (fun _ => true) (fun n => n != 58) true σ σ2 ∧ MP 58 0 P σ2) 21 (fun i t => Fq (fun _ => true) (fun n => n != 58) true σ t ∧ (∀ j, j < i → t.2.1 58 j = σ.2.1 60 (21 * s + j))) ?_ ?_ 21 0 σ 4000 (by omega) (by omega) (by omega) ⟨Fq_r σ, fun j hj => absurd hj (Nat.not_lt_zero _)⟩
  · intro n t ⟨p1, p2⟩
    have i2 : MP 58 0 P t := MP_of hm (fun q hq => by rw [Nat.zero_add]; exact p2 q hq)
    have F : Fq (fun n => n != 27) (fun n => n != 58) true σ (sI t 27 0) := Fq_sI (Fq_w p1 (fun _ _ => rfl) (fun _ h => h) (fun h => h))
    simp only [F_X11_again_b31, stI, Option.bind_some]
    rw [if_pos (show (21 : Int32) ≤ nI 21 from Int32.le_refl _), to_ok (by decide) (MF_fr d F) hg (show MW 58 P.1 (sI t 27 0) from mw_of i2) hP.1, Option.bind_some, mn_ok, Option.bind_some]
    exact ⟨t, rfl, p1, i2⟩
  · intro n t i hi ⟨p1, p2⟩
    refine .inr ⟨sA t 58 i (σ.2.1 60 (21 * s + i)), ⟨Fq_sA p1, fun j hj => ?_⟩, ?_⟩
    · rw [sA_2, if_pos rfl, upd_ap]
      by_cases ej : j = i
      · subst ej; rw [if_pos rfl]
      · rw [if_neg ej]; exact p2 j (by omega)
    · simp only [F_X11_again_b31]
      rw [if_neg (show ¬ (21 : Int32) ≤ nI i from nI_ge (b := 21) hi (by omega)), show (21 : Int32) = nI 21 from rfl, pk_mul, nI_add, rd_60 (by omega), Option.bind_some, wr_58 (by omega), Option.bind_some, nI_1, p1.2.1 60 rfl]
theorem st_again : Step_again Inv := by
  intro a σ hI0
  obtain ⟨g, P, R⟩ := id hI0
  obtain ⟨hg, hP, c, d, e, i, j, k, l, m, z⟩ := id R
  have I20 := Inv_fr hI0 (fr20 σ 0)
  rcases slot_c a with ⟨s, hs, rfl, t1, t2⟩ | ⟨t1, t2⟩
  · rcases l s hs with ⟨l1, l2⟩ | ⟨l1, l2, Q, l4, l5, l6⟩
    · refine ⟨-3, σ, sI σ 20 0, ?_, ?_, I20⟩
      · unfold F_X10_again
        rw [t1, Option.bind_some]
        show ifK (15 + s) 17 _ = _
        unfold ifK
        rw [if_pos (by omega), if_pos l1]
      · unfold F_X11_again
        simp only [stI, Option.bind_some]
        rw [t2, Option.bind_some, if_neg (by decide), rd_67 (by omega), Option.bind_some, if_pos (show (sI σ 20 0).2.1 67 s = 0 from l2)]
    · obtain ⟨σ1, q1, q2, q3⟩ := cfm_ok (k0 := 0) (k1 := 15 + s) (by omega) (by omega) l5
      have e3 : CP 0 Q (sI σ1 4 0) := CP_fr q2 (qI := fun n => n != 4) (qA := fun _ => true) (qJ := true) (Fq_sI (Fq_r _))
      have hA : F_X10_again (nI s) σ = some (nI (cntN (tkB Q.1) 5), sI σ1 4 0) := by
        unfold F_X10_again
        rw [t1, Option.bind_some]
        show ifK (15 + s) 17 _ = _
        unfold ifK
        rw [if_pos (by omega), if_neg (by rw [l1]; decide), q1, Option.bind_some]
        simp only [stI, Option.bind_some]
        rw [tb_ok (by omega) e3.1 (fun x hx => okW_b l4.1 hg hx), Option.bind_some, bc_ok, Option.bind_some]
      have F1 : Fq (fun n => n != 40 && n != 4) (fun n => n != 15 && n != 36) true σ (sI σ1 4 0) := Fq_sI (Fq_w q3 (fun n h => by simp at h ⊢; omega) (fun n h => by simpa using h) (fun h => h))
      have h4 : (sI σ1 4 0).1 4 = nI 0 := rfl
      rw [hA]
      generalize sI σ1 4 0 = σ3 at *
      have F34 : Fq (fun n => n != 20) (fun _ => true) true σ3 (sI σ3 20 0) := Fq_sI (Fq_r _)
      have F13 : Fq mI mA true σ σ3 := w_m F1 (fun n h => by simp [mI] at h ⊢; omega) (fun n h => by simp [mA] at h ⊢; omega)
      have d4 := MF_fr (MF_fr d F1) F34
      obtain ⟨σ6, u1, u2, u3⟩ := ag_31 hs d4 hg l4 (MP_fr (MP_fr l6 F1) F34)
      have F36 : Fq nN nA true σ3 (sI σ6 27 0) := Fq_sI (Fq_t (Fq_w F34 (fun n h => by simp [nN] at h ⊢; omega) (fun _ _ => rfl) (fun h => h)) (Fq_w u2 (fun _ _ => rfl) (fun n h => by simp [nA] at h ⊢; omega) (fun h => h)))
      obtain ⟨fa, ca, Q2, k1, k2, k3, k4, k5⟩ := k
      refine ⟨nI (cntN (tkB Q.1) 5), σ3, sI σ6 27 0, rfl, ?_, g, Q, Rel_mk R (Fq_t (w_l F13) (w_n F36)) l4 (CP_fr e3 F36) u3 (fa := fa) (c := 0) (Q := Q2) k1 (by omega) (fun q hq => absurd hq (Nat.not_lt_zero _)) ⟨?_, ?_, fun q hq => absurd hq (Nat.not_lt_zero _)⟩ ⟨rfl, fun q hq => absurd hq (Nat.not_lt_zero _)⟩⟩
      · unfold F_X11_again
        simp only [stI, Option.bind_some]
        have e67 : (sI σ3 20 0).2.1 67 s = 1 := by rw [F34.2.1 67 rfl, F1.2.1 67 rfl]; exact l2
        rw [t2, Option.bind_some, if_neg (by decide), rd_67 (by omega), Option.bind_some, e67, if_neg (by decide)]
        exact u1
      · rw [F36.1 3 rfl, F1.1 3 rfl]; exact k4.1
      · rw [F36.1 4 rfl]; exact h4
  · refine ⟨-1, σ, sI σ 20 0, ?_, ?_, I20⟩
    · unfold F_X10_again; rw [t1]; rfl
    · unfold F_X11_again; simp only [stI, Option.bind_some]; rw [t2]; rfl
-- the bell
def drB (g : FD) (W : Nat → Nat → Nat) (w : Nat → Nat) (r : Nat) : Bool := decide (w r ≠ 9) && !enB g W (w r) r
def blW (g : FD) (W : Nat → Nat → Nat) (w : Nat → Nat) (n r : Nat) : Nat := if decide (r < n) && drB g W w r then 9 else w r
theorem blW_0 (W : Nat → Nat → Nat) (w : Nat → Nat) (r : Nat) : blW g W w 0 r = w r := rfl
theorem blW_i (W : Nat → Nat → Nat) (w : Nat → Nat) (i : Nat) : blW g W w i i = w i := by
  unfold blW; rw [decide_eq_false (by omega)]; rfl
theorem blW_s1 {W : Nat → Nat → Nat} {w : Nat → Nat} {i r : Nat} (h : drB g W w i = true) : blW g W w (i + 1) r = upN (blW g W w i) i 9 r := by
  unfold upN blW
  by_cases e : r = i
  · subst e; rw [h, decide_eq_true (by omega), if_pos rfl]; rfl
  · rw [if_neg e]
    by_cases e2 : r < i
    · rw [decide_eq_true e2, decide_eq_true (show r < i + 1 by omega)]
    · rw [decide_eq_false e2, decide_eq_false (show ¬ r < i + 1 by omega)]
theorem blW_s0 {W : Nat → Nat → Nat} {w : Nat → Nat} {i r : Nat} (h : drB g W w i = false) : blW g W w (i + 1) r = blW g W w i r := by
  unfold blW
  by_cases e : r = i
  · subst e; rw [h, Bool.and_false, Bool.and_false]
  · by_cases e2 : r < i
    · rw [decide_eq_true e2, decide_eq_true (show r < i + 1 by omega)]
    · rw [decide_eq_false e2, decide_eq_false (show ¬ r < i + 1 by omega)]
theorem okY_bl {W : Nat → Nat → Nat} {w : Nat → Nat} (h : okY g w) (n : Nat) : okY g (blW g W w n) := fun r hr => by
  unfold blW; split
  · exact .inl rfl
  · exact h r hr
theorem xbell {s : Nat → Nat → Nat} {w : Nat → Nat} (c : CF g σ) (hg : okG g) (hw : okY g w) (h : CW 0 w σ) (t : T12 g s σ) (hs : okS g s) : ∃ σ2, F_X10_bell_b37 4000 (nI 0) (nI 0) σ = some (nI (bits (drB g (Wo g s) w) g.2.1), σ2) ∧ Fq (fun _ => true) (fun n => n != 15) true σ σ2 ∧ CW 0 (blW g (Wo g s) w g.2.1) σ2 := by
  have hg2 := hg.2.1
  have hg1 := hg.1
  refine lp (fun n (a : Nat × Mem) i => F_X10_bell_b37 n (nI a.1) (nI i) a.2) (fun o => ∃ σ2, o = some (nI (bits (drB g (Wo g s) w) g.2.1), σ2) ∧ Fq (fun _ => true) (fun n => n != 15) true σ σ2 ∧ CW 0 (blW g (Wo g s) w g.2.1) σ2) g.2.1 (fun i a => a.1 = bits (drB g (Wo g s) w) i ∧ Fq (fun _ => true) (fun n => n != 15) true σ a.2 ∧ CW 0 (blW g (Wo g s) w i) a.2) ?_ ?_ g.2.1 0 (0, σ) 4000 (by omega) (by omega) (by omega) ⟨rfl, Fq_r σ, h⟩
  · intro n ⟨a, q⟩ ⟨p1, p2, p3⟩
    have c' := CF_fr c p2
    simp only [F_X10_bell_b37]
    rw [c'.2.1, if_pos (nI_le (Nat.le_refl _) (by omega))]
    exact ⟨q, by rw [← p1], p2, p3⟩
  · intro n ⟨a, q⟩ i hi ⟨p1, p2, p3⟩
    have c' := CF_fr c p2
    have t' : T12 g s q := by unfold T12; rw [p2.2.1 12 rfl]; exact t
    have hwi := okY_v hw (r := i) (by omega)
    have hb := bits_lt (drB g (Wo g s) w) i
    dsimp only at p1 p2 p3
    by_cases ed : drB g (Wo g s) w i = true
    · have e1 := ed
      unfold drB at e1
      simp only [Bool.and_eq_true, decide_eq_true_eq, Bool.not_eq_true'] at e1
      have hh : w i < g.1 := by omega
      have s3 := set_ok (k := 0) (by omega) p3 (r := i) (h := 9) (by omega)
      rw [hI_9] at s3
      refine .inr ⟨(bits (drB g (Wo g s) w) (i + 1), sA q (15 + 0) i (-9)), ⟨rfl, Fq_sA p2, fun r hr => by rw [blW_s1 ed]; exact s3.2 r hr⟩, ?_⟩
      simp only [F_X10_bell_b37]
      rw [c'.2.1, if_neg (nI_ge hi (by omega)), hof_ok (by omega) p3 (by omega), Option.bind_some, blW_i, if_neg (by rw [hI_m9 (by omega)]; exact e1.1), hI_n e1.1, en_ok t' c' hg hs hh hi, Option.bind_some, e1.2, if_pos (show bI false = 0 from rfl), s3.1, Option.bind_some, nI_1, p1, or_bit i (by omega) _ hb, bits_s, ed]
      rfl
    · rw [Bool.not_eq_true] at ed
      refine .inr ⟨(bits (drB g (Wo g s) w) (i + 1), q), ⟨rfl, p2, fun r hr => by rw [blW_s0 ed]; exact p3 r hr⟩, ?_⟩
      simp only [F_X10_bell_b37]
      rw [c'.2.1, if_neg (nI_ge hi (by omega)), hof_ok (by omega) p3 (by omega), Option.bind_some, blW_i, bits_s, ed, p1, nI_1]
      by_cases e9 : w i = 9
      · rw [if_pos (by rw [e9]; rfl)]; rfl
      · have hh : w i < g.1 := by omega
        have e2 : enB g (Wo g s) (w i) i = true := by
          unfold drB at ed
          rw [decide_eq_true e9, Bool.true_and] at ed
          simpa using ed
        rw [if_neg (by rw [hI_m9 (by omega)]; exact e9), hI_n e9, en_ok t' c' hg hs hh hi, Option.bind_some, e2, if_neg (by decide)]; rfl
theorem mbell {d : Nat → Nat} {w : Nat → Nat} (c : MF g σ) (hg : okG g) (hw : okY g w) (h : MW 58 w σ) (e0 : MD d zN σ) : ∃ σ2, F_X11_bell_b34 4000 (nI 0) (nI 0) σ = some (nI (bits (drB g (Wo g (sh g d zN)) w) g.2.1), σ2) ∧ Fq (fun _ => true) (fun n => n != 58) true σ σ2 ∧ (∀ j, 5 ≤ j → σ2.2.1 58 j = σ.2.1 58 j) ∧ MW 58 (blW g (Wo g (sh g d zN)) w g.2.1) σ2 := by
  have hg2 := hg.2.1
  have hg1 := hg.1
  refine lp (fun n (a : Nat × Mem) i => F_X11_bell_b34 n (nI a.1) (nI i) a.2) (fun o => ∃ σ2, o = some (nI (bits (drB g (Wo g (sh g d zN)) w) g.2.1), σ2) ∧ Fq (fun _ => true) (fun n => n != 58) true σ σ2 ∧ (∀ j, 5 ≤ j → σ2.2.1 58 j = σ.2.1 58 j) ∧ MW 58 (blW g (Wo g (sh g d zN)) w g.2.1) σ2) g.2.1 (fun i a => a.1 = bits (drB g (Wo g (sh g d zN)) w) i ∧ Fq (fun _ => true) (fun n => n != 58) true σ a.2 ∧ (∀ j, 5 ≤ j → a.2.2.1 58 j = σ.2.1 58 j) ∧ MW 58 (blW g (Wo g (sh g d zN)) w i) a.2) ?_ ?_ g.2.1 0 (0, σ) 4000 (by omega) (by omega) (by omega) ⟨rfl, Fq_r σ, fun _ _ => rfl, h⟩
  · intro n ⟨a, q⟩ ⟨p1, p2, p4, p3⟩
    have c' := MF_fr c p2
    simp only [F_X11_bell_b34]
    rw [c'.2.1, if_pos (nI_le (Nat.le_refl _) (by omega))]
    exact ⟨q, by rw [← p1], p2, p4, p3⟩
  · intro n ⟨a, q⟩ i hi ⟨p1, p2, p4, p3⟩
    have c' := MF_fr c p2
    dsimp only at p1 p2 p3 p4
    have e' : MD d zN q := ⟨fun x hx => by rw [p4 _ (by omega)]; exact e0.1 x hx, by rw [p2.2.1 66 rfl]; exact e0.2⟩
    have hwi := okY_v hw (r := i) (by omega)
    have hb := bits_lt (drB g (Wo g (sh g d zN)) w) i
    have hq := p3 i (by omega)
    rw [blW_i] at hq
    by_cases ed : drB g (Wo g (sh g d zN)) w i = true
    · have e1 := ed
      unfold drB at e1
      simp only [Bool.and_eq_true, decide_eq_true_eq, Bool.not_eq_true'] at e1
      have hh : w i < g.1 := by omega
      have s3 := mw_set p3 (r := i) (h := 9)
      rw [hI_9] at s3
      refine .inr ⟨(bits (drB g (Wo g (sh g d zN)) w) (i + 1), sA q 58 i (-9)), ⟨rfl, Fq_sA p2, fun j hj => by rw [sA_2, if_pos rfl, upd_ap, if_neg (by omega)]; exact p4 j hj, fun r hr => by rw [blW_s1 ed]; exact s3 r hr⟩, ?_⟩
      simp only [F_X11_bell_b34]
      rw [c'.2.1, if_neg (nI_ge hi (by omega)), rd_58 (by omega), hq, Option.bind_some, if_neg (by rw [hI_m9 (by omega)]; exact e1.1), Option.bind_some, hI_n e1.1, ie_ok c' hg e' hh hi, Option.bind_some, e1.2, if_pos (show bI false = 0 from rfl), wr_58 (by omega), Option.bind_some, nI_1, p1, or_bit i (by omega) _ hb, bits_s, ed]
      rfl
    · rw [Bool.not_eq_true] at ed
      refine .inr ⟨(bits (drB g (Wo g (sh g d zN)) w) (i + 1), q), ⟨rfl, p2, p4, fun r hr => by rw [blW_s0 ed]; exact p3 r hr⟩, ?_⟩
      simp only [F_X11_bell_b34]
      rw [c'.2.1, if_neg (nI_ge hi (by omega)), rd_58 (by omega), hq, Option.bind_some, bits_s, ed, p1, nI_1]
      by_cases e9 : w i = 9
      · rw [if_pos (by rw [e9]; rfl)]; rfl
      · have hh : w i < g.1 := by omega
        have e2 : enB g (Wo g (sh g d zN)) (w i) i = true := by
          unfold drB at ed
          rw [decide_eq_true e9, Bool.true_and] at ed
          simpa using ed
        rw [if_neg (by rw [hI_m9 (by omega)]; exact e9), Option.bind_some, hI_n e9, ie_ok c' hg e' hh hi, Option.bind_some, e2, if_neg (by decide)]; rfl
theorem mb_11 : ∃ σ2, F_X11_bell_b11 4000 (nI 5) σ = F_X11_bell_b34 4000 (nI 0) (nI 0) σ2 ∧ Fq (fun _ => true) (fun n => n != 58) true σ σ2 ∧ (∀ j, 5 ≤ j → j < 20 → σ2.2.1 58 j = 0) ∧ ∀ j, j < 5 ∨ 20 ≤ j → σ2.2.1 58 j = σ.2.1 58 j := by
  refine lp (fun n (t : Mem) i => F_X11_bell_b11 n (nI i) t) (fun o => ∃ σ2, o = F_X11_bell_b34 4000 (nI 0) (nI 0) σ2 ∧ Fq (fun _ => true) (fun n => n != 58) true σ σ2 ∧ (∀ j, 5 ≤ j → j < 20 → σ2.2.1 58 j = 0) ∧ ∀ j, j < 5 ∨ 20 ≤ j → σ2.2.1 58 j = σ.2.1 58 j) 20 (fun i t => 5 ≤ i ∧ Fq (fun _ => true) (fun n => n != 58) true σ t ∧ (∀ j, 5 ≤ j → j < i → t.2.1 58 j = 0) ∧ ∀ j, j < 5 ∨ 20 ≤ j → t.2.1 58 j = σ.2.1 58 j) ?_ ?_ 20 5 σ 4000 (by omega) (by omega) (by omega) ⟨by omega, Fq_r σ, fun j h1 h2 => by omega, fun _ _ => rfl⟩
  · intro n t ⟨p0, p1, p2, p3⟩
    simp only [F_X11_bell_b11]
    rw [if_pos (show (20 : Int32) ≤ nI 20 from Int32.le_refl _)]
    exact ⟨t, rfl, p1, p2, p3⟩
  · intro n t i hi ⟨p0, p1, p2, p3⟩
    refine .inr ⟨sA t 58 i 0, ⟨by omega, Fq_sA p1, fun j h1 h2 => ?_, fun j hj => ?_⟩, ?_⟩
    · rw [sA_2, if_pos rfl, upd_ap]
      by_cases ej : j = i
      · rw [if_pos ej]
      · rw [if_neg ej]; exact p2 j h1 (by omega)
    · rw [sA_2, if_pos rfl, upd_ap, if_neg (by omega)]; exact p3 j hj
    · simp only [F_X11_bell_b11]
      rw [if_neg (show ¬ (20 : Int32) ≤ nI i from nI_ge (b := 20) hi (by omega)), wr_58 (by omega), Option.bind_some, nI_1]
theorem st_bell : Step_bell Inv := by
  intro σ hI0
  obtain ⟨g, P, R⟩ := id hI0
  obtain ⟨hg, hP, c, d, e, i, j, k, l, m, z⟩ := id R
  obtain ⟨fa, ca, Q, k1, k2, k3, k4, k5⟩ := k
  have hP0 : okP g (P.1, zN, P.2.2) := by
    refine ⟨hP.1, fun q hq => by show 0 ≤ 9; omega, fun r t hr ht => ?_⟩
    have h := hg.2.2.2 r hr
    show g.2.2 (7 + t) r + 0 ≤ 9
    rcases t with _|_|_|t
    · exact h.1
    · exact h.2.1
    · exact h.2.2.1
    · omega
  obtain ⟨σ1, f', r1, r2, r3, r4⟩ := rem_ok k4 k1 k2 e
  have c1 := CF_fr c r4
  have e1 := CP_fr e r4
  obtain ⟨σ2, v1, v2, v3⟩ := fill_ok (σ := σ1) (n := 36 + 0) (v := (0 : Int32))
  have c2 := CF_fr c1 v2
  have e2 : CP 0 (P.1, zN, P.2.2) σ2 := ⟨by unfold CW; rw [v2.2.1 _ rfl]; exact e1.1, fun q hq => v3 q hq, by rw [v2.1 _ rfl]; exact e1.2.2⟩
  obtain ⟨σ3, w1, w2, w3⟩ := weigh1 c2 hg hP0 e2
  have c3 := CF_fr c2 w2
  have e3 := CP_fr e2 w2
  obtain ⟨σ4, b1, b2, b3⟩ := xbell c3 hg hP.1 e3.1 w3 (oS_P g _)
  have F14 : Fq mI mA true σ σ4 := Fq_t (w_r r4) (Fq_t (w_1 v2 rfl) (Fq_t (w_1 w2 rfl) (w_1 b2 rfl)))
  have F15 : Fq mI mA true σ (sI σ4 20 0) := Fq_sI F14
  have d5 := MF_fr d F15
  obtain ⟨σ6, n1, n2, n3⟩ := note_ok (MA_fr k5 F15) k2 (MP_fr i F15)
  have d6 := MF_fr d5 n3
  have i6 := MP_fr (MP_fr i F15) n3
  have z6 : ∀ q, q < 15 → σ6.2.1 66 q = 0 := by rw [n3.2.1 66 rfl, F15.2.1 66 rfl]; exact z.2.1
  obtain ⟨σ7, s1, s2, s3, s4⟩ := mb_11 (σ := σ6)
  have d7 := MF_fr d6 s2
  have i7 : MP 58 0 (P.1, zN, P.2.2) σ7 := mp_mk (fun r hr => by rw [s4 r (.inl hr)]; exact mw_of i6 r hr) (fun q hq => s3 _ (by omega) (by omega)) (by rw [s4 20 (.inr (by omega))]; exact i6.2.2)
  obtain ⟨σ8, t1, t2, t3, t4⟩ := mbell (w := P.1) d7 hg hP.1 (mw_of (P := (P.1, zN, P.2.2)) i7) (md_of hP0 i7 (by rw [s2.2.1 66 rfl]; exact z6))
  have F48 : Fq nN nA true σ4 σ8 := Fq_t (Fq_sI (n := 20) (v := 0) (Fq_r σ4)) (Fq_t (Fq_w n3 (fun n h => by simp [nN] at h ⊢; omega) (fun n h => by simp [nA] at h ⊢; omega) (fun h => h)) (Fq_t (Fq_w s2 (fun _ _ => rfl) (fun n h => by simp [nA] at h ⊢; omega) (fun h => h)) (Fq_w t2 (fun _ _ => rfl) (fun n h => by simp [nA] at h ⊢; omega) (fun h => h))))
  refine ⟨nI (bits (drB g (Wo g (sP g (P.1, zN, P.2.2))) P.1) g.2.1), σ4, σ8, ?_, ?_, g, (blW g (Wo g (sP g (P.1, zN, P.2.2))) P.1 g.2.1, zN, P.2.2), ?_⟩
  · unfold F_X10_bell
    rw [r1, Option.bind_some, show F_J7_fill_53178 (36 + 0) (0 : Int32) σ1 = some σ2 from v1, Option.bind_some, w1, Option.bind_some, show (0 : Int32) = nI 0 from rfl, b1]
  · unfold F_X11_bell
    have t1' : F_X11_bell_b34 4000 (nI 0) (nI 0) σ7 = some (nI (bits (drB g (Wo g (sP g (P.1, zN, P.2.2))) P.1) g.2.1), σ8) := by
      rw [show sP g (P.1, zN, P.2.2) = sh g (P.1, zN, P.2.2).2.1 zN from rfl]; exact t1
    rw [show stI σ4 20 0 = some (sI σ4 20 0) from rfl, Option.bind_some, n1, Option.bind_some, i_5, s1, t1']
  · refine Rel_mk R (Fq_t (w_l F14) (w_n F48)) ⟨okY_bl hP.1 _, hP0.2⟩ ?_ ?_ r2 (cN_le k2) (okQ_push k2 k3 hP) ?_ ?_
    · have e4 : CP 0 (blW g (Wo g (sP g (P.1, zN, P.2.2))) P.1 g.2.1, zN, P.2.2) σ4 := ⟨b3, by rw [b2.2.1 _ rfl]; exact e3.2.1, by rw [b2.1 _ rfl]; exact e3.2.2⟩
      exact CP_fr e4 F48
    · refine mp_mk t4 (fun q hq => ?_) ?_
      · rw [t3 _ (by omega)]; have h := i7.2.1 q hq; rw [Nat.zero_add] at h; exact h
      · rw [t3 _ (by omega)]; exact i7.2.2
    · exact CA_fr (CA_fr (CA_fr (CA_fr r3 v2) w2) b2) F48
    · exact MA_fr (MA_fr n2 s2) t2
