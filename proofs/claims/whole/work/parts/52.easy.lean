-- who there is
variable {g : FD} {P : PD} {σ σ' : Mem}
theorem l_lt {x y : Int32} : x.toInt64 < y.toInt64 ↔ x < y := by rw [Int64.lt_iff_toInt_lt, Int32.toInt_toInt64, Int32.toInt_toInt64, Int32.lt_iff_toInt_lt]
theorem in_ok {a b c : Int32} : F_X11_in a.toInt64 b.toInt64 c.toInt64 σ = some (if a < b ∨ c < a then 0 else 1) := by
  unfold F_X11_in
  by_cases h1 : a < b
  · rw [if_pos ((lg_cmp_lt _ _).mpr (l_lt.mpr h1)), if_pos (.inl h1)]
  · rw [if_neg (fun h => h1 (l_lt.mp ((lg_cmp_lt _ _).mp h)))]
    by_cases h2 : c < a
    · rw [if_pos ((lg_cmp_gt _ _).mpr (l_lt.mpr h2)), if_pos (.inr h2)]
    · rw [if_neg (fun h => h2 (l_lt.mp ((lg_cmp_gt _ _).mp h))), if_neg (by rintro (h | h); exact h1 h; exact h2 h)]
theorem in_0 {a b c : Int32} (h : a < b ∨ c < a) : F_X11_in a.toInt64 b.toInt64 c.toInt64 σ = some 0 := by rw [in_ok, if_pos h]
theorem in_1 {a b c : Int32} (h : ¬ (a < b ∨ c < a)) : F_X11_in a.toInt64 b.toInt64 c.toInt64 σ = some 1 := by rw [in_ok, if_neg h]
theorem L_0 : (0 : Int64) = (nI 0).toInt64 := rfl
theorem L_1 : (1 : Int64) = (nI 1).toInt64 := rfl
theorem L_2 : (2 : Int64) = (nI 2).toInt64 := rfl
theorem n1_lt {n x : Nat} (hn : n < 2 ^ 30) (hx : x < 2 ^ 31) : (nI n - 1 < nI x) = (n ≤ x) := by
  apply propext
  rw [Int32.lt_iff_toInt_lt, show (1 : Int32) = nI 1 from rfl, s_toInt (by omega) (by omega), nI_toInt hx]
  omega
theorem n1_big {n : Nat} {x : Int32} (hn : n < 2 ^ 30) (h : nI n ≤ x) : nI n - 1 < x := by
  rw [Int32.le_iff_toInt_le, nI_toInt (by omega)] at h
  rw [Int32.lt_iff_toInt_lt, show (1 : Int32) = nI 1 from rfl, s_toInt (by omega) (by omega)]
  omega
theorem hasH_1 (h : CF g σ) (hg : okG g) {x : Nat} (hx : x < g.1) : F_X3_hasHorse (nI x) σ = some 1 := by
  have := hg.1
  unfold F_X3_hasHorse
  rw [if_neg (nI_pos (by omega)), h.1, if_neg (nI_ge hx (by omega))]
theorem hasR_1 (h : CF g σ) (hg : okG g) {x : Nat} (hx : x < g.2.1) : F_X3_hasRider (nI x) σ = some 1 := by
  have := hg.2.1
  unfold F_X3_hasRider
  rw [if_neg (nI_pos (by omega)), h.2.1, if_neg (nI_ge hx (by omega))]
theorem noH_1 (h : MF g σ) (hg : okG g) {x : Nat} (hx : x < g.1) : F_X11_noHorse (nI x) σ = some 0 := by
  have := hg.1
  unfold F_X11_noHorse
  rw [h.1, L_0, in_1 (by rw [nI_neg (by omega), n1_lt (by omega) (by omega), false_or]; omega)]; rfl
theorem noR_1 (h : MF g σ) (hg : okG g) {x : Nat} (hx : x < g.2.1) : F_X11_noRider (nI x) σ = some 0 := by
  have := hg.2.1
  unfold F_X11_noRider
  rw [h.2.1, L_0, in_1 (by rw [nI_neg (by omega), n1_lt (by omega) (by omega), false_or]; omega)]; rfl
theorem horse_c (hg : okG g) (a : Int32) : (∃ x, x < g.1 ∧ a = nI x) ∨ ((∀ σ, CF g σ → F_X3_hasHorse a σ = some 0) ∧ ∀ σ, MF g σ → F_X11_noHorse a σ = some 1) := by
  have := hg.1
  rcases pk_ix a (n := g.1) (by omega) with h | h | h
  · refine .inr ⟨fun σ _ => by unfold F_X3_hasHorse; rw [if_pos h], fun σ k => ?_⟩
    unfold F_X11_noHorse
    rw [k.1, L_0, in_0 (b := nI 0) (.inl h)]; rfl
  · refine .inr ⟨fun σ k => by unfold F_X3_hasHorse; rw [k.1, if_pos h]; split <;> rfl, fun σ k => ?_⟩
    unfold F_X11_noHorse
    rw [k.1, L_0, in_0 (.inr (n1_big (by omega) h))]; rfl
  · exact .inl h
theorem rider_c (hg : okG g) (a : Int32) : (∃ x, x < g.2.1 ∧ a = nI x) ∨ ((∀ σ, CF g σ → F_X3_hasRider a σ = some 0) ∧ ∀ σ, MF g σ → F_X11_noRider a σ = some 1) := by
  have := hg.2.1
  rcases pk_ix a (n := g.2.1) (by omega) with h | h | h
  · refine .inr ⟨fun σ _ => by unfold F_X3_hasRider; rw [if_pos h], fun σ k => ?_⟩
    unfold F_X11_noRider
    rw [k.2.1, L_0, in_0 (b := nI 0) (.inl h)]; rfl
  · refine .inr ⟨fun σ k => by unfold F_X3_hasRider; rw [k.2.1, if_pos h]; split <;> rfl, fun σ k => ?_⟩
    unfold F_X11_noRider
    rw [k.2.1, L_0, in_0 (.inr (n1_big (by omega) h))]; rfl
  · exact .inl h
-- every call of the reference first sets number 20
theorem fr20 (σ : Mem) (v : Int32) : Fr σ (sI σ 20 v) := Fq_sI (Fq_r σ) rfl
theorem st_write : Step_write Inv := by
  intro a σ ⟨g, P, hg, hP, c, d, e, i, j, k, l, m, z⟩
  obtain ⟨n, hn, h0, h21, hb⟩ := id j
  have hbad : ∀ (h : a < 0 ∨ nI 256 ≤ a), F_X10_write a σ = some (-2, σ) ∧ F_X11_write a σ = some (-2, sI σ 20 0) := by
    intro h
    constructor
    · unfold F_X10_write
      rcases h with h | h
      · rw [if_pos h]
      · by_cases h2 : a < 0
        · rw [if_pos h2]
        · rw [if_neg h2, if_neg]
          intro h3
          rw [Int32.le_iff_toInt_le] at h h3
          have e1 : (nI 256).toInt = 256 := by decide
          have e2 : (255 : Int32).toInt = 255 := by decide
          omega
    · unfold F_X11_write
      rw [show (0 : Int64) = (nI 0).toInt64 from rfl, show (255 : Int64) = (nI 255).toInt64 from rfl]
      simp only [stI, Option.bind_some]
      rw [in_0]; rfl
      rcases h with h | h
      · exact .inl h
      · refine .inr ?_
        rw [Int32.le_iff_toInt_le] at h
        rw [Int32.lt_iff_toInt_lt]
        have e1 : (nI 256).toInt = 256 := by decide
        have e2 : (nI 255).toInt = 255 := by decide
        omega
  rcases pk_ix a (n := 256) (by omega) with h | h | ⟨b, h1, h2⟩
  · exact ⟨-2, σ, _, (hbad (.inl h)).1, (hbad (.inl h)).2, Inv_fr ⟨g, P, hg, hP, c, d, e, i, j, k, l, m, z⟩ (fr20 σ 0)⟩
  · exact ⟨-2, σ, _, (hbad (.inr h)).1, (hbad (.inr h)).2, Inv_fr ⟨g, P, hg, hP, c, d, e, i, j, k, l, m, z⟩ (fr20 σ 0)⟩
  · subst h2
    have hin : F_X11_in ((nI b).toInt64) (0 : Int64) (255 : Int64) (sI σ 20 0) = some 1 := by
      rw [show (0 : Int64) = (nI 0).toInt64 from rfl, show (255 : Int64) = (nI 255).toInt64 from rfl, in_1]
      rw [nI_neg (by omega), nI_l2 (by omega) (by omega), false_or]; omega
    by_cases hf : n = 64
    · subst hf
      refine ⟨-4, σ, sI σ 20 0, ?_, ?_, Inv_fr ⟨g, P, hg, hP, c, d, e, i, j, k, l, m, z⟩ (fr20 σ 0)⟩
      · unfold F_X10_write F_X6_add
        rw [if_neg (nI_pos (by omega)), if_pos (show nI b ≤ (255 : Int32) from nI_le (b := 255) (by omega) (by omega)), h0, if_neg (by decide)]; rfl
      · unfold F_X11_write
        simp only [stI, Option.bind_some, hin]
        rw [if_neg (by decide), if_pos (show (sI σ 20 0).1 21 = (64 : Int32) from h21)]
    · refine ⟨nI (n + 1), sI (sA σ 0 n (nI b)) 0 (nI (n + 1)), sI (sA (sI (sI (sA σ 0 n (nI b)) 0 (nI (n + 1))) 20 0) 53 n (nI b)) 21 (nI (n + 1)), ?_, ?_, g, P, hg, hP, ?_⟩
      · unfold F_X10_write F_X6_add
        rw [if_neg (nI_pos (by omega)), if_pos (show nI b ≤ (255 : Int32) from nI_le (b := 255) (by omega) (by omega)), h0, if_pos (show nI n < (64 : Int32) from nI_lt (b := 64) (by omega) (by omega)), put_0 (by omega)]
        simp only [Option.bind_some, stI, sA_1, h0, nI_1]
        rw [if_neg (by decide)]; rfl
      · unfold F_X11_write
        have e21 : (sI (sI (sA σ 0 n (nI b)) 0 (nI (n + 1))) 20 0).1 21 = nI n := h21
        simp only [stI, Option.bind_some]
        rw [show F_X11_in ((nI b).toInt64) (0 : Int64) (255 : Int64) (sI (sI (sA σ 0 n (nI b)) 0 (nI (n + 1))) 20 0) = some 1 from hin, Option.bind_some, if_neg (by decide), e21, if_neg (by rw [show (64 : Int32) = nI 64 from rfl, nI_e (by omega) (by omega)]; exact hf), wr_53 (by omega)]
        simp only [Option.bind_some, stI, sA_1, sI_1, Nat.reduceEqDiff, if_false, if_true, h21, nI_1]
      · have f : Fq (fun n => n != 0 && n != 20 && n != 21) (fun n => n != 0 && n != 53) true σ (sI (sA (sI (sI (sA σ 0 n (nI b)) 0 (nI (n + 1))) 20 0) 53 n (nI b)) 21 (nI (n + 1))) := Fq_sI (Fq_sA (Fq_sI (Fq_sI (Fq_sA (Fq_r σ)))))
        refine ⟨CF_fr c f, MF_fr d f, CP_fr e f, MP_fr i f, ⟨n + 1, by omega, rfl, rfl, fun x hx => ?_⟩, RA_fr k f, RS_fr l f, RC_fr m f, RZ_fr z f⟩
        simp only [sI_2, sA_2, Nat.reduceEqDiff, if_false, if_true, upd_ap]
        by_cases hxn : x = n
        · rw [if_pos hxn, if_pos hxn]; exact ⟨rfl, b, h1, rfl⟩
        · rw [if_neg hxn, if_neg hxn]; exact hb x (by omega)
theorem st_wipe : Step_wipe Inv := by
  intro σ ⟨g, P, hg, hP, c, d, e, i, j, k, l, m, z⟩
  obtain ⟨n, hn, h0, h21, hb⟩ := id j
  refine ⟨nI n, sI σ 0 0, sI (sI (sI σ 0 0) 20 0) 21 0, ?_, ?_, g, P, hg, hP, ?_⟩
  · unfold F_X10_wipe; simp only [stI, Option.bind_some, h0]
  · unfold F_X11_wipe; simp only [stI, Option.bind_some, sI_1, Nat.reduceEqDiff, if_false, h21]
  · have f : Fq (fun n => n != 0 && n != 20 && n != 21) (fun n => n != 0 && n != 53) true σ (sI (sI (sI σ 0 0) 20 0) 21 0) := Fq_sI (Fq_sI (Fq_sI (Fq_r σ)))
    exact ⟨CF_fr c f, MF_fr d f, CP_fr e f, MP_fr i f, ⟨0, by omega, rfl, rfl, fun x hx => absurd hx (Nat.not_lt_zero _)⟩, RA_fr k f, RS_fr l f, RC_fr m f, RZ_fr z f⟩
theorem st_seed : Step_seed Inv := by
  intro a σ ⟨g, P, hg, hP, c, d, e, i, j, k, l, m, z⟩
  refine ⟨σ.2.2 0, sJ σ 0 a, sJ (sI (sJ σ 0 a) 20 0) 1 a, rfl, ?_, g, P, hg, hP, ?_⟩
  · unfold F_X11_seed; simp only [stI, stJ, Option.bind_some, sI_2, sJ_3, Nat.reduceEqDiff, if_false]; rw [z.1]
  · have f : Fq (fun n => n != 20) (fun n => true) false σ (sJ (sI (sJ σ 0 a) 20 0) 1 a) := Fq_sJ (Fq_sI (Fq_sJ (Fq_r σ)))
    refine ⟨CF_fr c f, MF_fr d f, CP_fr e f, MP_fr i f, RT_fr j f, RA_fr k f, RS_fr l f, RC_fr m f, rfl, z.2.1, z.2.2⟩
theorem st_unchoose : Step_unchoose Inv := by
  intro σ ⟨g, P, hg, hP, c, d, e, i, j, k, l, m, z⟩
  obtain ⟨n, hn, h5, h28, hb⟩ := id m
  refine ⟨nI n, sI σ 5 0, sI (sI (sI σ 5 0) 20 0) 28 0, ?_, ?_, g, P, hg, hP, ?_⟩
  · unfold F_X10_unchoose; simp only [stI, Option.bind_some, h5]
  · unfold F_X11_unchoose; simp only [stI, Option.bind_some, sI_1, Nat.reduceEqDiff, if_false, h28]
  · have f : Fq (fun n => n != 5 && n != 20 && n != 28) (fun n => true) true σ (sI (sI (sI σ 5 0) 20 0) 28 0) := Fq_sI (Fq_sI (Fq_sI (Fq_r σ)))
    exact ⟨CF_fr c f, MF_fr d f, CP_fr e f, MP_fr i f, RT_fr j f, RA_fr k f, RS_fr l f, ⟨0, by omega, rfl, rfl, fun x hx => absurd hx (Nat.not_lt_zero _)⟩, RZ_fr z f⟩
theorem MF_20 (h : MF g σ) (v : Int32) : MF g (sI σ 20 v) := MF_fr h (fr20 σ v)
theorem st_choose : Step_choose Inv := by
  intro a b σ hI
  obtain ⟨g, P, hg, hP, c, d, e, i, j, k, l, m, z⟩ := id hI
  have hg2 := hg.2.1
  have d2 : MF g (sI σ 20 0) := MF_20 d 0
  rcases rider_c hg a with ⟨x, hx, rfl⟩ | ⟨ha, ha2⟩
  · rcases rider_c hg b with ⟨y, hy, rfl⟩ | ⟨hb, hb2⟩
    · obtain ⟨n, hn, h5, h28, hb⟩ := id m
      by_cases hxy : x = y
      · subst hxy
        refine ⟨-2, σ, sI σ 20 0, ?_, ?_, Inv_fr hI (fr20 σ 0)⟩
        · unfold F_X10_choose; simp only [hasR_1 c hg hx, Option.bind_some]; rfl
        · unfold F_X11_choose; simp only [stI, Option.bind_some, noR_1 d2 hg hx]; rfl
      · have hne : ¬ nI x = nI y := by rw [nI_e (by omega) (by omega)]; exact hxy
        by_cases hf : n = 6
        · subst hf
          refine ⟨-4, σ, sI σ 20 0, ?_, ?_, Inv_fr hI (fr20 σ 0)⟩
          · unfold F_X10_choose F_X2_add; simp only [hasR_1 c hg hx, hasR_1 c hg hy, Option.bind_some]
            rw [if_neg (by decide), if_neg hne, h5, if_neg (by decide)]; rfl
          · unfold F_X11_choose; simp only [stI, Option.bind_some, noR_1 d2 hg hx, noR_1 d2 hg hy]
            simp only [if_true]
            rw [if_neg hne, if_pos (show (sI σ 20 0).1 28 = (6 : Int32) from h28)]
        · refine ⟨nI (n + 1), sI (sA (sA σ 10 n (nI x)) 11 n (nI y)) 5 (nI (n + 1)), sI (sA (sA (sI (sI (sA (sA σ 10 n (nI x)) 11 n (nI y)) 5 (nI (n + 1))) 20 0) 61 n (nI x)) 62 n (nI y)) 28 (nI (n + 1)), ?_, ?_, g, P, hg, hP, ?_⟩
          · unfold F_X10_choose F_X2_add; simp only [hasR_1 c hg hx, hasR_1 c hg hy, Option.bind_some]
            rw [if_neg (by decide), if_neg hne, h5, if_pos (show nI n < (6 : Int32) from nI_lt (b := 6) (by omega) (by omega)), put_10 (by omega), Option.bind_some, sA_1, h5, put_11 (by omega)]
            simp only [Option.bind_some, stI, sA_1, h5, nI_1]
            rw [if_neg (by decide), if_neg (by decide)]; rfl
          · have d3 : MF g (sI (sI (sA (sA σ 10 n (nI x)) 11 n (nI y)) 5 (nI (n + 1))) 20 0) := d2
            unfold F_X11_choose; simp only [stI, Option.bind_some, noR_1 d3 hg hx, noR_1 d3 hg hy]
            have e28 : (sI (sI (sA (sA σ 10 n (nI x)) 11 n (nI y)) 5 (nI (n + 1))) 20 0).1 28 = nI n := h28
            simp only [if_true]
            rw [if_neg hne, e28, if_neg (by rw [show (6 : Int32) = nI 6 from rfl, nI_e (by omega) (by omega)]; exact hf), wr_61 (by omega)]
            simp only [Option.bind_some, sI_1, sA_1, Nat.reduceEqDiff, if_false, h28]
            rw [wr_62 (by omega)]
            simp only [Option.bind_some, sI_1, sA_1, Nat.reduceEqDiff, if_false, if_true, h28, nI_1]
          · have f : Fq (fun n => n != 5 && n != 20 && n != 28) (fun n => n != 10 && n != 11 && n != 61 && n != 62) true σ (sI (sA (sA (sI (sI (sA (sA σ 10 n (nI x)) 11 n (nI y)) 5 (nI (n + 1))) 20 0) 61 n (nI x)) 62 n (nI y)) 28 (nI (n + 1))) := Fq_sI (Fq_sA (Fq_sA (Fq_sI (Fq_sI (Fq_sA (Fq_sA (Fq_r σ)))))))
            refine ⟨CF_fr c f, MF_fr d f, CP_fr e f, MP_fr i f, RT_fr j f, RA_fr k f, RS_fr l f, ⟨n + 1, by omega, rfl, rfl, fun q hq => ?_⟩, RZ_fr z f⟩
            simp only [sI_2, sA_2, Nat.reduceEqDiff, if_false, if_true, upd_ap]
            by_cases hqn : q = n
            · simp only [if_pos hqn]; exact ⟨x, y, by omega, by omega, rfl, rfl, rfl, rfl⟩
            · simp only [if_neg hqn]; exact hb q (by omega)
    · refine ⟨-1, σ, sI σ 20 0, ?_, ?_, Inv_fr hI (fr20 σ 0)⟩
      · unfold F_X10_choose; simp only [hasR_1 c hg hx, hb σ c, Option.bind_some]; rfl
      · unfold F_X11_choose; simp only [stI, Option.bind_some, noR_1 d2 hg hx, hb2 _ d2]; rfl
  · refine ⟨-1, σ, sI σ 20 0, ?_, ?_, Inv_fr hI (fr20 σ 0)⟩
    · unfold F_X10_choose; simp only [ha σ c, Option.bind_some]; rfl
    · unfold F_X11_choose; simp only [stI, Option.bind_some, ha2 _ d2]; rfl
