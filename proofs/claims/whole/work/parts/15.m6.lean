-- walks: X10_shown X10_shownFigures X10_rider X10_worth X10_lead X10_isTrait X10_dress X10_giveBack X10_bell X10_undo X10_bolts X10_held X10_holds X10_sure X10_hasWhenForged
def F_X10_shown (a1 : Int32) (a2 : Int32) (σ : Mem) : Option Int32 :=
  Option.bind (F_X10_at 6 (((3 : Int32) * a1) + a2) σ) fun q1 =>
  Option.bind (F_X10_at (36 + 0) (((3 : Int32) * a1) + a2) σ) fun q2 =>
  some (q1 + q2)
set_option maxHeartbeats 4000000 in
set_option maxRecDepth 20000 in
theorem ct_X10_shown {a1 : Int32} {a2 : Int32} {σ : Mem} {r : Int32} (hF : F_X10_shown a1 a2 σ = some r) : Ct yX10_shown cX10_shown 4 (some .int) 1 21 (fun ad zz => [.ref (ad 0), .int a1, .int a2]) σ (fun ad => (some (.int r))) σ := by
  refine Ct_of (by decide +kernel) (lv := fun ad zz => [(0, .ref (ad 0)), (1, .int a1), (2, .int a2)]) (fun _ _ => rfl) (fun _ _ => Nat.le_of_ble_eq_true rfl) (fun p l e s m args below meth c D T ad zz C hr hlk => ?_)
  rw [F_X10_shown] at hF
  refine V_iconst C dX10_shown_0 (v := (3 : Int32)) (by decide) ?_
  refine V_iload_n C 1 dX10_shown_1 rfl ?_
  refine V_imul C dX10_shown_2 ?_
  refine V_iload_n C 2 dX10_shown_3 rfl ?_
  refine V_iadd C dX10_shown_4 ?_
  refine V_istore_n C (lv' := [(3, .int (((3 : Int32) * a1) + a2)), (0, .ref (ad 0)), (1, .int a1), (2, .int a2)]) dX10_shown_5 rfl (by decide) rfl ?_
  refine V_aload_n C 1 dX10_shown_6 rfl ?_
  refine gf_X10_19 C dX10_shown_7 ?_
  refine gf_X10_168 C dX10_shown_10 ?_
  refine V_iload_n C 0 dX10_shown_13 rfl ?_
  obtain ⟨q1, hq1, hF⟩ := bnd hF
  refine cs_X10_142 C (ct_X10_at (by decide) hq1) rfl ⟨by decide, by decide⟩ (Nat.le_of_ble_eq_true rfl) dX10_shown_14 ⟨Nat.le_refl 0, Nat.le_refl 0⟩ ?_
  refine V_aload_n C 1 dX10_shown_17 rfl ?_
  refine gf_X10_26 C dX10_shown_18 ?_
  refine gf_X10_204 C (by decide) dX10_shown_21 ?_
  refine V_iload_n C 0 dX10_shown_24 rfl ?_
  obtain ⟨q2, hq2, hF⟩ := bnd hF
  refine cs_X10_142 C (ct_X10_at (by omega) hq2) rfl ⟨by decide, by decide⟩ (Nat.le_of_ble_eq_true rfl) dX10_shown_25 ⟨Nat.le_refl 0, Nat.le_refl 0⟩ ?_
  refine V_iadd C dX10_shown_28 ?_
  cases hF
  exact V_iret C hr hlk rfl rfl dX10_shown_29

def F_X10_shownFigures (a1 : Int32) (σ : Mem) : Option Int32 :=
  Option.bind (F_X10_shown a1 (0 : Int32) σ) fun q1 =>
  Option.bind (F_X10_shown a1 (1 : Int32) σ) fun q2 =>
  Option.bind (F_X10_shown a1 (2 : Int32) σ) fun q3 =>
  some ((((100 : Int32) * q1) + ((10 : Int32) * q2)) + q3)
set_option maxHeartbeats 4000000 in
set_option maxRecDepth 20000 in
theorem ct_X10_shownFigures {a1 : Int32} {σ : Mem} {r : Int32} (hF : F_X10_shownFigures a1 σ = some r) : Ct yX10_shownFigures cX10_shownFigures 2 (some .int) 2 44 (fun ad zz => [.ref (ad 0), .int a1]) σ (fun ad => (some (.int r))) σ := by
  refine Ct_of (by decide +kernel) (lv := fun ad zz => [(0, .ref (ad 0)), (1, .int a1)]) (fun _ _ => rfl) (fun _ _ => Nat.le_of_ble_eq_true rfl) (fun p l e s m args below meth c D T ad zz C hr hlk => ?_)
  rw [F_X10_shownFigures] at hF
  refine V_bipush C dX10_shownFigures_0 (v := (100 : Int32)) (by decide) ?_
  refine V_aload_n C 0 dX10_shownFigures_2 rfl ?_
  refine V_iload_n C 1 dX10_shownFigures_3 rfl ?_
  refine V_iconst C dX10_shownFigures_4 (v := (0 : Int32)) (by decide) ?_
  obtain ⟨q1, hq1, hF⟩ := bnd hF
  refine cs_X10_201 C (ct_X10_shown hq1) rfl ⟨by decide, by decide⟩ (Nat.le_of_ble_eq_true rfl) dX10_shownFigures_5 ⟨Nat.le_refl 0, Nat.le_refl 0⟩ ?_
  refine V_imul C dX10_shownFigures_8 ?_
  refine V_bipush C dX10_shownFigures_9 (v := (10 : Int32)) (by decide) ?_
  refine V_aload_n C 0 dX10_shownFigures_11 rfl ?_
  refine V_iload_n C 1 dX10_shownFigures_12 rfl ?_
  refine V_iconst C dX10_shownFigures_13 (v := (1 : Int32)) (by decide) ?_
  obtain ⟨q2, hq2, hF⟩ := bnd hF
  refine cs_X10_201 C (ct_X10_shown hq2) rfl ⟨by decide, by decide⟩ (Nat.le_of_ble_eq_true rfl) dX10_shownFigures_14 ⟨Nat.le_refl 0, Nat.le_refl 0⟩ ?_
  refine V_imul C dX10_shownFigures_17 ?_
  refine V_iadd C dX10_shownFigures_18 ?_
  refine V_aload_n C 0 dX10_shownFigures_19 rfl ?_
  refine V_iload_n C 1 dX10_shownFigures_20 rfl ?_
  refine V_iconst C dX10_shownFigures_21 (v := (2 : Int32)) (by decide) ?_
  obtain ⟨q3, hq3, hF⟩ := bnd hF
  refine cs_X10_201 C (ct_X10_shown hq3) rfl ⟨by decide, by decide⟩ (Nat.le_of_ble_eq_true rfl) dX10_shownFigures_22 ⟨Nat.le_refl 0, Nat.le_refl 0⟩ ?_
  refine V_iadd C dX10_shownFigures_25 ?_
  cases hF
  exact V_iret C hr hlk rfl rfl dX10_shownFigures_26

def F_X10_rider (a1 : Int32) (a2 : Int32) (σ : Mem) : Option Int32 :=
  Option.bind (F_X3_hasRider a1 σ) fun q1 =>
  if q1 = 0 then
    some (-1 : Int32)
  else
    if a2 = 0 then
      Option.bind (F_X10_asFigures 6 a1 σ) fun q2 =>
      some q2
    else if a2 = 1 then
      Option.bind (F_X10_shownFigures a1 σ) fun q3 =>
      some q3
    else if a2 = 2 then
      Option.bind (F_X10_at 7 a1 σ) fun q4 =>
      some q4
    else if a2 = 3 then
      Option.bind (F_X7_horseOf 0 a1 σ) fun q5 =>
      some q5
    else if a2 = 4 then
      Option.bind (F_X3_likedAs a1 (0 : Int32) σ) fun q6 =>
      some q6
    else some (-2 : Int32)
set_option maxHeartbeats 4000000 in
set_option maxRecDepth 20000 in
theorem ct_X10_rider {a1 : Int32} {a2 : Int32} {σ : Mem} {r : Int32} (hF : F_X10_rider a1 a2 σ = some r) : Ct yX10_rider cX10_rider 3 (some .int) 3 65 (fun ad zz => [.ref (ad 0), .int a1, .int a2]) σ (fun ad => (some (.int r))) σ := by
  refine Ct_of (by decide +kernel) (lv := fun ad zz => [(0, .ref (ad 0)), (1, .int a1), (2, .int a2)]) (fun _ _ => rfl) (fun _ _ => Nat.le_of_ble_eq_true rfl) (fun p l e s m args below meth c D T ad zz C hr hlk => ?_)
  rw [F_X10_rider] at hF
  refine V_aload_n C 0 dX10_rider_0 rfl ?_
  refine gf_X10_19 C dX10_rider_1 ?_
  refine V_iload_n C 1 dX10_rider_4 rfl ?_
  obtain ⟨q1, hq1, hF⟩ := bnd hF
  refine cs_X10_165 C (ct_X3_hasRider hq1) rfl ⟨by decide, by decide⟩ (Nat.le_of_ble_eq_true rfl) dX10_rider_5 ⟨Nat.le_refl 0, Nat.le_refl 0⟩ ?_
  refine V_if_ne C 13 dX10_rider_8 (by decide) hF (fun hF => ?_) (fun hF => ?_)
  · refine V_iload_n C 2 dX10_rider_13 rfl ?_
    by_cases hw0 : a2 = 0
    · rw [if_pos hw0] at hF
      refine V_tsIn C (v := 0) (off := 34) 48 hw0 dX10_rider_14 (by decide) (by decide) (by decide) (by decide) ?_
      refine V_aload_n C 0 dX10_rider_48 rfl ?_
      refine gf_X10_19 C dX10_rider_49 ?_
      refine gf_X10_168 C dX10_rider_52 ?_
      refine V_iload_n C 1 dX10_rider_55 rfl ?_
      obtain ⟨q2, hq2, hF⟩ := bnd hF
      refine cs_X10_149 C (ct_X10_asFigures (by decide) hq2) rfl ⟨by decide, by decide⟩ (Nat.le_of_ble_eq_true rfl) dX10_rider_56 ⟨Nat.le_refl 0, Nat.le_refl 0⟩ ?_
      cases hF
      exact V_iret C hr hlk rfl rfl dX10_rider_59
    rw [if_neg hw0] at hF
    by_cases hw1 : a2 = 1
    · rw [if_pos hw1] at hF
      refine V_tsIn C (v := 1) (off := 46) 60 hw1 dX10_rider_14 (by decide) (by decide) (by decide) (by decide) ?_
      refine V_aload_n C 0 dX10_rider_60 rfl ?_
      refine V_iload_n C 1 dX10_rider_61 rfl ?_
      obtain ⟨q3, hq3, hF⟩ := bnd hF
      refine cs_X10_171 C (ct_X10_shownFigures hq3) rfl ⟨by decide, by decide⟩ (Nat.le_of_ble_eq_true rfl) dX10_rider_62 ⟨Nat.le_refl 0, Nat.le_refl 0⟩ ?_
      cases hF
      exact V_iret C hr hlk rfl rfl dX10_rider_65
    rw [if_neg hw1] at hF
    by_cases hw2 : a2 = 2
    · rw [if_pos hw2] at hF
      refine V_tsIn C (v := 2) (off := 52) 66 hw2 dX10_rider_14 (by decide) (by decide) (by decide) (by decide) ?_
      refine V_aload_n C 0 dX10_rider_66 rfl ?_
      refine gf_X10_19 C dX10_rider_67 ?_
      refine gf_X10_174 C dX10_rider_70 ?_
      refine V_iload_n C 1 dX10_rider_73 rfl ?_
      obtain ⟨q4, hq4, hF⟩ := bnd hF
      refine cs_X10_142 C (ct_X10_at (by decide) hq4) rfl ⟨by decide, by decide⟩ (Nat.le_of_ble_eq_true rfl) dX10_rider_74 ⟨Nat.le_refl 0, Nat.le_refl 0⟩ ?_
      cases hF
      exact V_iret C hr hlk rfl rfl dX10_rider_77
    rw [if_neg hw2] at hF
    by_cases hw3 : a2 = 3
    · rw [if_pos hw3] at hF
      refine V_tsIn C (v := 3) (off := 64) 78 hw3 dX10_rider_14 (by decide) (by decide) (by decide) (by decide) ?_
      refine V_aload_n C 0 dX10_rider_78 rfl ?_
      refine gf_X10_26 C dX10_rider_79 ?_
      refine gf_X10_122 C (by decide) dX10_rider_82 ?_
      refine V_iload_n C 1 dX10_rider_85 rfl ?_
      obtain ⟨q5, hq5, hF⟩ := bnd hF
      refine cs_X10_177 C (by decide) (ct_X7_horseOf (by decide) hq5) rfl ⟨by decide, by decide⟩ (Nat.le_of_ble_eq_true rfl) dX10_rider_86 ⟨Nat.le_refl 0, Nat.le_refl 0⟩ ?_
      cases hF
      exact V_iret C hr hlk rfl rfl dX10_rider_89
    rw [if_neg hw3] at hF
    by_cases hw4 : a2 = 4
    · rw [if_pos hw4] at hF
      refine V_tsIn C (v := 4) (off := 76) 90 hw4 dX10_rider_14 (by decide) (by decide) (by decide) (by decide) ?_
      refine V_aload_n C 0 dX10_rider_90 rfl ?_
      refine gf_X10_19 C dX10_rider_91 ?_
      refine V_iload_n C 1 dX10_rider_94 rfl ?_
      refine V_iconst C dX10_rider_95 (v := (0 : Int32)) (by decide) ?_
      obtain ⟨q6, hq6, hF⟩ := bnd hF
      refine cs_X10_180 C (ct_X3_likedAs hq6) rfl ⟨by decide, by decide⟩ (Nat.le_of_ble_eq_true rfl) dX10_rider_96 ⟨Nat.le_refl 0, Nat.le_refl 0⟩ ?_
      cases hF
      exact V_iret C hr hlk rfl rfl dX10_rider_99
    rw [if_neg hw4] at hF
    refine V_tsOut C 100 (by have q0 := lv_neT hw0 (show (0 : Int32).toInt = 0 by decide); have q1 := lv_neT hw1 (show (1 : Int32).toInt = 1 by decide); have q2 := lv_neT hw2 (show (2 : Int32).toInt = 2 by decide); have q3 := lv_neT hw3 (show (3 : Int32).toInt = 3 by decide); have q4 := lv_neT hw4 (show (4 : Int32).toInt = 4 by decide); omega) dX10_rider_14 (by decide) ?_
    refine V_bipush C dX10_rider_100 (v := (-2 : Int32)) (by decide) ?_
    cases hF
    exact V_iret C hr hlk rfl rfl dX10_rider_102
  · refine V_iconst C dX10_rider_11 (v := (-1 : Int32)) (by decide) ?_
    cases hF
    exact V_iret C hr hlk rfl rfl dX10_rider_12

def F_X10_worth (a1 : Int32) (a2 : Int32) (σ : Mem) : Option (Int32 × Mem) :=
  Option.bind (F_X3_hasHorse a1 σ) fun q1 =>
  if q1 = 0 then
    some ((-1 : Int32), σ)
  else
    Option.bind (F_X3_hasRider a2 σ) fun q2 =>
    if q2 = 0 then
      some ((-1 : Int32), σ)
    else
      Option.bind (F_X9_weigh 0 σ) fun σ3 =>
      Option.bind (F_X9_of a1 a2 σ3) fun q4 =>
      some (q4, σ3)
set_option maxHeartbeats 4000000 in
set_option maxRecDepth 20000 in
theorem ct_X10_worth {a1 : Int32} {a2 : Int32} {σ : Mem} {r : (Int32 × Mem)} (hF : F_X10_worth a1 a2 σ = some r) : Ct yX10_worth cX10_worth 3 (some .int) 3 71 (fun ad zz => [.ref (ad 0), .int a1, .int a2]) σ (fun ad => (some (.int r.1))) r.2 := by
  refine Ct_of (by decide +kernel) (lv := fun ad zz => [(0, .ref (ad 0)), (1, .int a1), (2, .int a2)]) (fun _ _ => rfl) (fun _ _ => Nat.le_of_ble_eq_true rfl) (fun p l e s m args below meth c D T ad zz C hr hlk => ?_)
  rw [F_X10_worth] at hF
  refine V_aload_n C 0 dX10_worth_0 rfl ?_
  refine gf_X10_19 C dX10_worth_1 ?_
  refine V_iload_n C 1 dX10_worth_4 rfl ?_
  obtain ⟨q1, hq1, hF⟩ := bnd hF
  refine cs_X10_135 C (ct_X3_hasHorse hq1) rfl ⟨by decide, by decide⟩ (Nat.le_of_ble_eq_true rfl) dX10_worth_5 ⟨Nat.le_refl 0, Nat.le_refl 0⟩ ?_
  refine V_if_eq C 22 dX10_worth_8 (by decide) hF (fun hF => ?_) (fun hF => ?_)
  · refine V_iconst C dX10_worth_22 (v := (-1 : Int32)) (by decide) ?_
    cases hF
    exact V_iret C hr hlk rfl rfl dX10_worth_23
  · refine V_aload_n C 0 dX10_worth_11 rfl ?_
    refine gf_X10_19 C dX10_worth_12 ?_
    refine V_iload_n C 2 dX10_worth_15 rfl ?_
    obtain ⟨q2, hq2, hF⟩ := bnd hF
    refine cs_X10_165 C (ct_X3_hasRider hq2) rfl ⟨by decide, by decide⟩ (Nat.le_of_ble_eq_true rfl) dX10_worth_16 ⟨Nat.le_refl 0, Nat.le_refl 0⟩ ?_
    refine V_if_ne C 24 dX10_worth_19 (by decide) hF (fun hF => ?_) (fun hF => ?_)
    · refine V_aload_n C 0 dX10_worth_24 rfl ?_
      refine gf_X10_53 C dX10_worth_25 ?_
      refine V_aload_n C 0 dX10_worth_28 rfl ?_
      refine gf_X10_26 C dX10_worth_29 ?_
      obtain ⟨σ3, hs3, hF⟩ := bnd hF
      refine cs_X10_184 C (ct_X9_weigh (by decide) hs3) rfl ⟨by decide, by decide⟩ (Nat.le_of_ble_eq_true rfl) dX10_worth_32 ⟨Nat.le_refl 0, Nat.le_refl 0⟩ ?_
      refine V_aload_n C 0 dX10_worth_35 rfl ?_
      refine gf_X10_53 C dX10_worth_36 ?_
      refine V_iload_n C 1 dX10_worth_39 rfl ?_
      refine V_iload_n C 2 dX10_worth_40 rfl ?_
      obtain ⟨q4, hq4, hF⟩ := bnd hF
      refine cs_X10_188 C (ct_X9_of hq4) rfl ⟨by decide, by decide⟩ (Nat.le_of_ble_eq_true rfl) dX10_worth_41 ⟨Nat.le_refl 0, Nat.le_refl 0⟩ ?_
      cases hF
      exact V_iret C hr hlk rfl rfl dX10_worth_44
    · refine V_iconst C dX10_worth_22 (v := (-1 : Int32)) (by decide) ?_
      cases hF
      exact V_iret C hr hlk rfl rfl dX10_worth_23

def F_X10_lead (a1 : Int32) (a2 : Int32) (σ : Mem) : Option (Int32 × Mem) :=
  Option.bind (F_X3_hasRider a1 σ) fun q1 =>
  if q1 = 0 then
    some ((-1 : Int32), σ)
  else
    Option.bind (F_X3_hasHorse a2 σ) fun q2 =>
    if q2 = 0 then
      some ((-1 : Int32), σ)
    else
      Option.bind (F_X7_horseOf 0 a1 σ) fun q3 =>
      if q3 = (-9 : Int32) then
        Option.bind (F_X0_remember 0 σ) fun σ4 =>
        Option.bind (F_X9_weigh 0 σ4) fun σ5 =>
        Option.bind (F_X7_leadTo 0 a1 a2 σ5) fun q6 =>
        if q6.1 = 0 then
          some ((0 : Int32), q6.2)
        else
          some ((1 : Int32), q6.2)
      else
        some ((-3 : Int32), σ)
set_option maxHeartbeats 4000000 in
set_option maxRecDepth 20000 in
theorem ct_X10_lead {a1 : Int32} {a2 : Int32} {σ : Mem} {r : (Int32 × Mem)} (hF : F_X10_lead a1 a2 σ = some r) : Ct yX10_lead cX10_lead 3 (some .int) 4 104 (fun ad zz => [.ref (ad 0), .int a1, .int a2]) σ (fun ad => (some (.int r.1))) r.2 := by
  refine Ct_of (by decide +kernel) (lv := fun ad zz => [(0, .ref (ad 0)), (1, .int a1), (2, .int a2)]) (fun _ _ => rfl) (fun _ _ => Nat.le_of_ble_eq_true rfl) (fun p l e s m args below meth c D T ad zz C hr hlk => ?_)
  rw [F_X10_lead] at hF
  refine V_aload_n C 0 dX10_lead_0 rfl ?_
  refine gf_X10_19 C dX10_lead_1 ?_
  refine V_iload_n C 1 dX10_lead_4 rfl ?_
  obtain ⟨q1, hq1, hF⟩ := bnd hF
  refine cs_X10_165 C (ct_X3_hasRider hq1) rfl ⟨by decide, by decide⟩ (Nat.le_of_ble_eq_true rfl) dX10_lead_5 ⟨Nat.le_refl 0, Nat.le_refl 0⟩ ?_
  refine V_if_eq C 22 dX10_lead_8 (by decide) hF (fun hF => ?_) (fun hF => ?_)
  · refine V_iconst C dX10_lead_22 (v := (-1 : Int32)) (by decide) ?_
    cases hF
    exact V_iret C hr hlk rfl rfl dX10_lead_23
  · refine V_aload_n C 0 dX10_lead_11 rfl ?_
    refine gf_X10_19 C dX10_lead_12 ?_
    refine V_iload_n C 2 dX10_lead_15 rfl ?_
    obtain ⟨q2, hq2, hF⟩ := bnd hF
    refine cs_X10_135 C (ct_X3_hasHorse hq2) rfl ⟨by decide, by decide⟩ (Nat.le_of_ble_eq_true rfl) dX10_lead_16 ⟨Nat.le_refl 0, Nat.le_refl 0⟩ ?_
    refine V_if_ne C 24 dX10_lead_19 (by decide) hF (fun hF => ?_) (fun hF => ?_)
    · refine V_aload_n C 0 dX10_lead_24 rfl ?_
      refine gf_X10_26 C dX10_lead_25 ?_
      refine gf_X10_122 C (by decide) dX10_lead_28 ?_
      refine V_iload_n C 1 dX10_lead_31 rfl ?_
      obtain ⟨q3, hq3, hF⟩ := bnd hF
      refine cs_X10_177 C (by decide) (ct_X7_horseOf (by decide) hq3) rfl ⟨by decide, by decide⟩ (Nat.le_of_ble_eq_true rfl) dX10_lead_32 ⟨Nat.le_refl 0, Nat.le_refl 0⟩ ?_
      refine V_bipush C dX10_lead_35 (v := (-9 : Int32)) (by decide) ?_
      refine V_icmp_eq C 43 dX10_lead_37 (by decide) hF (fun hF => ?_) (fun hF => ?_)
      · refine V_aload_n C 0 dX10_lead_43 rfl ?_
        refine gf_X10_33 C dX10_lead_44 ?_
        refine V_aload_n C 0 dX10_lead_47 rfl ?_
        refine gf_X10_26 C dX10_lead_48 ?_
        obtain ⟨σ4, hs4, hF⟩ := bnd hF
        refine cs_X10_191 C (ct_X0_remember (by decide) hs4) rfl ⟨by decide, by decide⟩ (Nat.le_of_ble_eq_true rfl) dX10_lead_51 ⟨Nat.le_refl 0, Nat.le_refl 0⟩ ?_
        refine V_aload_n C 0 dX10_lead_54 rfl ?_
        refine gf_X10_53 C dX10_lead_55 ?_
        refine V_aload_n C 0 dX10_lead_58 rfl ?_
        refine gf_X10_26 C dX10_lead_59 ?_
        obtain ⟨σ5, hs5, hF⟩ := bnd hF
        refine cs_X10_184 C (ct_X9_weigh (by decide) hs5) rfl ⟨by decide, by decide⟩ (Nat.le_of_ble_eq_true rfl) dX10_lead_62 ⟨Nat.le_refl 0, Nat.le_refl 0⟩ ?_
        refine V_aload_n C 0 dX10_lead_65 rfl ?_
        refine gf_X10_26 C dX10_lead_66 ?_
        refine gf_X10_122 C (by decide) dX10_lead_69 ?_
        refine V_iload_n C 1 dX10_lead_72 rfl ?_
        refine V_iload_n C 2 dX10_lead_73 rfl ?_
        refine V_aload_n C 0 dX10_lead_74 rfl ?_
        refine gf_X10_53 C dX10_lead_75 ?_
        obtain ⟨q6, hq6, hF⟩ := bnd hF
        refine cs_X10_194 C (by decide) (ct_X7_leadTo (by decide) hq6) rfl ⟨by decide, by decide⟩ (Nat.le_of_ble_eq_true rfl) dX10_lead_78 ⟨Nat.le_refl 0, Nat.le_refl 0⟩ ?_
        refine V_if_eq C 88 dX10_lead_81 (by decide) hF (fun hF => ?_) (fun hF => ?_)
        · refine V_iconst C dX10_lead_88 (v := (0 : Int32)) (by decide) ?_
          cases hF
          exact V_iret C hr hlk rfl rfl dX10_lead_89
        · refine V_iconst C dX10_lead_84 (v := (1 : Int32)) (by decide) ?_
          refine V_goto C 89 dX10_lead_85 (by decide) ?_
          cases hF
          exact V_iret C hr hlk rfl rfl dX10_lead_89
      · refine V_bipush C dX10_lead_40 (v := (-3 : Int32)) (by decide) ?_
        cases hF
        exact V_iret C hr hlk rfl rfl dX10_lead_42
    · refine V_iconst C dX10_lead_22 (v := (-1 : Int32)) (by decide) ?_
      cases hF
      exact V_iret C hr hlk rfl rfl dX10_lead_23

def F_X10_isTrait (a1 : Int32) (σ : Mem) : Option Int32 :=
  if a1 < 0 then
    some (0 : Int32)
  else
    if (3 : Int32) ≤ a1 then
      some (0 : Int32)
    else
      some (1 : Int32)
set_option maxHeartbeats 4000000 in
set_option maxRecDepth 20000 in
theorem ct_X10_isTrait {a1 : Int32} {σ : Mem} {r : Int32} (hF : F_X10_isTrait a1 σ = some r) : Ct yX10_isTrait cX10_isTrait 1 (some .boolean) 0 0 (fun ad zz => [.int a1]) σ (fun ad => (some (.int r))) σ := by
  refine Ct_of (by decide +kernel) (lv := fun ad zz => [(0, .int a1)]) (fun _ _ => rfl) (fun _ _ => Nat.le_of_ble_eq_true rfl) (fun p l e s m args below meth c D T ad zz C hr hlk => ?_)
  rw [F_X10_isTrait] at hF
  refine V_iload_n C 0 dX10_isTrait_0 rfl ?_
  refine V_if_lt C 13 dX10_isTrait_1 (by decide) hF (fun hF => ?_) (fun hF => ?_)
  · refine V_iconst C dX10_isTrait_13 (v := (0 : Int32)) (by decide) ?_
    cases hF
    exact V_zret C hr hlk (Or.inl rfl) rfl rfl dX10_isTrait_14
  · refine V_iload_n C 0 dX10_isTrait_4 rfl ?_
    refine V_iconst C dX10_isTrait_5 (v := (3 : Int32)) (by decide) ?_
    refine V_icmp_ge C 13 dX10_isTrait_6 (by decide) hF (fun hF => ?_) (fun hF => ?_)
    · refine V_iconst C dX10_isTrait_13 (v := (0 : Int32)) (by decide) ?_
      cases hF
      exact V_zret C hr hlk (Or.inl rfl) rfl rfl dX10_isTrait_14
    · refine V_iconst C dX10_isTrait_9 (v := (1 : Int32)) (by decide) ?_
      refine V_goto C 14 dX10_isTrait_10 (by decide) ?_
      cases hF
      exact V_zret C hr hlk (Or.inr rfl) rfl rfl dX10_isTrait_14

def F_X10_dress (a1 : Int32) (a2 : Int32) (σ : Mem) : Option (Int32 × Mem) :=
  Option.bind (F_X3_hasRider a1 σ) fun q1 =>
  if q1 = 0 then
    some ((-1 : Int32), σ)
  else
    Option.bind (F_X10_isTrait a2 σ) fun q2 =>
    if q2 = 0 then
      some ((-2 : Int32), σ)
    else
      Option.bind (F_X10_shown a1 a2 σ) fun q3 =>
      if q3 < (9 : Int32) then
        Option.bind (F_X0_remember 0 σ) fun σ4 =>
        Option.bind (F_X10_at (36 + 0) (((3 : Int32) * a1) + a2) σ4) fun q5 =>
        Option.bind (F_X10_put (36 + 0) (((3 : Int32) * a1) + a2) (q5 + (1 : Int32)) σ4) fun σ6 =>
        Option.bind (stI σ6 (40 + 0) ((σ6.1 (40 + 0)) + (1 : Int32))) fun σ7 =>
        Option.bind (F_X10_shown a1 a2 σ7) fun q8 =>
        some (q8, σ7)
      else
        some ((-4 : Int32), σ)
set_option maxHeartbeats 4000000 in
set_option maxRecDepth 20000 in
theorem ct_X10_dress {a1 : Int32} {a2 : Int32} {σ : Mem} {r : (Int32 × Mem)} (hF : F_X10_dress a1 a2 σ = some r) : Ct yX10_dress cX10_dress 4 (some .int) 4 104 (fun ad zz => [.ref (ad 0), .int a1, .int a2]) σ (fun ad => (some (.int r.1))) r.2 := by
  refine Ct_of (by decide +kernel) (lv := fun ad zz => [(0, .ref (ad 0)), (1, .int a1), (2, .int a2)]) (fun _ _ => rfl) (fun _ _ => Nat.le_of_ble_eq_true rfl) (fun p l e s m args below meth c D T ad zz C hr hlk => ?_)
  rw [F_X10_dress] at hF
  refine V_aload_n C 0 dX10_dress_0 rfl ?_
  refine gf_X10_19 C dX10_dress_1 ?_
  refine V_iload_n C 1 dX10_dress_4 rfl ?_
  obtain ⟨q1, hq1, hF⟩ := bnd hF
  refine cs_X10_165 C (ct_X3_hasRider hq1) rfl ⟨by decide, by decide⟩ (Nat.le_of_ble_eq_true rfl) dX10_dress_5 ⟨Nat.le_refl 0, Nat.le_refl 0⟩ ?_
  refine V_if_ne C 13 dX10_dress_8 (by decide) hF (fun hF => ?_) (fun hF => ?_)
  · refine V_iload_n C 2 dX10_dress_13 rfl ?_
    obtain ⟨q2, hq2, hF⟩ := bnd hF
    refine cs_X10_198 C (ct_X10_isTrait hq2) rfl ⟨by decide, by decide⟩ (Nat.le_of_ble_eq_true rfl) dX10_dress_14 ⟨Nat.le_refl 0, Nat.le_refl 0⟩ ?_
    refine V_if_ne C 23 dX10_dress_17 (by decide) hF (fun hF => ?_) (fun hF => ?_)
    · refine V_aload_n C 0 dX10_dress_23 rfl ?_
      refine V_iload_n C 1 dX10_dress_24 rfl ?_
      refine V_iload_n C 2 dX10_dress_25 rfl ?_
      obtain ⟨q3, hq3, hF⟩ := bnd hF
      refine cs_X10_201 C (ct_X10_shown hq3) rfl ⟨by decide, by decide⟩ (Nat.le_of_ble_eq_true rfl) dX10_dress_26 ⟨Nat.le_refl 0, Nat.le_refl 0⟩ ?_
      refine V_bipush C dX10_dress_29 (v := (9 : Int32)) (by decide) ?_
      refine V_icmp_lt C 37 dX10_dress_31 (by decide) hF (fun hF => ?_) (fun hF => ?_)
      · refine V_aload_n C 0 dX10_dress_37 rfl ?_
        refine gf_X10_33 C dX10_dress_38 ?_
        refine V_aload_n C 0 dX10_dress_41 rfl ?_
        refine gf_X10_26 C dX10_dress_42 ?_
        obtain ⟨σ4, hs4, hF⟩ := bnd hF
        refine cs_X10_191 C (ct_X0_remember (by decide) hs4) rfl ⟨by decide, by decide⟩ (Nat.le_of_ble_eq_true rfl) dX10_dress_45 ⟨Nat.le_refl 0, Nat.le_refl 0⟩ ?_
        refine V_iconst C dX10_dress_48 (v := (3 : Int32)) (by decide) ?_
        refine V_iload_n C 1 dX10_dress_49 rfl ?_
        refine V_imul C dX10_dress_50 ?_
        refine V_iload_n C 2 dX10_dress_51 rfl ?_
        refine V_iadd C dX10_dress_52 ?_
        refine V_istore_n C (lv' := [(3, .int (((3 : Int32) * a1) + a2)), (0, .ref (ad 0)), (1, .int a1), (2, .int a2)]) dX10_dress_53 rfl (by decide) rfl ?_
        refine V_aload_n C 1 dX10_dress_54 rfl ?_
        refine gf_X10_26 C dX10_dress_55 ?_
        refine gf_X10_204 C (by decide) dX10_dress_58 ?_
        refine V_iload_n C 0 dX10_dress_61 rfl ?_
        refine V_aload_n C 1 dX10_dress_62 rfl ?_
        refine gf_X10_26 C dX10_dress_63 ?_
        refine gf_X10_204 C (by decide) dX10_dress_66 ?_
        refine V_iload_n C 0 dX10_dress_69 rfl ?_
        obtain ⟨q5, hq5, hF⟩ := bnd hF
        refine cs_X10_142 C (ct_X10_at (by omega) hq5) rfl ⟨by decide, by decide⟩ (Nat.le_of_ble_eq_true rfl) dX10_dress_70 ⟨Nat.le_refl 0, Nat.le_refl 0⟩ ?_
        refine V_iconst C dX10_dress_73 (v := (1 : Int32)) (by decide) ?_
        refine V_iadd C dX10_dress_74 ?_
        obtain ⟨σ6, hs6, hF⟩ := bnd hF
        refine cs_X10_207 C (ct_X10_put (by omega) hs6) rfl ⟨by decide, by decide⟩ (Nat.le_of_ble_eq_true rfl) dX10_dress_75 ⟨Nat.le_refl 0, Nat.le_refl 0⟩ ?_
        refine V_aload_n C 1 dX10_dress_78 rfl ?_
        refine gf_X10_26 C dX10_dress_79 ?_
        refine V_dup C dX10_dress_82 rfl ?_
        refine gf_X10_128 C (by decide) dX10_dress_83 ?_
        refine V_iconst C dX10_dress_86 (v := (1 : Int32)) (by decide) ?_
        refine V_iadd C dX10_dress_87 ?_
        obtain ⟨σ7, hs7, hF⟩ := bnd hF
        refine pf_X10_128 C (by decide) hs7 dX10_dress_88 ?_
        refine V_aload_n C 1 dX10_dress_91 rfl ?_
        refine V_iload_n C 2 dX10_dress_92 rfl ?_
        refine V_iload_n C 3 dX10_dress_93 rfl ?_
        obtain ⟨q8, hq8, hF⟩ := bnd hF
        refine cs_X10_201 C (ct_X10_shown hq8) rfl ⟨by decide, by decide⟩ (Nat.le_of_ble_eq_true rfl) dX10_dress_94 ⟨Nat.le_refl 0, Nat.le_refl 0⟩ ?_
        cases hF
        exact V_iret C hr hlk rfl rfl dX10_dress_97
      · refine V_bipush C dX10_dress_34 (v := (-4 : Int32)) (by decide) ?_
        cases hF
        exact V_iret C hr hlk rfl rfl dX10_dress_36
    · refine V_bipush C dX10_dress_20 (v := (-2 : Int32)) (by decide) ?_
      cases hF
      exact V_iret C hr hlk rfl rfl dX10_dress_22
  · refine V_iconst C dX10_dress_11 (v := (-1 : Int32)) (by decide) ?_
    cases hF
    exact V_iret C hr hlk rfl rfl dX10_dress_12

def F_X10_giveBack (a1 : Int32) (σ : Mem) : Option (Int32 × Mem) :=
  Option.bind (F_X3_hasRider a1 σ) fun q1 =>
  if q1 = 0 then
    some ((-1 : Int32), σ)
  else
    Option.bind (F_X7_horseOf 0 a1 σ) fun q2 =>
    if q2 = (-9 : Int32) then
      some ((-3 : Int32), σ)
    else
      Option.bind (F_X0_remember 0 σ) fun σ3 =>
      Option.bind (F_X7_set 0 a1 (-9 : Int32) σ3) fun σ4 =>
      some (q2, σ4)
set_option maxHeartbeats 4000000 in
set_option maxRecDepth 20000 in
theorem ct_X10_giveBack {a1 : Int32} {σ : Mem} {r : (Int32 × Mem)} (hF : F_X10_giveBack a1 σ = some r) : Ct yX10_giveBack cX10_giveBack 3 (some .int) 4 104 (fun ad zz => [.ref (ad 0), .int a1]) σ (fun ad => (some (.int r.1))) r.2 := by
  refine Ct_of (by decide +kernel) (lv := fun ad zz => [(0, .ref (ad 0)), (1, .int a1)]) (fun _ _ => rfl) (fun _ _ => Nat.le_of_ble_eq_true rfl) (fun p l e s m args below meth c D T ad zz C hr hlk => ?_)
  rw [F_X10_giveBack] at hF
  refine V_aload_n C 0 dX10_giveBack_0 rfl ?_
  refine gf_X10_19 C dX10_giveBack_1 ?_
  refine V_iload_n C 1 dX10_giveBack_4 rfl ?_
  obtain ⟨q1, hq1, hF⟩ := bnd hF
  refine cs_X10_165 C (ct_X3_hasRider hq1) rfl ⟨by decide, by decide⟩ (Nat.le_of_ble_eq_true rfl) dX10_giveBack_5 ⟨Nat.le_refl 0, Nat.le_refl 0⟩ ?_
  refine V_if_ne C 13 dX10_giveBack_8 (by decide) hF (fun hF => ?_) (fun hF => ?_)
  · refine V_aload_n C 0 dX10_giveBack_13 rfl ?_
    refine gf_X10_26 C dX10_giveBack_14 ?_
    refine gf_X10_122 C (by decide) dX10_giveBack_17 ?_
    refine V_iload_n C 1 dX10_giveBack_20 rfl ?_
    obtain ⟨q2, hq2, hF⟩ := bnd hF
    refine cs_X10_177 C (by decide) (ct_X7_horseOf (by decide) hq2) rfl ⟨by decide, by decide⟩ (Nat.le_of_ble_eq_true rfl) dX10_giveBack_21 ⟨Nat.le_refl 0, Nat.le_refl 0⟩ ?_
    refine V_istore_n C (lv' := [(2, .int q2), (0, .ref (ad 0)), (1, .int a1)]) dX10_giveBack_24 rfl (by decide) rfl ?_
    refine V_iload_n C 0 dX10_giveBack_25 rfl ?_
    refine V_bipush C dX10_giveBack_26 (v := (-9 : Int32)) (by decide) ?_
    refine V_icmp_ne C 34 dX10_giveBack_28 (by decide) hF (fun hF => ?_) (fun hF => ?_)
    · refine V_aload_n C 1 dX10_giveBack_34 rfl ?_
      refine gf_X10_33 C dX10_giveBack_35 ?_
      refine V_aload_n C 1 dX10_giveBack_38 rfl ?_
      refine gf_X10_26 C dX10_giveBack_39 ?_
      obtain ⟨σ3, hs3, hF⟩ := bnd hF
      refine cs_X10_191 C (ct_X0_remember (by decide) hs3) rfl ⟨by decide, by decide⟩ (Nat.le_of_ble_eq_true rfl) dX10_giveBack_42 ⟨Nat.le_refl 0, Nat.le_refl 0⟩ ?_
      refine V_aload_n C 1 dX10_giveBack_45 rfl ?_
      refine gf_X10_26 C dX10_giveBack_46 ?_
      refine gf_X10_122 C (by decide) dX10_giveBack_49 ?_
      refine V_iload_n C 2 dX10_giveBack_52 rfl ?_
      refine V_bipush C dX10_giveBack_53 (v := (-9 : Int32)) (by decide) ?_
      obtain ⟨σ4, hs4, hF⟩ := bnd hF
      refine cs_X10_211 C (by decide) (ct_X7_set (by decide) hs4) rfl ⟨by decide, by decide⟩ (Nat.le_of_ble_eq_true rfl) dX10_giveBack_55 ⟨Nat.le_refl 0, Nat.le_refl 0⟩ ?_
      refine V_iload_n C 0 dX10_giveBack_58 rfl ?_
      cases hF
      exact V_iret C hr hlk rfl rfl dX10_giveBack_59
    · refine V_bipush C dX10_giveBack_31 (v := (-3 : Int32)) (by decide) ?_
      cases hF
      exact V_iret C hr hlk rfl rfl dX10_giveBack_33
  · refine V_iconst C dX10_giveBack_11 (v := (-1 : Int32)) (by decide) ?_
    cases hF
    exact V_iret C hr hlk rfl rfl dX10_giveBack_12

def F_X10_bell_b37  : Nat → Int32 → Int32 → Mem → Option (Int32 × Mem)
  | 0, _, _, _ => none
  | n + 1, x1, x2, σ =>
    if (σ.1 2) ≤ x2 then
      some (x1, σ)
    else
      Option.bind (F_X7_horseOf 0 x2 σ) fun q4 =>
      if q4 = (-9 : Int32) then
        (F_X10_bell_b37 n) x1 (x2 + 1) σ
      else
        Option.bind (F_X9_enough q4 x2 σ) fun q5 =>
        if q5 = 0 then
          Option.bind (F_X7_set 0 x2 (-9 : Int32) σ) fun σ6 =>
          (F_X10_bell_b37 n) (x1 ||| ((1 : Int32) <<< (x2 &&& 31))) (x2 + 1) σ6
        else
          (F_X10_bell_b37 n) x1 (x2 + 1) σ
def F_X10_bell (σ : Mem) : Option (Int32 × Mem) :=
  Option.bind (F_X0_remember 0 σ) fun σ1 =>
  Option.bind (F_J7_fill_53178 (36 + 0) (0 : Int32) σ1) fun σ2 =>
  Option.bind (F_X9_weigh 0 σ2) fun σ3 =>
  F_X10_bell_b37 4000 (0 : Int32) (0 : Int32) σ3
set_option maxHeartbeats 4000000 in
set_option maxRecDepth 20000 in
theorem w_X10_bell_b37 {p : Program} {l : Launch} {e : Env} {s : State} {m : MethodId} {args : Array Value} {below : List Frame} {meth : Method} {c : Code} {D : va_G} {T : Nat → ClassId} {ad zz : Nat → Nat} (C : Cx p s m c cX10_bell 4 RX10 (fA ad) D T ad zz) (hr : meth.sig.returnType = (some .int)) (hlk : meth.locks = false) {r : (Int32 × Mem)}  : ∀ (n : Nat), ∀ (x1 : Int32) (x2 : Int32) (σ : Mem), F_X10_bell_b37  n x1 x2 σ = some r → V p l e { frames := 4, cells := 0, slots := 0, locals := 104 } s m args below meth c 0 0 (MQ below (qC (some (.int r.1)) r.2 D T ad) args s 0 0 (fA ad)) 4 (fA ad) D T ad σ 37 [(0, .ref (ad 0)), (1, .int x1), (2, .int x2)] [] := by
  intro n
  induction n with
  | zero =>
    intro x1 x2 σ hF
    cases (show (none : Option (Int32 × Mem)) = some r from hF)
  | succ n ih =>
    intro x1 x2 σ hF
    rw [F_X10_bell_b37] at hF
    refine V_iload_n C 2 dX10_bell_37 rfl ?_
    refine V_aload_n C 0 dX10_bell_38 rfl ?_
    refine gf_X10_19 C dX10_bell_39 ?_
    refine gf_X10_119 C dX10_bell_42 ?_
    refine V_icmp_ge C 103 dX10_bell_45 (by decide) hF (fun hF => ?_) (fun hF => ?_)
    · refine V_iload_n C 1 dX10_bell_103 rfl ?_
      cases hF
      exact V_iret C hr hlk rfl rfl dX10_bell_104
    · refine V_aload_n C 0 dX10_bell_48 rfl ?_
      refine gf_X10_26 C dX10_bell_49 ?_
      refine gf_X10_122 C (by decide) dX10_bell_52 ?_
      refine V_iload_n C 2 dX10_bell_55 rfl ?_
      obtain ⟨q4, hq4, hF⟩ := bnd hF
      refine cs_X10_177 C (by decide) (ct_X7_horseOf (by decide) hq4) rfl ⟨by decide, by decide⟩ (Nat.le_of_ble_eq_true rfl) dX10_bell_56 ⟨Nat.le_refl 0, Nat.le_refl 0⟩ ?_
      refine V_istore_n C (lv' := [(3, .int q4), (0, .ref (ad 0)), (1, .int x1), (2, .int x2)]) dX10_bell_59 rfl (by decide) rfl ?_
      refine V_iload_n C 0 dX10_bell_60 rfl ?_
      refine V_bipush C dX10_bell_61 (v := (-9 : Int32)) (by decide) ?_
      refine V_icmp_eq C 97 dX10_bell_63 (by decide) hF (fun hF => ?_) (fun hF => ?_)
      · refine V_iinc C (v := (x2 + 1)) (lv' := [(2, .int (x2 + 1)), (3, .int q4), (0, .ref (ad 0)), (1, .int x1)]) 3 dX10_bell_97 rfl rfl (by decide) rfl ?_
        refine V_goto C 37 dX10_bell_100 (by decide) ?_
        refine V_lv (ks := [2, 3, 0]) rfl ?_
        exact ih x1 (x2 + 1) σ hF
      · refine V_aload_n C 1 dX10_bell_66 rfl ?_
        refine gf_X10_53 C dX10_bell_67 ?_
        refine V_iload_n C 0 dX10_bell_70 rfl ?_
        refine V_iload_n C 3 dX10_bell_71 rfl ?_
        obtain ⟨q5, hq5, hF⟩ := bnd hF
        refine cs_X10_221 C (ct_X9_enough hq5) rfl ⟨by decide, by decide⟩ (Nat.le_of_ble_eq_true rfl) dX10_bell_72 ⟨Nat.le_refl 0, Nat.le_refl 0⟩ ?_
        refine V_if_ne C 97 dX10_bell_75 (by decide) hF (fun hF => ?_) (fun hF => ?_)
        · refine V_iinc C (v := (x2 + 1)) (lv' := [(2, .int (x2 + 1)), (3, .int q4), (0, .ref (ad 0)), (1, .int x1)]) 3 dX10_bell_97 rfl rfl (by decide) rfl ?_
          refine V_goto C 37 dX10_bell_100 (by decide) ?_
          refine V_lv (ks := [2, 3, 0]) rfl ?_
          exact ih x1 (x2 + 1) σ hF
        · refine V_aload_n C 1 dX10_bell_78 rfl ?_
          refine gf_X10_26 C dX10_bell_79 ?_
          refine gf_X10_122 C (by decide) dX10_bell_82 ?_
          refine V_iload_n C 3 dX10_bell_85 rfl ?_
          refine V_bipush C dX10_bell_86 (v := (-9 : Int32)) (by decide) ?_
          obtain ⟨σ6, hs6, hF⟩ := bnd hF
          refine cs_X10_211 C (by decide) (ct_X7_set (by decide) hs6) rfl ⟨by decide, by decide⟩ (Nat.le_of_ble_eq_true rfl) dX10_bell_88 ⟨Nat.le_refl 0, Nat.le_refl 0⟩ ?_
          refine V_iload_n C 2 dX10_bell_91 rfl ?_
          refine V_iconst C dX10_bell_92 (v := (1 : Int32)) (by decide) ?_
          refine V_iload_n C 3 dX10_bell_93 rfl ?_
          refine V_ishl C dX10_bell_94 ?_
          refine V_ior C dX10_bell_95 ?_
          refine V_istore_n C (lv' := [(1, .int (x1 ||| ((1 : Int32) <<< (x2 &&& 31)))), (3, .int q4), (0, .ref (ad 0)), (2, .int x2)]) dX10_bell_96 rfl (by decide) rfl ?_
          refine V_iinc C (v := (x2 + 1)) (lv' := [(2, .int (x2 + 1)), (1, .int (x1 ||| ((1 : Int32) <<< (x2 &&& 31)))), (3, .int q4), (0, .ref (ad 0))]) 3 dX10_bell_97 rfl rfl (by decide) rfl ?_
          refine V_goto C 37 dX10_bell_100 (by decide) ?_
          refine V_lv (ks := [3, 1, 0]) rfl ?_
          exact ih (x1 ||| ((1 : Int32) <<< (x2 &&& 31))) (x2 + 1) σ6 hF
set_option maxHeartbeats 4000000 in
set_option maxRecDepth 20000 in
theorem ct_X10_bell {σ : Mem} {r : (Int32 × Mem)} (hF : F_X10_bell σ = some r) : Ct yX10_bell cX10_bell 4 (some .int) 4 104 (fun ad zz => [.ref (ad 0)]) σ (fun ad => (some (.int r.1))) r.2 := by
  refine Ct_of (by decide +kernel) (lv := fun ad zz => [(0, .ref (ad 0))]) (fun _ _ => rfl) (fun _ _ => Nat.le_of_ble_eq_true rfl) (fun p l e s m args below meth c D T ad zz C hr hlk => ?_)
  rw [F_X10_bell] at hF
  refine V_aload_n C 0 dX10_bell_0 rfl ?_
  refine gf_X10_33 C dX10_bell_1 ?_
  refine V_aload_n C 0 dX10_bell_4 rfl ?_
  refine gf_X10_26 C dX10_bell_5 ?_
  obtain ⟨σ1, hs1, hF⟩ := bnd hF
  refine cs_X10_191 C (ct_X0_remember (by decide) hs1) rfl ⟨by decide, by decide⟩ (Nat.le_of_ble_eq_true rfl) dX10_bell_8 ⟨Nat.le_refl 0, Nat.le_refl 0⟩ ?_
  refine V_aload_n C 0 dX10_bell_11 rfl ?_
  refine gf_X10_26 C dX10_bell_12 ?_
  refine gf_X10_204 C (by decide) dX10_bell_15 ?_
  refine V_iconst C dX10_bell_18 (v := (0 : Int32)) (by decide) ?_
  obtain ⟨σ2, hs2, hF⟩ := bnd hF
  refine cs_X10_215 C (ct_J7_fill_53178 (by omega) hs2) rfl ⟨by decide, by decide⟩ (Nat.le_of_ble_eq_true rfl) dX10_bell_19 ⟨Nat.le_refl 0, Nat.le_refl 0⟩ ?_
  refine V_aload_n C 0 dX10_bell_22 rfl ?_
  refine gf_X10_53 C dX10_bell_23 ?_
  refine V_aload_n C 0 dX10_bell_26 rfl ?_
  refine gf_X10_26 C dX10_bell_27 ?_
  obtain ⟨σ3, hs3, hF⟩ := bnd hF
  refine cs_X10_184 C (ct_X9_weigh (by decide) hs3) rfl ⟨by decide, by decide⟩ (Nat.le_of_ble_eq_true rfl) dX10_bell_30 ⟨Nat.le_refl 0, Nat.le_refl 0⟩ ?_
  refine V_iconst C dX10_bell_33 (v := (0 : Int32)) (by decide) ?_
  refine V_istore_n C (lv' := [(1, .int (0 : Int32)), (0, .ref (ad 0))]) dX10_bell_34 rfl (by decide) rfl ?_
  refine V_iconst C dX10_bell_35 (v := (0 : Int32)) (by decide) ?_
  refine V_istore_n C (lv' := [(2, .int (0 : Int32)), (1, .int (0 : Int32)), (0, .ref (ad 0))]) dX10_bell_36 rfl (by decide) rfl ?_
  refine V_lv (ks := [2, 1, 0]) rfl ?_
  exact w_X10_bell_b37 C hr hlk 4000 (0 : Int32) (0 : Int32) σ3 hF

def F_X10_undo (σ : Mem) : Option (Int32 × Mem) :=
  Option.bind (F_X0_bringBack 0 σ) fun q1 =>
  if q1.1 = 0 then
    some ((-3 : Int32), q1.2)
  else
    some ((q1.2.1 4), q1.2)
set_option maxHeartbeats 4000000 in
set_option maxRecDepth 20000 in
theorem ct_X10_undo {σ : Mem} {r : (Int32 × Mem)} (hF : F_X10_undo σ = some r) : Ct yX10_undo cX10_undo 1 (some .int) 4 104 (fun ad zz => [.ref (ad 0)]) σ (fun ad => (some (.int r.1))) r.2 := by
  refine Ct_of (by decide +kernel) (lv := fun ad zz => [(0, .ref (ad 0))]) (fun _ _ => rfl) (fun _ _ => Nat.le_of_ble_eq_true rfl) (fun p l e s m args below meth c D T ad zz C hr hlk => ?_)
  rw [F_X10_undo] at hF
  refine V_aload_n C 0 dX10_undo_0 rfl ?_
  refine gf_X10_33 C dX10_undo_1 ?_
  refine V_aload_n C 0 dX10_undo_4 rfl ?_
  refine gf_X10_26 C dX10_undo_5 ?_
  obtain ⟨q1, hq1, hF⟩ := bnd hF
  refine cs_X10_225 C (ct_X0_bringBack (by decide) hq1) rfl ⟨by decide, by decide⟩ (Nat.le_of_ble_eq_true rfl) dX10_undo_8 ⟨Nat.le_refl 0, Nat.le_refl 0⟩ ?_
  refine V_if_eq C 24 dX10_undo_11 (by decide) hF (fun hF => ?_) (fun hF => ?_)
  · refine V_bipush C dX10_undo_24 (v := (-3 : Int32)) (by decide) ?_
    cases hF
    exact V_iret C hr hlk rfl rfl dX10_undo_26
  · refine V_aload_n C 0 dX10_undo_14 rfl ?_
    refine gf_X10_33 C dX10_undo_15 ?_
    refine gf_X10_110 C dX10_undo_18 ?_
    refine V_goto C 26 dX10_undo_21 (by decide) ?_
    cases hF
    exact V_iret C hr hlk rfl rfl dX10_undo_26

def F_X10_bolts (a1 : Int32) (a2 : Int32) (σ : Mem) : Option (Int32 × Mem) :=
  Option.bind (F_X3_hasRider a1 σ) fun q1 =>
  if q1 = 0 then
    some ((-1 : Int32), σ)
  else
    Option.bind (F_X3_hasHorse a2 σ) fun q2 =>
    if q2 = 0 then
      some ((-1 : Int32), σ)
    else
      Option.bind (F_X9_weigh 0 σ) fun σ3 =>
      Option.bind (F_X7_boltsWith 0 a1 a2 σ3) fun q4 =>
      if q4 = 0 then
        some ((0 : Int32), σ3)
      else
        some ((1 : Int32), σ3)
set_option maxHeartbeats 4000000 in
set_option maxRecDepth 20000 in
theorem ct_X10_bolts {a1 : Int32} {a2 : Int32} {σ : Mem} {r : (Int32 × Mem)} (hF : F_X10_bolts a1 a2 σ = some r) : Ct yX10_bolts cX10_bolts 3 (some .int) 4 94 (fun ad zz => [.ref (ad 0), .int a1, .int a2]) σ (fun ad => (some (.int r.1))) r.2 := by
  refine Ct_of (by decide +kernel) (lv := fun ad zz => [(0, .ref (ad 0)), (1, .int a1), (2, .int a2)]) (fun _ _ => rfl) (fun _ _ => Nat.le_of_ble_eq_true rfl) (fun p l e s m args below meth c D T ad zz C hr hlk => ?_)
  rw [F_X10_bolts] at hF
  refine V_aload_n C 0 dX10_bolts_0 rfl ?_
  refine gf_X10_19 C dX10_bolts_1 ?_
  refine V_iload_n C 1 dX10_bolts_4 rfl ?_
  obtain ⟨q1, hq1, hF⟩ := bnd hF
  refine cs_X10_165 C (ct_X3_hasRider hq1) rfl ⟨by decide, by decide⟩ (Nat.le_of_ble_eq_true rfl) dX10_bolts_5 ⟨Nat.le_refl 0, Nat.le_refl 0⟩ ?_
  refine V_if_eq C 22 dX10_bolts_8 (by decide) hF (fun hF => ?_) (fun hF => ?_)
  · refine V_iconst C dX10_bolts_22 (v := (-1 : Int32)) (by decide) ?_
    cases hF
    exact V_iret C hr hlk rfl rfl dX10_bolts_23
  · refine V_aload_n C 0 dX10_bolts_11 rfl ?_
    refine gf_X10_19 C dX10_bolts_12 ?_
    refine V_iload_n C 2 dX10_bolts_15 rfl ?_
    obtain ⟨q2, hq2, hF⟩ := bnd hF
    refine cs_X10_135 C (ct_X3_hasHorse hq2) rfl ⟨by decide, by decide⟩ (Nat.le_of_ble_eq_true rfl) dX10_bolts_16 ⟨Nat.le_refl 0, Nat.le_refl 0⟩ ?_
    refine V_if_ne C 24 dX10_bolts_19 (by decide) hF (fun hF => ?_) (fun hF => ?_)
    · refine V_aload_n C 0 dX10_bolts_24 rfl ?_
      refine gf_X10_53 C dX10_bolts_25 ?_
      refine V_aload_n C 0 dX10_bolts_28 rfl ?_
      refine gf_X10_26 C dX10_bolts_29 ?_
      obtain ⟨σ3, hs3, hF⟩ := bnd hF
      refine cs_X10_184 C (ct_X9_weigh (by decide) hs3) rfl ⟨by decide, by decide⟩ (Nat.le_of_ble_eq_true rfl) dX10_bolts_32 ⟨Nat.le_refl 0, Nat.le_refl 0⟩ ?_
      refine V_aload_n C 0 dX10_bolts_35 rfl ?_
      refine gf_X10_26 C dX10_bolts_36 ?_
      refine gf_X10_122 C (by decide) dX10_bolts_39 ?_
      refine V_iload_n C 1 dX10_bolts_42 rfl ?_
      refine V_iload_n C 2 dX10_bolts_43 rfl ?_
      refine V_aload_n C 0 dX10_bolts_44 rfl ?_
      refine gf_X10_53 C dX10_bolts_45 ?_
      obtain ⟨q4, hq4, hF⟩ := bnd hF
      refine cs_X10_229 C (by decide) (ct_X7_boltsWith (by decide) hq4) rfl ⟨by decide, by decide⟩ (Nat.le_of_ble_eq_true rfl) dX10_bolts_48 ⟨Nat.le_refl 0, Nat.le_refl 0⟩ ?_
      refine V_if_eq C 58 dX10_bolts_51 (by decide) hF (fun hF => ?_) (fun hF => ?_)
      · refine V_iconst C dX10_bolts_58 (v := (0 : Int32)) (by decide) ?_
        cases hF
        exact V_iret C hr hlk rfl rfl dX10_bolts_59
      · refine V_iconst C dX10_bolts_54 (v := (1 : Int32)) (by decide) ?_
        refine V_goto C 59 dX10_bolts_55 (by decide) ?_
        cases hF
        exact V_iret C hr hlk rfl rfl dX10_bolts_59
    · refine V_iconst C dX10_bolts_22 (v := (-1 : Int32)) (by decide) ?_
      cases hF
      exact V_iret C hr hlk rfl rfl dX10_bolts_23

def F_X10_held (a1 : Int32) (a2 : Int32) (σ : Mem) : Option (Int32 × Mem) :=
  Option.bind (F_X3_hasRider a1 σ) fun q1 =>
  if q1 = 0 then
    some ((-1 : Int32), σ)
  else
    Option.bind (F_X9_weigh 0 σ) fun σ2 =>
    if a2 = 0 then
      Option.bind (F_X3_allRiders σ2) fun q3 =>
      Option.bind (F_X4_holdByRiders q3 σ2) fun σ4 =>
      Option.bind (F_X7_horseOf 17 a1 σ4) fun q5 =>
      some (q5, σ4)
    else
      Option.bind (F_X4_holdByHorses σ2) fun σ6 =>
      Option.bind (F_X7_horseOf 17 a1 σ6) fun q7 =>
      some (q7, σ6)
set_option maxHeartbeats 4000000 in
set_option maxRecDepth 20000 in
theorem ct_X10_held {a1 : Int32} {a2 : Int32} {σ : Mem} {r : (Int32 × Mem)} (hF : F_X10_held a1 a2 σ = some r) : Ct yX10_held cX10_held 3 (some .int) 6 133 (fun ad zz => [.ref (ad 0), .int a1, .int a2]) σ (fun ad => (some (.int r.1))) r.2 := by
  refine Ct_of (by decide +kernel) (lv := fun ad zz => [(0, .ref (ad 0)), (1, .int a1), (2, .int a2)]) (fun _ _ => rfl) (fun _ _ => Nat.le_of_ble_eq_true rfl) (fun p l e s m args below meth c D T ad zz C hr hlk => ?_)
  rw [F_X10_held] at hF
  refine V_aload_n C 0 dX10_held_0 rfl ?_
  refine gf_X10_19 C dX10_held_1 ?_
  refine V_iload_n C 1 dX10_held_4 rfl ?_
  obtain ⟨q1, hq1, hF⟩ := bnd hF
  refine cs_X10_165 C (ct_X3_hasRider hq1) rfl ⟨by decide, by decide⟩ (Nat.le_of_ble_eq_true rfl) dX10_held_5 ⟨Nat.le_refl 0, Nat.le_refl 0⟩ ?_
  refine V_if_ne C 13 dX10_held_8 (by decide) hF (fun hF => ?_) (fun hF => ?_)
  · refine V_aload_n C 0 dX10_held_13 rfl ?_
    refine gf_X10_53 C dX10_held_14 ?_
    refine V_aload_n C 0 dX10_held_17 rfl ?_
    refine gf_X10_26 C dX10_held_18 ?_
    obtain ⟨σ2, hs2, hF⟩ := bnd hF
    refine cs_X10_184 C (ct_X9_weigh (by decide) hs2) rfl ⟨by decide, by decide⟩ (Nat.le_of_ble_eq_true rfl) dX10_held_21 ⟨Nat.le_refl 0, Nat.le_refl 0⟩ ?_
    refine V_iload_n C 2 dX10_held_24 rfl ?_
    refine V_if_eq C 38 dX10_held_25 (by decide) hF (fun hF => ?_) (fun hF => ?_)
    · refine V_aload_n C 0 dX10_held_38 rfl ?_
      refine gf_X10_62 C dX10_held_39 ?_
      refine V_aload_n C 0 dX10_held_42 rfl ?_
      refine gf_X10_19 C dX10_held_43 ?_
      obtain ⟨q3, hq3, hF⟩ := bnd hF
      refine cs_X10_235 C (ct_X3_allRiders hq3) rfl ⟨by decide, by decide⟩ (Nat.le_of_ble_eq_true rfl) dX10_held_46 ⟨Nat.le_refl 0, Nat.le_refl 0⟩ ?_
      obtain ⟨σ4, hs4, hF⟩ := bnd hF
      refine cs_X10_238 C (ct_X4_holdByRiders hs4) rfl ⟨by decide, by decide⟩ (Nat.le_of_ble_eq_true rfl) dX10_held_49 ⟨Nat.le_refl 0, Nat.le_refl 0⟩ ?_
      refine V_aload_n C 0 dX10_held_52 rfl ?_
      refine gf_X10_62 C dX10_held_53 ?_
      refine gf_X10_242 C dX10_held_56 ?_
      refine V_iload_n C 1 dX10_held_59 rfl ?_
      obtain ⟨q5, hq5, hF⟩ := bnd hF
      refine cs_X10_177 C (by decide) (ct_X7_horseOf (by decide) hq5) rfl ⟨by decide, by decide⟩ (Nat.le_of_ble_eq_true rfl) dX10_held_60 ⟨Nat.le_refl 0, Nat.le_refl 0⟩ ?_
      cases hF
      exact V_iret C hr hlk rfl rfl dX10_held_63
    · refine V_aload_n C 0 dX10_held_28 rfl ?_
      refine gf_X10_62 C dX10_held_29 ?_
      obtain ⟨σ6, hs6, hF⟩ := bnd hF
      refine cs_X10_232 C (ct_X4_holdByHorses hs6) rfl ⟨by decide, by decide⟩ (Nat.le_of_ble_eq_true rfl) dX10_held_32 ⟨Nat.le_refl 0, Nat.le_refl 0⟩ ?_
      refine V_goto C 52 dX10_held_35 (by decide) ?_
      refine V_aload_n C 0 dX10_held_52 rfl ?_
      refine gf_X10_62 C dX10_held_53 ?_
      refine gf_X10_242 C dX10_held_56 ?_
      refine V_iload_n C 1 dX10_held_59 rfl ?_
      obtain ⟨q7, hq7, hF⟩ := bnd hF
      refine cs_X10_177 C (by decide) (ct_X7_horseOf (by decide) hq7) rfl ⟨by decide, by decide⟩ (Nat.le_of_ble_eq_true rfl) dX10_held_60 ⟨Nat.le_refl 0, Nat.le_refl 0⟩ ?_
      cases hF
      exact V_iret C hr hlk rfl rfl dX10_held_63
  · refine V_iconst C dX10_held_11 (v := (-1 : Int32)) (by decide) ?_
    cases hF
    exact V_iret C hr hlk rfl rfl dX10_held_12

def F_X10_holds (σ : Mem) : Option (Int32 × Mem) :=
  Option.bind (F_X9_weigh 0 σ) fun σ1 =>
  Option.bind (F_X8_findHolding σ1) fun σ2 =>
  some ((σ2.1 6), σ2)
set_option maxHeartbeats 4000000 in
set_option maxRecDepth 20000 in
theorem ct_X10_holds {σ : Mem} {r : (Int32 × Mem)} (hF : F_X10_holds σ = some r) : Ct yX10_holds cX10_holds 1 (some .int) 6 138 (fun ad zz => [.ref (ad 0)]) σ (fun ad => (some (.int r.1))) r.2 := by
  refine Ct_of (by decide +kernel) (lv := fun ad zz => [(0, .ref (ad 0))]) (fun _ _ => rfl) (fun _ _ => Nat.le_of_ble_eq_true rfl) (fun p l e s m args below meth c D T ad zz C hr hlk => ?_)
  rw [F_X10_holds] at hF
  refine V_aload_n C 0 dX10_holds_0 rfl ?_
  refine gf_X10_53 C dX10_holds_1 ?_
  refine V_aload_n C 0 dX10_holds_4 rfl ?_
  refine gf_X10_26 C dX10_holds_5 ?_
  obtain ⟨σ1, hs1, hF⟩ := bnd hF
  refine cs_X10_184 C (ct_X9_weigh (by decide) hs1) rfl ⟨by decide, by decide⟩ (Nat.le_of_ble_eq_true rfl) dX10_holds_8 ⟨Nat.le_refl 0, Nat.le_refl 0⟩ ?_
  refine V_aload_n C 0 dX10_holds_11 rfl ?_
  refine gf_X10_69 C dX10_holds_12 ?_
  obtain ⟨σ2, hs2, hF⟩ := bnd hF
  refine cs_X10_243 C (ct_X8_findHolding hs2) rfl ⟨by decide, by decide⟩ (Nat.le_of_ble_eq_true rfl) dX10_holds_15 ⟨Nat.le_refl 0, Nat.le_refl 0⟩ ?_
  refine V_aload_n C 0 dX10_holds_18 rfl ?_
  refine gf_X10_69 C dX10_holds_19 ?_
  refine gf_X10_246 C dX10_holds_22 ?_
  cases hF
  exact V_iret C hr hlk rfl rfl dX10_holds_25

def F_X10_sure (a1 : Int32) (σ : Mem) : Option (Int32 × Mem) :=
  Option.bind (F_X3_hasRider a1 σ) fun q1 =>
  if q1 = 0 then
    some ((-1 : Int32), σ)
  else
    Option.bind (F_X9_weigh 0 σ) fun σ2 =>
    Option.bind (F_X8_findHolding σ2) fun σ3 =>
    Option.bind (F_X10_contains (σ3.1 7) a1 σ3) fun q4 =>
    if q4 = 0 then
      Option.bind (F_X7_horseOf 19 a1 σ3) fun q5 =>
      if q5 = (-9 : Int32) then
        some ((9 : Int32), σ3)
      else
        some (q5, σ3)
    else
      some ((-9 : Int32), σ3)
set_option maxHeartbeats 4000000 in
set_option maxRecDepth 20000 in
theorem ct_X10_sure {a1 : Int32} {σ : Mem} {r : (Int32 × Mem)} (hF : F_X10_sure a1 σ = some r) : Ct yX10_sure cX10_sure 3 (some .int) 6 138 (fun ad zz => [.ref (ad 0), .int a1]) σ (fun ad => (some (.int r.1))) r.2 := by
  refine Ct_of (by decide +kernel) (lv := fun ad zz => [(0, .ref (ad 0)), (1, .int a1)]) (fun _ _ => rfl) (fun _ _ => Nat.le_of_ble_eq_true rfl) (fun p l e s m args below meth c D T ad zz C hr hlk => ?_)
  rw [F_X10_sure] at hF
  refine V_aload_n C 0 dX10_sure_0 rfl ?_
  refine gf_X10_19 C dX10_sure_1 ?_
  refine V_iload_n C 1 dX10_sure_4 rfl ?_
  obtain ⟨q1, hq1, hF⟩ := bnd hF
  refine cs_X10_165 C (ct_X3_hasRider hq1) rfl ⟨by decide, by decide⟩ (Nat.le_of_ble_eq_true rfl) dX10_sure_5 ⟨Nat.le_refl 0, Nat.le_refl 0⟩ ?_
  refine V_if_ne C 13 dX10_sure_8 (by decide) hF (fun hF => ?_) (fun hF => ?_)
  · refine V_aload_n C 0 dX10_sure_13 rfl ?_
    refine gf_X10_53 C dX10_sure_14 ?_
    refine V_aload_n C 0 dX10_sure_17 rfl ?_
    refine gf_X10_26 C dX10_sure_18 ?_
    obtain ⟨σ2, hs2, hF⟩ := bnd hF
    refine cs_X10_184 C (ct_X9_weigh (by decide) hs2) rfl ⟨by decide, by decide⟩ (Nat.le_of_ble_eq_true rfl) dX10_sure_21 ⟨Nat.le_refl 0, Nat.le_refl 0⟩ ?_
    refine V_aload_n C 0 dX10_sure_24 rfl ?_
    refine gf_X10_69 C dX10_sure_25 ?_
    obtain ⟨σ3, hs3, hF⟩ := bnd hF
    refine cs_X10_243 C (ct_X8_findHolding hs3) rfl ⟨by decide, by decide⟩ (Nat.le_of_ble_eq_true rfl) dX10_sure_28 ⟨Nat.le_refl 0, Nat.le_refl 0⟩ ?_
    refine V_aload_n C 0 dX10_sure_31 rfl ?_
    refine gf_X10_69 C dX10_sure_32 ?_
    refine gf_X10_249 C dX10_sure_35 ?_
    refine V_iload_n C 1 dX10_sure_38 rfl ?_
    obtain ⟨q4, hq4, hF⟩ := bnd hF
    refine cs_X10_252 C (ct_X10_contains hq4) rfl ⟨by decide, by decide⟩ (Nat.le_of_ble_eq_true rfl) dX10_sure_39 ⟨Nat.le_refl 0, Nat.le_refl 0⟩ ?_
    refine V_if_eq C 48 dX10_sure_42 (by decide) hF (fun hF => ?_) (fun hF => ?_)
    · refine V_aload_n C 0 dX10_sure_48 rfl ?_
      refine gf_X10_69 C dX10_sure_49 ?_
      refine gf_X10_255 C dX10_sure_52 ?_
      refine V_iload_n C 1 dX10_sure_55 rfl ?_
      obtain ⟨q5, hq5, hF⟩ := bnd hF
      refine cs_X10_177 C (by decide) (ct_X7_horseOf (by decide) hq5) rfl ⟨by decide, by decide⟩ (Nat.le_of_ble_eq_true rfl) dX10_sure_56 ⟨Nat.le_refl 0, Nat.le_refl 0⟩ ?_
      refine V_istore_n C (lv' := [(2, .int q5), (0, .ref (ad 0)), (1, .int a1)]) dX10_sure_59 rfl (by decide) rfl ?_
      refine V_iload_n C 0 dX10_sure_60 rfl ?_
      refine V_bipush C dX10_sure_61 (v := (-9 : Int32)) (by decide) ?_
      refine V_icmp_ne C 71 dX10_sure_63 (by decide) hF (fun hF => ?_) (fun hF => ?_)
      · refine V_iload_n C 0 dX10_sure_71 rfl ?_
        cases hF
        exact V_iret C hr hlk rfl rfl dX10_sure_72
      · refine V_bipush C dX10_sure_66 (v := (9 : Int32)) (by decide) ?_
        refine V_goto C 72 dX10_sure_68 (by decide) ?_
        cases hF
        exact V_iret C hr hlk rfl rfl dX10_sure_72
    · refine V_bipush C dX10_sure_45 (v := (-9 : Int32)) (by decide) ?_
      cases hF
      exact V_iret C hr hlk rfl rfl dX10_sure_47
  · refine V_iconst C dX10_sure_11 (v := (-1 : Int32)) (by decide) ?_
    cases hF
    exact V_iret C hr hlk rfl rfl dX10_sure_12

def F_X10_hasWhenForged (a1 : Int32) (a2 : Int32) (a3 : Int32) (σ : Mem) : Option (Int32 × Mem) :=
  Option.bind (F_X10_shown a1 (0 : Int32) σ) fun q1 =>
  Option.bind (F_X10_shown a1 (1 : Int32) σ) fun q2 =>
  Option.bind (F_X10_shown a1 (2 : Int32) σ) fun q3 =>
  if (9 : Int32) < (q1 + (a3 / (100 : Int32))) then
    some ((0 : Int32), σ)
  else
    if (9 : Int32) < (q2 + ((a3 / (10 : Int32)) - (a3 / (10 : Int32)) / (10 : Int32) * (10 : Int32))) then
      some ((0 : Int32), σ)
    else
      if (q3 + (a3 - a3 / (10 : Int32) * (10 : Int32))) ≤ (9 : Int32) then
        Option.bind (F_X9_weighRider a1 (q1 + (a3 / (100 : Int32))) (q2 + ((a3 / (10 : Int32)) - (a3 / (10 : Int32)) / (10 : Int32) * (10 : Int32))) (q3 + (a3 - a3 / (10 : Int32) * (10 : Int32))) σ) fun σ4 =>
        Option.bind (F_X9_enough a2 a1 σ4) fun q5 =>
        if q5 = 0 then
          some ((0 : Int32), σ4)
        else
          Option.bind (F_X3_allRiders σ4) fun q6 =>
          Option.bind (F_X4_holdByRiders q6 σ4) fun σ7 =>
          Option.bind (F_X7_horseOf 17 a1 σ7) fun q8 =>
          if q8 = a2 then
            some ((1 : Int32), σ7)
          else
            some ((0 : Int32), σ7)
      else
        some ((0 : Int32), σ)
set_option maxHeartbeats 4000000 in
set_option maxRecDepth 20000 in
theorem ct_X10_hasWhenForged {a1 : Int32} {a2 : Int32} {a3 : Int32} {σ : Mem} {r : (Int32 × Mem)} (hF : F_X10_hasWhenForged a1 a2 a3 σ = some r) : Ct yX10_hasWhenForged cX10_hasWhenForged 7 (some .boolean) 5 118 (fun ad zz => [.ref (ad 0), .int a1, .int a2, .int a3]) σ (fun ad => (some (.int r.1))) r.2 := by
  refine Ct_of (by decide +kernel) (lv := fun ad zz => [(0, .ref (ad 0)), (1, .int a1), (2, .int a2), (3, .int a3)]) (fun _ _ => rfl) (fun _ _ => Nat.le_of_ble_eq_true rfl) (fun p l e s m args below meth c D T ad zz C hr hlk => ?_)
  rw [F_X10_hasWhenForged] at hF
  refine V_aload_n C 0 dX10_hasWhenForged_0 rfl ?_
  refine V_iload_n C 1 dX10_hasWhenForged_1 rfl ?_
  refine V_iconst C dX10_hasWhenForged_2 (v := (0 : Int32)) (by decide) ?_
  obtain ⟨q1, hq1, hF⟩ := bnd hF
  refine cs_X10_201 C (ct_X10_shown hq1) rfl ⟨by decide, by decide⟩ (Nat.le_of_ble_eq_true rfl) dX10_hasWhenForged_3 ⟨Nat.le_refl 0, Nat.le_refl 0⟩ ?_
  refine V_iload_n C 3 dX10_hasWhenForged_6 rfl ?_
  refine V_bipush C dX10_hasWhenForged_7 (v := (100 : Int32)) (by decide) ?_
  refine V_idivc C dX10_hasWhenForged_9 (by decide) ?_
  refine V_iadd C dX10_hasWhenForged_10 ?_
  refine V_istore C (lv' := [(4, .int (q1 + (a3 / (100 : Int32)))), (0, .ref (ad 0)), (1, .int a1), (2, .int a2), (3, .int a3)]) dX10_hasWhenForged_11 (by decide) rfl ?_
  refine V_aload_n C 1 dX10_hasWhenForged_13 rfl ?_
  refine V_iload_n C 2 dX10_hasWhenForged_14 rfl ?_
  refine V_iconst C dX10_hasWhenForged_15 (v := (1 : Int32)) (by decide) ?_
  obtain ⟨q2, hq2, hF⟩ := bnd hF
  refine cs_X10_201 C (ct_X10_shown hq2) rfl ⟨by decide, by decide⟩ (Nat.le_of_ble_eq_true rfl) dX10_hasWhenForged_16 ⟨Nat.le_refl 0, Nat.le_refl 0⟩ ?_
  refine V_iload_n C 4 dX10_hasWhenForged_19 rfl ?_
  refine V_bipush C dX10_hasWhenForged_20 (v := (10 : Int32)) (by decide) ?_
  refine V_idivc C dX10_hasWhenForged_22 (by decide) ?_
  refine V_bipush C dX10_hasWhenForged_23 (v := (10 : Int32)) (by decide) ?_
  refine V_iremc C dX10_hasWhenForged_25 (by decide) ?_
  refine V_iadd C dX10_hasWhenForged_26 ?_
  refine V_istore C (lv' := [(5, .int (q2 + ((a3 / (10 : Int32)) - (a3 / (10 : Int32)) / (10 : Int32) * (10 : Int32)))), (4, .int (q1 + (a3 / (100 : Int32)))), (0, .ref (ad 0)), (1, .int a1), (2, .int a2), (3, .int a3)]) dX10_hasWhenForged_27 (by decide) rfl ?_
  refine V_aload_n C 2 dX10_hasWhenForged_29 rfl ?_
  refine V_iload_n C 3 dX10_hasWhenForged_30 rfl ?_
  refine V_iconst C dX10_hasWhenForged_31 (v := (2 : Int32)) (by decide) ?_
  obtain ⟨q3, hq3, hF⟩ := bnd hF
  refine cs_X10_201 C (ct_X10_shown hq3) rfl ⟨by decide, by decide⟩ (Nat.le_of_ble_eq_true rfl) dX10_hasWhenForged_32 ⟨Nat.le_refl 0, Nat.le_refl 0⟩ ?_
  refine V_iload_n C 5 dX10_hasWhenForged_35 rfl ?_
  refine V_bipush C dX10_hasWhenForged_36 (v := (10 : Int32)) (by decide) ?_
  refine V_iremc C dX10_hasWhenForged_38 (by decide) ?_
  refine V_iadd C dX10_hasWhenForged_39 ?_
  refine V_istore C (lv' := [(6, .int (q3 + (a3 - a3 / (10 : Int32) * (10 : Int32)))), (5, .int (q2 + ((a3 / (10 : Int32)) - (a3 / (10 : Int32)) / (10 : Int32) * (10 : Int32)))), (4, .int (q1 + (a3 / (100 : Int32)))), (0, .ref (ad 0)), (1, .int a1), (2, .int a2), (3, .int a3)]) dX10_hasWhenForged_40 (by decide) rfl ?_
  refine V_iload C 2 dX10_hasWhenForged_42 rfl ?_
  refine V_bipush C dX10_hasWhenForged_44 (v := (9 : Int32)) (by decide) ?_
  refine V_icmp_gt C 63 dX10_hasWhenForged_46 (by decide) hF (fun hF => ?_) (fun hF => ?_)
  · refine V_iconst C dX10_hasWhenForged_63 (v := (0 : Int32)) (by decide) ?_
    cases hF
    exact V_zret C hr hlk (Or.inl rfl) rfl rfl dX10_hasWhenForged_64
  · refine V_iload C 1 dX10_hasWhenForged_49 rfl ?_
    refine V_bipush C dX10_hasWhenForged_51 (v := (9 : Int32)) (by decide) ?_
    refine V_icmp_gt C 63 dX10_hasWhenForged_53 (by decide) hF (fun hF => ?_) (fun hF => ?_)
    · refine V_iconst C dX10_hasWhenForged_63 (v := (0 : Int32)) (by decide) ?_
      cases hF
      exact V_zret C hr hlk (Or.inl rfl) rfl rfl dX10_hasWhenForged_64
    · refine V_iload C 0 dX10_hasWhenForged_56 rfl ?_
      refine V_bipush C dX10_hasWhenForged_58 (v := (9 : Int32)) (by decide) ?_
      refine V_icmp_le C 65 dX10_hasWhenForged_60 (by decide) hF (fun hF => ?_) (fun hF => ?_)
      · refine V_aload_n C 3 dX10_hasWhenForged_65 rfl ?_
        refine gf_X10_53 C dX10_hasWhenForged_66 ?_
        refine V_iload_n C 4 dX10_hasWhenForged_69 rfl ?_
        refine V_iload C 2 dX10_hasWhenForged_70 rfl ?_
        refine V_iload C 1 dX10_hasWhenForged_72 rfl ?_
        refine V_iload C 0 dX10_hasWhenForged_74 rfl ?_
        obtain ⟨σ4, hs4, hF⟩ := bnd hF
        refine cs_X10_339 C (ct_X9_weighRider hs4) rfl ⟨by decide, by decide⟩ (Nat.le_of_ble_eq_true rfl) dX10_hasWhenForged_76 ⟨Nat.le_refl 0, Nat.le_refl 0⟩ ?_
        refine V_aload_n C 3 dX10_hasWhenForged_79 rfl ?_
        refine gf_X10_53 C dX10_hasWhenForged_80 ?_
        refine V_iload_n C 5 dX10_hasWhenForged_83 rfl ?_
        refine V_iload_n C 4 dX10_hasWhenForged_84 rfl ?_
        obtain ⟨q5, hq5, hF⟩ := bnd hF
        refine cs_X10_221 C (ct_X9_enough hq5) rfl ⟨by decide, by decide⟩ (Nat.le_of_ble_eq_true rfl) dX10_hasWhenForged_85 ⟨Nat.le_refl 0, Nat.le_refl 0⟩ ?_
        refine V_if_ne C 93 dX10_hasWhenForged_88 (by decide) hF (fun hF => ?_) (fun hF => ?_)
        · refine V_aload_n C 3 dX10_hasWhenForged_93 rfl ?_
          refine gf_X10_62 C dX10_hasWhenForged_94 ?_
          refine V_aload_n C 3 dX10_hasWhenForged_97 rfl ?_
          refine gf_X10_19 C dX10_hasWhenForged_98 ?_
          obtain ⟨q6, hq6, hF⟩ := bnd hF
          refine cs_X10_235 C (ct_X3_allRiders hq6) rfl ⟨by decide, by decide⟩ (Nat.le_of_ble_eq_true rfl) dX10_hasWhenForged_101 ⟨Nat.le_refl 0, Nat.le_refl 0⟩ ?_
          obtain ⟨σ7, hs7, hF⟩ := bnd hF
          refine cs_X10_238 C (ct_X4_holdByRiders hs7) rfl ⟨by decide, by decide⟩ (Nat.le_of_ble_eq_true rfl) dX10_hasWhenForged_104 ⟨Nat.le_refl 0, Nat.le_refl 0⟩ ?_
          refine V_aload_n C 3 dX10_hasWhenForged_107 rfl ?_
          refine gf_X10_62 C dX10_hasWhenForged_108 ?_
          refine gf_X10_242 C dX10_hasWhenForged_111 ?_
          refine V_iload_n C 4 dX10_hasWhenForged_114 rfl ?_
          obtain ⟨q8, hq8, hF⟩ := bnd hF
          refine cs_X10_177 C (by decide) (ct_X7_horseOf (by decide) hq8) rfl ⟨by decide, by decide⟩ (Nat.le_of_ble_eq_true rfl) dX10_hasWhenForged_115 ⟨Nat.le_refl 0, Nat.le_refl 0⟩ ?_
          refine V_iload_n C 5 dX10_hasWhenForged_118 rfl ?_
          refine V_icmp_ne C 126 dX10_hasWhenForged_119 (by decide) hF (fun hF => ?_) (fun hF => ?_)
          · refine V_iconst C dX10_hasWhenForged_126 (v := (0 : Int32)) (by decide) ?_
            cases hF
            exact V_zret C hr hlk (Or.inl rfl) rfl rfl dX10_hasWhenForged_127
          · refine V_iconst C dX10_hasWhenForged_122 (v := (1 : Int32)) (by decide) ?_
            refine V_goto C 127 dX10_hasWhenForged_123 (by decide) ?_
            cases hF
            exact V_zret C hr hlk (Or.inr rfl) rfl rfl dX10_hasWhenForged_127
        · refine V_iconst C dX10_hasWhenForged_91 (v := (0 : Int32)) (by decide) ?_
          cases hF
          exact V_zret C hr hlk (Or.inl rfl) rfl rfl dX10_hasWhenForged_92
      · refine V_iconst C dX10_hasWhenForged_63 (v := (0 : Int32)) (by decide) ?_
        cases hF
        exact V_zret C hr hlk (Or.inl rfl) rfl rfl dX10_hasWhenForged_64
