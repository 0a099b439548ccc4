-- walks: X8_findHolding X9_points X8_pointsOfWay X8_findRace X9_weighRider X9_weigh X10_write X10_wipe X10_fault X10_slotOf X10_emptySlots X10_fair X10_boltingPairs X10_about X10_asFigures X10_horse
def F_X8_findHolding_b24  : Nat → Int32 → Int32 → Mem → Option Mem
  | 0, _, _, _ => none
  | n + 1, x1, x2, σ =>
    if x1 ≤ x2 then
      some σ
    else
      Option.bind (F_X8_setWay x2 σ) fun σ5 =>
      Option.bind (F_X8_isWay σ5) fun q6 =>
      if q6 = 0 then
        (F_X8_findHolding_b24 n) x1 (x2 + 1) σ5
      else
        Option.bind (F_X8_allEnough σ5) fun q7 =>
        if q7 = 0 then
          (F_X8_findHolding_b24 n) x1 (x2 + 1) σ5
        else
          Option.bind (F_X8_nobodyBolts σ5) fun q8 =>
          if q8 = 0 then
            (F_X8_findHolding_b24 n) x1 (x2 + 1) σ5
          else
            Option.bind (F_X8_addHolding σ5) fun σ9 =>
            (F_X8_findHolding_b24 n) x1 (x2 + 1) σ9
def F_X8_findHolding (σ : Mem) : Option Mem :=
  Option.bind (stI σ 6 (0 : Int32)) fun σ1 =>
  Option.bind (stI σ1 7 (0 : Int32)) fun σ2 =>
  Option.bind (F_X7_clear 19 σ2) fun σ3 =>
  Option.bind (F_X8_numberOfWays σ3) fun q4 =>
  F_X8_findHolding_b24 4000 q4 (0 : Int32) σ3
set_option maxHeartbeats 4000000 in
set_option maxRecDepth 20000 in
theorem w_X8_findHolding_b24 {p : Program} {l : Launch} {e : Env} {s : State} {m : MethodId} {args : Array Value} {below : List Frame} {meth : Method} {c : Code} {D : va_G} {T : Nat → ClassId} {ad zz : Nat → Nat} (C : Cx p s m c cX8_findHolding 3 RX8 (fA ad) D T ad zz) (hr : meth.sig.returnType = none) (hlk : meth.locks = false) {r : Mem}  : ∀ (n : Nat), ∀ (x1 : Int32) (x2 : Int32) (σ : Mem), F_X8_findHolding_b24  n x1 x2 σ = some r → V p l e { frames := 5, cells := 0, slots := 0, locals := 116 } s m args below meth c 0 0 (MQ below (qC none r D T ad) args s 0 0 (fA ad)) 3 (fA ad) D T ad σ 24 [(0, .ref (ad 7)), (1, .int x1), (2, .int x2)] [] := by
  intro n
  induction n with
  | zero =>
    intro x1 x2 σ hF
    cases (show (none : Option Mem) = some r from hF)
  | succ n ih =>
    intro x1 x2 σ hF
    rw [F_X8_findHolding_b24] at hF
    refine V_iload_n C 2 dX8_findHolding_24 rfl ?_
    refine V_iload_n C 1 dX8_findHolding_25 rfl ?_
    refine V_icmp_ge C 65 dX8_findHolding_26 (by decide) hF (fun hF => ?_) (fun hF => ?_)
    · cases hF
      exact V_vret C hr hlk rfl rfl dX8_findHolding_65
    · refine V_aload_n C 0 dX8_findHolding_29 rfl ?_
      refine V_iload_n C 2 dX8_findHolding_30 rfl ?_
      obtain ⟨σ5, hs5, hF⟩ := bnd hF
      refine cs_X8_43 C (ct_X8_setWay hs5) rfl ⟨by decide, by decide⟩ (Nat.le_of_ble_eq_true rfl) dX8_findHolding_31 ⟨Nat.le_refl 0, Nat.le_refl 0⟩ ?_
      refine V_aload_n C 0 dX8_findHolding_34 rfl ?_
      obtain ⟨q6, hq6, hF⟩ := bnd hF
      refine cs_X8_47 C (ct_X8_isWay hq6) rfl ⟨by decide, by decide⟩ (Nat.le_of_ble_eq_true rfl) dX8_findHolding_35 ⟨Nat.le_refl 0, Nat.le_refl 0⟩ ?_
      refine V_if_eq C 59 dX8_findHolding_38 (by decide) hF (fun hF => ?_) (fun hF => ?_)
      · refine V_iinc C (v := (x2 + 1)) (lv' := [(2, .int (x2 + 1)), (0, .ref (ad 7)), (1, .int x1)]) 2 dX8_findHolding_59 rfl rfl (by decide) rfl ?_
        refine V_goto C 24 dX8_findHolding_62 (by decide) ?_
        refine V_lv (ks := [1, 2, 0]) rfl ?_
        exact ih x1 (x2 + 1) σ5 hF
      · refine V_aload_n C 0 dX8_findHolding_41 rfl ?_
        obtain ⟨q7, hq7, hF⟩ := bnd hF
        refine cs_X8_51 C (ct_X8_allEnough hq7) rfl ⟨by decide, by decide⟩ (Nat.le_of_ble_eq_true rfl) dX8_findHolding_42 ⟨Nat.le_refl 0, Nat.le_refl 0⟩ ?_
        refine V_if_eq C 59 dX8_findHolding_45 (by decide) hF (fun hF => ?_) (fun hF => ?_)
        · refine V_iinc C (v := (x2 + 1)) (lv' := [(2, .int (x2 + 1)), (0, .ref (ad 7)), (1, .int x1)]) 2 dX8_findHolding_59 rfl rfl (by decide) rfl ?_
          refine V_goto C 24 dX8_findHolding_62 (by decide) ?_
          refine V_lv (ks := [1, 2, 0]) rfl ?_
          exact ih x1 (x2 + 1) σ5 hF
        · refine V_aload_n C 0 dX8_findHolding_48 rfl ?_
          obtain ⟨q8, hq8, hF⟩ := bnd hF
          refine cs_X8_54 C (ct_X8_nobodyBolts hq8) rfl ⟨by decide, by decide⟩ (Nat.le_of_ble_eq_true rfl) dX8_findHolding_49 ⟨Nat.le_refl 0, Nat.le_refl 0⟩ ?_
          refine V_if_eq C 59 dX8_findHolding_52 (by decide) hF (fun hF => ?_) (fun hF => ?_)
          · refine V_iinc C (v := (x2 + 1)) (lv' := [(2, .int (x2 + 1)), (0, .ref (ad 7)), (1, .int x1)]) 2 dX8_findHolding_59 rfl rfl (by decide) rfl ?_
            refine V_goto C 24 dX8_findHolding_62 (by decide) ?_
            refine V_lv (ks := [1, 2, 0]) rfl ?_
            exact ih x1 (x2 + 1) σ5 hF
          · refine V_aload_n C 0 dX8_findHolding_55 rfl ?_
            obtain ⟨σ9, hs9, hF⟩ := bnd hF
            refine cs_X8_57 C (ct_X8_addHolding hs9) rfl ⟨by decide, by decide⟩ (Nat.le_of_ble_eq_true rfl) dX8_findHolding_56 ⟨Nat.le_refl 0, Nat.le_refl 0⟩ ?_
            refine V_iinc C (v := (x2 + 1)) (lv' := [(2, .int (x2 + 1)), (0, .ref (ad 7)), (1, .int x1)]) 2 dX8_findHolding_59 rfl rfl (by decide) rfl ?_
            refine V_goto C 24 dX8_findHolding_62 (by decide) ?_
            refine V_lv (ks := [1, 2, 0]) rfl ?_
            exact ih x1 (x2 + 1) σ9 hF
set_option maxHeartbeats 4000000 in
set_option maxRecDepth 20000 in
theorem ct_X8_findHolding {σ : Mem} {r : Mem} (hF : F_X8_findHolding σ = some r) : Ct yX8_findHolding cX8_findHolding 3 none 5 116 (fun ad zz => [.ref (ad 7)]) σ (fun ad => none) r := by
  refine Ct_of (by decide +kernel) (lv := fun ad zz => [(0, .ref (ad 7))]) (fun _ _ => rfl) (fun _ _ => Nat.le_of_ble_eq_true rfl) (fun p l e s m args below meth c D T ad zz C hr hlk => ?_)
  rw [F_X8_findHolding] at hF
  refine V_aload_n C 0 dX8_findHolding_0 rfl ?_
  refine V_iconst C dX8_findHolding_1 (v := (0 : Int32)) (by decide) ?_
  obtain ⟨σ1, hs1, hF⟩ := bnd hF
  refine pf_X8_29 C hs1 dX8_findHolding_2 ?_
  refine V_aload_n C 0 dX8_findHolding_5 rfl ?_
  refine V_iconst C dX8_findHolding_6 (v := (0 : Int32)) (by decide) ?_
  obtain ⟨σ2, hs2, hF⟩ := bnd hF
  refine pf_X8_33 C hs2 dX8_findHolding_7 ?_
  refine V_aload_n C 0 dX8_findHolding_10 rfl ?_
  refine gf_X8_18 C dX8_findHolding_11 ?_
  obtain ⟨σ3, hs3, hF⟩ := bnd hF
  refine cs_X8_36 C (by decide) (ct_X7_clear (by decide) hs3) rfl ⟨by decide, by decide⟩ (Nat.le_of_ble_eq_true rfl) dX8_findHolding_14 ⟨Nat.le_refl 0, Nat.le_refl 0⟩ ?_
  refine V_aload_n C 0 dX8_findHolding_17 rfl ?_
  obtain ⟨q4, hq4, hF⟩ := bnd hF
  refine cs_X8_39 C (ct_X8_numberOfWays hq4) rfl ⟨by decide, by decide⟩ (Nat.le_of_ble_eq_true rfl) dX8_findHolding_18 ⟨Nat.le_refl 0, Nat.le_refl 0⟩ ?_
  refine V_istore_n C (lv' := [(1, .int q4), (0, .ref (ad 7))]) dX8_findHolding_21 rfl (by decide) rfl ?_
  refine V_iconst C dX8_findHolding_22 (v := (0 : Int32)) (by decide) ?_
  refine V_istore_n C (lv' := [(2, .int (0 : Int32)), (1, .int q4), (0, .ref (ad 7))]) dX8_findHolding_23 rfl (by decide) rfl ?_
  refine V_lv (ks := [2, 1, 0]) rfl ?_
  exact w_X8_findHolding_b24 C hr hlk 4000 q4 (0 : Int32) σ3 hF

def F_X9_points (a1 : Int32) (a2 : Int32) (σ : Mem) : Option Int32 :=
  Option.bind (F_X10_at 3 a1 σ) fun q1 =>
  Option.bind (F_X9_of a1 a2 σ) fun q2 =>
  some (q1 + (q2 / (10 : Int32)))
set_option maxHeartbeats 4000000 in
set_option maxRecDepth 20000 in
theorem ct_X9_points {a1 : Int32} {a2 : Int32} {σ : Mem} {r : Int32} (hF : F_X9_points a1 a2 σ = some r) : Ct yX9_points cX9_points 3 (some .int) 2 43 (fun ad zz => [.ref (ad 5), .int a1, .int a2]) σ (fun ad => (some (.int r))) σ := by
  refine Ct_of (by decide +kernel) (lv := fun ad zz => [(0, .ref (ad 5)), (1, .int a1), (2, .int a2)]) (fun _ _ => rfl) (fun _ _ => Nat.le_of_ble_eq_true rfl) (fun p l e s m args below meth c D T ad zz C hr hlk => ?_)
  rw [F_X9_points] at hF
  refine V_aload_n C 0 dX9_points_0 rfl ?_
  refine gf_X9_15 C dX9_points_1 ?_
  refine gf_X9_58 C dX9_points_4 ?_
  refine V_iload_n C 1 dX9_points_7 rfl ?_
  obtain ⟨q1, hq1, hF⟩ := bnd hF
  refine cs_X9_28 C (ct_X10_at (by decide) hq1) rfl ⟨by decide, by decide⟩ (Nat.le_of_ble_eq_true rfl) dX9_points_8 ⟨Nat.le_refl 0, Nat.le_refl 0⟩ ?_
  refine V_aload_n C 0 dX9_points_11 rfl ?_
  refine V_iload_n C 1 dX9_points_12 rfl ?_
  refine V_iload_n C 2 dX9_points_13 rfl ?_
  obtain ⟨q2, hq2, hF⟩ := bnd hF
  refine cs_X9_51 C (ct_X9_of hq2) rfl ⟨by decide, by decide⟩ (Nat.le_of_ble_eq_true rfl) dX9_points_14 ⟨Nat.le_refl 0, Nat.le_refl 0⟩ ?_
  refine V_bipush C dX9_points_17 (v := (10 : Int32)) (by decide) ?_
  refine V_idivc C dX9_points_19 (by decide) ?_
  refine V_iadd C dX9_points_20 ?_
  cases hF
  exact V_iret C hr hlk rfl rfl dX9_points_21

def F_X8_pointsOfWay_b4 (σ : Mem) : Nat → Int32 → Int32 → Option Int32
  | 0, _, _ => none
  | n + 1, x1, x2 =>
    if (σ.1 2) ≤ x2 then
      some x1
    else
      Option.bind (F_X7_horseOf 18 x2 σ) fun q1 =>
      if q1 = (-9 : Int32) then
        (F_X8_pointsOfWay_b4 σ n) x1 (x2 + 1)
      else
        Option.bind (F_X9_points q1 x2 σ) fun q2 =>
        (F_X8_pointsOfWay_b4 σ n) (x1 + q2) (x2 + 1)
def F_X8_pointsOfWay (σ : Mem) : Option Int32 :=
  F_X8_pointsOfWay_b4 σ 4000 (0 : Int32) (0 : Int32)
set_option maxHeartbeats 4000000 in
set_option maxRecDepth 20000 in
theorem w_X8_pointsOfWay_b4 {p : Program} {l : Launch} {e : Env} {s : State} {m : MethodId} {args : Array Value} {below : List Frame} {meth : Method} {c : Code} {D : va_G} {T : Nat → ClassId} {ad zz : Nat → Nat} (C : Cx p s m c cX8_pointsOfWay 4 RX8 (fA ad) D T ad zz) (hr : meth.sig.returnType = (some .int)) (hlk : meth.locks = false) {σ : Mem} {r : Int32}  : ∀ (n : Nat), ∀ (x1 : Int32) (x2 : Int32), F_X8_pointsOfWay_b4 σ n x1 x2 = some r → V p l e { frames := 3, cells := 0, slots := 0, locals := 65 } s m args below meth c 0 0 (MQ below (qC (some (.int r)) σ D T ad) args s 0 0 (fA ad)) 4 (fA ad) D T ad σ 4 [(0, .ref (ad 7)), (1, .int x1), (2, .int x2)] [] := by
  intro n
  induction n with
  | zero =>
    intro x1 x2 hF
    cases (show (none : Option Int32) = some r from hF)
  | succ n ih =>
    intro x1 x2 hF
    rw [F_X8_pointsOfWay_b4] at hF
    refine V_iload_n C 2 dX8_pointsOfWay_4 rfl ?_
    refine V_aload_n C 0 dX8_pointsOfWay_5 rfl ?_
    refine gf_X8_21 C dX8_pointsOfWay_6 ?_
    refine gf_X8_64 C dX8_pointsOfWay_9 ?_
    refine V_icmp_ge C 48 dX8_pointsOfWay_12 (by decide) hF (fun hF => ?_) (fun hF => ?_)
    · refine V_iload_n C 1 dX8_pointsOfWay_48 rfl ?_
      cases hF
      exact V_iret C hr hlk rfl rfl dX8_pointsOfWay_49
    · refine V_aload_n C 0 dX8_pointsOfWay_15 rfl ?_
      refine gf_X8_12 C dX8_pointsOfWay_16 ?_
      refine V_iload_n C 2 dX8_pointsOfWay_19 rfl ?_
      obtain ⟨q1, hq1, hF⟩ := bnd hF
      refine cs_X8_69 C (by decide) (ct_X7_horseOf (by decide) hq1) rfl ⟨by decide, by decide⟩ (Nat.le_of_ble_eq_true rfl) dX8_pointsOfWay_20 ⟨Nat.le_refl 0, Nat.le_refl 0⟩ ?_
      refine V_istore_n C (lv' := [(3, .int q1), (0, .ref (ad 7)), (1, .int x1), (2, .int x2)]) dX8_pointsOfWay_23 rfl (by decide) rfl ?_
      refine V_iload_n C 0 dX8_pointsOfWay_24 rfl ?_
      refine V_bipush C dX8_pointsOfWay_25 (v := (-9 : Int32)) (by decide) ?_
      refine V_icmp_eq C 42 dX8_pointsOfWay_27 (by decide) hF (fun hF => ?_) (fun hF => ?_)
      · refine V_iinc C (v := (x2 + 1)) (lv' := [(2, .int (x2 + 1)), (3, .int q1), (0, .ref (ad 7)), (1, .int x1)]) 3 dX8_pointsOfWay_42 rfl rfl (by decide) rfl ?_
        refine V_goto C 4 dX8_pointsOfWay_45 (by decide) ?_
        refine V_lv (ks := [2, 3, 0]) rfl ?_
        exact ih x1 (x2 + 1) hF
      · refine V_iload_n C 2 dX8_pointsOfWay_30 rfl ?_
        refine V_aload_n C 1 dX8_pointsOfWay_31 rfl ?_
        refine gf_X8_25 C dX8_pointsOfWay_32 ?_
        refine V_iload_n C 0 dX8_pointsOfWay_35 rfl ?_
        refine V_iload_n C 3 dX8_pointsOfWay_36 rfl ?_
        obtain ⟨q2, hq2, hF⟩ := bnd hF
        refine cs_X8_113 C (ct_X9_points hq2) rfl ⟨by decide, by decide⟩ (Nat.le_of_ble_eq_true rfl) dX8_pointsOfWay_37 ⟨Nat.le_refl 0, Nat.le_refl 0⟩ ?_
        refine V_iadd C dX8_pointsOfWay_40 ?_
        refine V_istore_n C (lv' := [(1, .int (x1 + q2)), (3, .int q1), (0, .ref (ad 7)), (2, .int x2)]) dX8_pointsOfWay_41 rfl (by decide) rfl ?_
        refine V_iinc C (v := (x2 + 1)) (lv' := [(2, .int (x2 + 1)), (1, .int (x1 + q2)), (3, .int q1), (0, .ref (ad 7))]) 3 dX8_pointsOfWay_42 rfl rfl (by decide) rfl ?_
        refine V_goto C 4 dX8_pointsOfWay_45 (by decide) ?_
        refine V_lv (ks := [3, 1, 0]) rfl ?_
        exact ih (x1 + q2) (x2 + 1) hF
set_option maxHeartbeats 4000000 in
set_option maxRecDepth 20000 in
theorem ct_X8_pointsOfWay {σ : Mem} {r : Int32} (hF : F_X8_pointsOfWay σ = some r) : Ct yX8_pointsOfWay cX8_pointsOfWay 4 (some .int) 3 65 (fun ad zz => [.ref (ad 7)]) σ (fun ad => (some (.int r))) σ := by
  refine Ct_of (by decide +kernel) (lv := fun ad zz => [(0, .ref (ad 7))]) (fun _ _ => rfl) (fun _ _ => Nat.le_of_ble_eq_true rfl) (fun p l e s m args below meth c D T ad zz C hr hlk => ?_)
  rw [F_X8_pointsOfWay] at hF
  refine V_iconst C dX8_pointsOfWay_0 (v := (0 : Int32)) (by decide) ?_
  refine V_istore_n C (lv' := [(1, .int (0 : Int32)), (0, .ref (ad 7))]) dX8_pointsOfWay_1 rfl (by decide) rfl ?_
  refine V_iconst C dX8_pointsOfWay_2 (v := (0 : Int32)) (by decide) ?_
  refine V_istore_n C (lv' := [(2, .int (0 : Int32)), (1, .int (0 : Int32)), (0, .ref (ad 7))]) dX8_pointsOfWay_3 rfl (by decide) rfl ?_
  refine V_lv (ks := [2, 1, 0]) rfl ?_
  exact w_X8_pointsOfWay_b4 C hr hlk 4000 (0 : Int32) (0 : Int32) hF

def F_X8_findRace_b20  : Nat → Int32 → Int32 → Mem → Option Mem
  | 0, _, _, _ => none
  | n + 1, x1, x2, σ =>
    if x1 ≤ x2 then
      some σ
    else
      Option.bind (F_X8_setWay x2 σ) fun σ4 =>
      Option.bind (F_X8_isWay σ4) fun q5 =>
      if q5 = 0 then
        if (-9 : Int32) ≤ (σ4.1 8) then
          (F_X8_findRace_b20 n) x1 (x2 + 1) σ4
        else
          Option.bind (stI σ4 8 (-9 : Int32)) fun σ6 =>
          Option.bind (F_X7_copyFrom 19 18 σ6) fun σ7 =>
          (F_X8_findRace_b20 n) x1 (x2 + 1) σ7
      else
        Option.bind (F_X8_pointsOfWay σ4) fun q8 =>
        if q8 ≤ (σ4.1 8) then
          (F_X8_findRace_b20 n) x1 (x2 + 1) σ4
        else
          Option.bind (stI σ4 8 q8) fun σ9 =>
          Option.bind (F_X7_copyFrom 19 18 σ9) fun σ10 =>
          (F_X8_findRace_b20 n) x1 (x2 + 1) σ10
def F_X8_findRace (σ : Mem) : Option Mem :=
  Option.bind (stI σ 8 (-9 : Int32)) fun σ1 =>
  Option.bind (F_X7_clear 19 σ1) fun σ2 =>
  Option.bind (F_X8_numberOfWays σ2) fun q3 =>
  F_X8_findRace_b20 4000 q3 (0 : Int32) σ2
set_option maxHeartbeats 4000000 in
set_option maxRecDepth 20000 in
theorem w_X8_findRace_b20 {p : Program} {l : Launch} {e : Env} {s : State} {m : MethodId} {args : Array Value} {below : List Frame} {meth : Method} {c : Code} {D : va_G} {T : Nat → ClassId} {ad zz : Nat → Nat} (C : Cx p s m c cX8_findRace 4 RX8 (fA ad) D T ad zz) (hr : meth.sig.returnType = none) (hlk : meth.locks = false) {r : Mem}  : ∀ (n : Nat), ∀ (x1 : Int32) (x2 : Int32) (σ : Mem), F_X8_findRace_b20  n x1 x2 σ = some r → V p l e { frames := 4, cells := 0, slots := 0, locals := 88 } s m args below meth c 0 0 (MQ below (qC none r D T ad) args s 0 0 (fA ad)) 4 (fA ad) D T ad σ 20 [(0, .ref (ad 7)), (1, .int x1), (2, .int x2)] [] := by
  intro n
  induction n with
  | zero =>
    intro x1 x2 σ hF
    cases (show (none : Option Mem) = some r from hF)
  | succ n ih =>
    intro x1 x2 σ hF
    rw [F_X8_findRace_b20] at hF
    refine V_iload_n C 2 dX8_findRace_20 rfl ?_
    refine V_iload_n C 1 dX8_findRace_21 rfl ?_
    refine V_icmp_ge C 77 dX8_findRace_22 (by decide) hF (fun hF => ?_) (fun hF => ?_)
    · cases hF
      exact V_vret C hr hlk rfl rfl dX8_findRace_77
    · refine V_aload_n C 0 dX8_findRace_25 rfl ?_
      refine V_iload_n C 2 dX8_findRace_26 rfl ?_
      obtain ⟨σ4, hs4, hF⟩ := bnd hF
      refine cs_X8_43 C (ct_X8_setWay hs4) rfl ⟨by decide, by decide⟩ (Nat.le_of_ble_eq_true rfl) dX8_findRace_27 ⟨Nat.le_refl 0, Nat.le_refl 0⟩ ?_
      refine V_aload_n C 0 dX8_findRace_30 rfl ?_
      obtain ⟨q5, hq5, hF⟩ := bnd hF
      refine cs_X8_47 C (ct_X8_isWay hq5) rfl ⟨by decide, by decide⟩ (Nat.le_of_ble_eq_true rfl) dX8_findRace_31 ⟨Nat.le_refl 0, Nat.le_refl 0⟩ ?_
      refine V_if_eq C 44 dX8_findRace_34 (by decide) hF (fun hF => ?_) (fun hF => ?_)
      · refine V_bipush C dX8_findRace_44 (v := (-9 : Int32)) (by decide) ?_
        refine V_istore_n C (lv' := [(3, .int (-9 : Int32)), (0, .ref (ad 7)), (1, .int x1), (2, .int x2)]) dX8_findRace_46 rfl (by decide) rfl ?_
        refine V_iload_n C 0 dX8_findRace_47 rfl ?_
        refine V_aload_n C 1 dX8_findRace_48 rfl ?_
        refine gf_X8_73 C dX8_findRace_49 ?_
        refine V_icmp_le C 71 dX8_findRace_52 (by decide) hF (fun hF => ?_) (fun hF => ?_)
        · refine V_iinc C (v := (x2 + 1)) (lv' := [(2, .int (x2 + 1)), (3, .int (-9 : Int32)), (0, .ref (ad 7)), (1, .int x1)]) 3 dX8_findRace_71 rfl rfl (by decide) rfl ?_
          refine V_goto C 20 dX8_findRace_74 (by decide) ?_
          refine V_lv (ks := [2, 3, 0]) rfl ?_
          exact ih x1 (x2 + 1) σ4 hF
        · refine V_aload_n C 1 dX8_findRace_55 rfl ?_
          refine V_iload_n C 0 dX8_findRace_56 rfl ?_
          obtain ⟨σ6, hs6, hF⟩ := bnd hF
          refine pf_X8_73 C hs6 dX8_findRace_57 ?_
          refine V_aload_n C 1 dX8_findRace_60 rfl ?_
          refine gf_X8_18 C dX8_findRace_61 ?_
          refine V_aload_n C 1 dX8_findRace_64 rfl ?_
          refine gf_X8_12 C dX8_findRace_65 ?_
          obtain ⟨σ7, hs7, hF⟩ := bnd hF
          refine cs_X8_60 C (by decide) (ct_X7_copyFrom (by decide) (by decide) hs7) rfl ⟨by decide, by decide⟩ (Nat.le_of_ble_eq_true rfl) dX8_findRace_68 ⟨Nat.le_refl 0, Nat.le_refl 0⟩ ?_
          refine V_iinc C (v := (x2 + 1)) (lv' := [(2, .int (x2 + 1)), (3, .int (-9 : Int32)), (0, .ref (ad 7)), (1, .int x1)]) 3 dX8_findRace_71 rfl rfl (by decide) rfl ?_
          refine V_goto C 20 dX8_findRace_74 (by decide) ?_
          refine V_lv (ks := [2, 3, 0]) rfl ?_
          exact ih x1 (x2 + 1) σ7 hF
      · refine V_aload_n C 0 dX8_findRace_37 rfl ?_
        obtain ⟨q8, hq8, hF⟩ := bnd hF
        refine cs_X8_76 C (ct_X8_pointsOfWay hq8) rfl ⟨by decide, by decide⟩ (Nat.le_of_ble_eq_true rfl) dX8_findRace_38 ⟨Nat.le_refl 0, Nat.le_refl 0⟩ ?_
        refine V_goto C 46 dX8_findRace_41 (by decide) ?_
        refine V_istore_n C (lv' := [(3, .int q8), (0, .ref (ad 7)), (1, .int x1), (2, .int x2)]) dX8_findRace_46 rfl (by decide) rfl ?_
        refine V_iload_n C 0 dX8_findRace_47 rfl ?_
        refine V_aload_n C 1 dX8_findRace_48 rfl ?_
        refine gf_X8_73 C dX8_findRace_49 ?_
        refine V_icmp_le C 71 dX8_findRace_52 (by decide) hF (fun hF => ?_) (fun hF => ?_)
        · refine V_iinc C (v := (x2 + 1)) (lv' := [(2, .int (x2 + 1)), (3, .int q8), (0, .ref (ad 7)), (1, .int x1)]) 3 dX8_findRace_71 rfl rfl (by decide) rfl ?_
          refine V_goto C 20 dX8_findRace_74 (by decide) ?_
          refine V_lv (ks := [2, 3, 0]) rfl ?_
          exact ih x1 (x2 + 1) σ4 hF
        · refine V_aload_n C 1 dX8_findRace_55 rfl ?_
          refine V_iload_n C 0 dX8_findRace_56 rfl ?_
          obtain ⟨σ9, hs9, hF⟩ := bnd hF
          refine pf_X8_73 C hs9 dX8_findRace_57 ?_
          refine V_aload_n C 1 dX8_findRace_60 rfl ?_
          refine gf_X8_18 C dX8_findRace_61 ?_
          refine V_aload_n C 1 dX8_findRace_64 rfl ?_
          refine gf_X8_12 C dX8_findRace_65 ?_
          obtain ⟨σ10, hs10, hF⟩ := bnd hF
          refine cs_X8_60 C (by decide) (ct_X7_copyFrom (by decide) (by decide) hs10) rfl ⟨by decide, by decide⟩ (Nat.le_of_ble_eq_true rfl) dX8_findRace_68 ⟨Nat.le_refl 0, Nat.le_refl 0⟩ ?_
          refine V_iinc C (v := (x2 + 1)) (lv' := [(2, .int (x2 + 1)), (3, .int q8), (0, .ref (ad 7)), (1, .int x1)]) 3 dX8_findRace_71 rfl rfl (by decide) rfl ?_
          refine V_goto C 20 dX8_findRace_74 (by decide) ?_
          refine V_lv (ks := [2, 3, 0]) rfl ?_
          exact ih x1 (x2 + 1) σ10 hF
set_option maxHeartbeats 4000000 in
set_option maxRecDepth 20000 in
theorem ct_X8_findRace {σ : Mem} {r : Mem} (hF : F_X8_findRace σ = some r) : Ct yX8_findRace cX8_findRace 4 none 4 88 (fun ad zz => [.ref (ad 7)]) σ (fun ad => none) r := by
  refine Ct_of (by decide +kernel) (lv := fun ad zz => [(0, .ref (ad 7))]) (fun _ _ => rfl) (fun _ _ => Nat.le_of_ble_eq_true rfl) (fun p l e s m args below meth c D T ad zz C hr hlk => ?_)
  rw [F_X8_findRace] at hF
  refine V_aload_n C 0 dX8_findRace_0 rfl ?_
  refine V_bipush C dX8_findRace_1 (v := (-9 : Int32)) (by decide) ?_
  obtain ⟨σ1, hs1, hF⟩ := bnd hF
  refine pf_X8_73 C hs1 dX8_findRace_3 ?_
  refine V_aload_n C 0 dX8_findRace_6 rfl ?_
  refine gf_X8_18 C dX8_findRace_7 ?_
  obtain ⟨σ2, hs2, hF⟩ := bnd hF
  refine cs_X8_36 C (by decide) (ct_X7_clear (by decide) hs2) rfl ⟨by decide, by decide⟩ (Nat.le_of_ble_eq_true rfl) dX8_findRace_10 ⟨Nat.le_refl 0, Nat.le_refl 0⟩ ?_
  refine V_aload_n C 0 dX8_findRace_13 rfl ?_
  obtain ⟨q3, hq3, hF⟩ := bnd hF
  refine cs_X8_39 C (ct_X8_numberOfWays hq3) rfl ⟨by decide, by decide⟩ (Nat.le_of_ble_eq_true rfl) dX8_findRace_14 ⟨Nat.le_refl 0, Nat.le_refl 0⟩ ?_
  refine V_istore_n C (lv' := [(1, .int q3), (0, .ref (ad 7))]) dX8_findRace_17 rfl (by decide) rfl ?_
  refine V_iconst C dX8_findRace_18 (v := (0 : Int32)) (by decide) ?_
  refine V_istore_n C (lv' := [(2, .int (0 : Int32)), (1, .int q3), (0, .ref (ad 7))]) dX8_findRace_19 rfl (by decide) rfl ?_
  refine V_lv (ks := [2, 1, 0]) rfl ?_
  exact w_X8_findRace_b20 C hr hlk 4000 q3 (0 : Int32) σ2 hF

def F_X9_weighRider_b3  : Nat → Int32 → Int32 → Int32 → Int32 → Int32 → Mem → Option Mem
  | 0, _, _, _, _, _, _ => none
  | n + 1, x1, x2, x3, x4, x5, σ =>
    if (σ.1 1) ≤ x5 then
      some σ
    else
      Option.bind (F_X10_at 2 ((3 : Int32) * x5) σ) fun q1 =>
      Option.bind (F_X10_at 2 (((3 : Int32) * x5) + (1 : Int32)) σ) fun q2 =>
      Option.bind (F_X10_at 2 (((3 : Int32) * x5) + (2 : Int32)) σ) fun q3 =>
      Option.bind (F_X10_put 12 (((5 : Int32) * x5) + x1) (((x2 * q1) + (x3 * q2)) + (x4 * q3)) σ) fun σ4 =>
      (F_X9_weighRider_b3 n) x1 x2 x3 x4 (x5 + 1) σ4
def F_X9_weighRider (a1 : Int32) (a2 : Int32) (a3 : Int32) (a4 : Int32) (σ : Mem) : Option Mem :=
  F_X9_weighRider_b3 4000 a1 a2 a3 a4 (0 : Int32) σ
set_option maxHeartbeats 4000000 in
set_option maxRecDepth 20000 in
theorem w_X9_weighRider_b3 {p : Program} {l : Launch} {e : Env} {s : State} {m : MethodId} {args : Array Value} {below : List Frame} {meth : Method} {c : Code} {D : va_G} {T : Nat → ClassId} {ad zz : Nat → Nat} (C : Cx p s m c cX9_weighRider 7 RX9 (fA ad) D T ad zz) (hr : meth.sig.returnType = none) (hlk : meth.locks = false) {r : Mem}  : ∀ (n : Nat), ∀ (x1 : Int32) (x2 : Int32) (x3 : Int32) (x4 : Int32) (x5 : Int32) (σ : Mem), F_X9_weighRider_b3  n x1 x2 x3 x4 x5 σ = some r → V p l e { frames := 1, cells := 0, slots := 0, locals := 22 } s m args below meth c 0 0 (MQ below (qC none r D T ad) args s 0 0 (fA ad)) 7 (fA ad) D T ad σ 3 [(0, .ref (ad 5)), (1, .int x1), (2, .int x2), (3, .int x3), (4, .int x4), (5, .int x5)] [] := by
  intro n
  induction n with
  | zero =>
    intro x1 x2 x3 x4 x5 σ hF
    cases (show (none : Option Mem) = some r from hF)
  | succ n ih =>
    intro x1 x2 x3 x4 x5 σ hF
    rw [F_X9_weighRider_b3] at hF
    refine V_iload C 5 dX9_weighRider_3 rfl ?_
    refine V_aload_n C 0 dX9_weighRider_5 rfl ?_
    refine gf_X9_15 C dX9_weighRider_6 ?_
    refine gf_X9_41 C dX9_weighRider_9 ?_
    refine V_icmp_ge C 89 dX9_weighRider_12 (by decide) hF (fun hF => ?_) (fun hF => ?_)
    · cases hF
      exact V_vret C hr hlk rfl rfl dX9_weighRider_89
    · refine V_iconst C dX9_weighRider_15 (v := (3 : Int32)) (by decide) ?_
      refine V_iload C 5 dX9_weighRider_16 rfl ?_
      refine V_imul C dX9_weighRider_18 ?_
      refine V_istore C (lv' := [(6, .int ((3 : Int32) * x5)), (0, .ref (ad 5)), (1, .int x1), (2, .int x2), (3, .int x3), (4, .int x4), (5, .int x5)]) dX9_weighRider_19 (by decide) rfl ?_
      refine V_aload_n C 1 dX9_weighRider_21 rfl ?_
      refine gf_X9_9 C dX9_weighRider_22 ?_
      refine V_iconst C dX9_weighRider_25 (v := (5 : Int32)) (by decide) ?_
      refine V_iload C 6 dX9_weighRider_26 rfl ?_
      refine V_imul C dX9_weighRider_28 ?_
      refine V_iload_n C 2 dX9_weighRider_29 rfl ?_
      refine V_iadd C dX9_weighRider_30 ?_
      refine V_iload_n C 3 dX9_weighRider_31 rfl ?_
      refine V_aload_n C 1 dX9_weighRider_32 rfl ?_
      refine gf_X9_15 C dX9_weighRider_33 ?_
      refine gf_X9_44 C dX9_weighRider_36 ?_
      refine V_iload C 0 dX9_weighRider_39 rfl ?_
      obtain ⟨q1, hq1, hF⟩ := bnd hF
      refine cs_X9_28 C (ct_X10_at (by decide) hq1) rfl ⟨by decide, by decide⟩ (Nat.le_of_ble_eq_true rfl) dX9_weighRider_41 ⟨Nat.le_refl 0, Nat.le_refl 0⟩ ?_
      refine V_imul C dX9_weighRider_44 ?_
      refine V_iload_n C 4 dX9_weighRider_45 rfl ?_
      refine V_aload_n C 1 dX9_weighRider_46 rfl ?_
      refine gf_X9_15 C dX9_weighRider_47 ?_
      refine gf_X9_44 C dX9_weighRider_50 ?_
      refine V_iload C 0 dX9_weighRider_53 rfl ?_
      refine V_iconst C dX9_weighRider_55 (v := (1 : Int32)) (by decide) ?_
      refine V_iadd C dX9_weighRider_56 ?_
      obtain ⟨q2, hq2, hF⟩ := bnd hF
      refine cs_X9_28 C (ct_X10_at (by decide) hq2) rfl ⟨by decide, by decide⟩ (Nat.le_of_ble_eq_true rfl) dX9_weighRider_57 ⟨Nat.le_refl 0, Nat.le_refl 0⟩ ?_
      refine V_imul C dX9_weighRider_60 ?_
      refine V_iadd C dX9_weighRider_61 ?_
      refine V_iload C 5 dX9_weighRider_62 rfl ?_
      refine V_aload_n C 1 dX9_weighRider_64 rfl ?_
      refine gf_X9_15 C dX9_weighRider_65 ?_
      refine gf_X9_44 C dX9_weighRider_68 ?_
      refine V_iload C 0 dX9_weighRider_71 rfl ?_
      refine V_iconst C dX9_weighRider_73 (v := (2 : Int32)) (by decide) ?_
      refine V_iadd C dX9_weighRider_74 ?_
      obtain ⟨q3, hq3, hF⟩ := bnd hF
      refine cs_X9_28 C (ct_X10_at (by decide) hq3) rfl ⟨by decide, by decide⟩ (Nat.le_of_ble_eq_true rfl) dX9_weighRider_75 ⟨Nat.le_refl 0, Nat.le_refl 0⟩ ?_
      refine V_imul C dX9_weighRider_78 ?_
      refine V_iadd C dX9_weighRider_79 ?_
      obtain ⟨σ4, hs4, hF⟩ := bnd hF
      refine cs_X9_47 C (ct_X10_put (by decide) hs4) rfl ⟨by decide, by decide⟩ (Nat.le_of_ble_eq_true rfl) dX9_weighRider_80 ⟨Nat.le_refl 0, Nat.le_refl 0⟩ ?_
      refine V_iinc C (v := (x5 + 1)) (lv' := [(5, .int (x5 + 1)), (6, .int ((3 : Int32) * x5)), (0, .ref (ad 5)), (1, .int x1), (2, .int x2), (3, .int x3), (4, .int x4)]) 6 dX9_weighRider_83 rfl rfl (by decide) rfl ?_
      refine V_goto C 3 dX9_weighRider_86 (by decide) ?_
      refine V_lv (ks := [2, 3, 4, 5, 6, 0]) rfl ?_
      exact ih x1 x2 x3 x4 (x5 + 1) σ4 hF
set_option maxHeartbeats 4000000 in
set_option maxRecDepth 20000 in
theorem ct_X9_weighRider {a1 : Int32} {a2 : Int32} {a3 : Int32} {a4 : Int32} {σ : Mem} {r : Mem} (hF : F_X9_weighRider a1 a2 a3 a4 σ = some r) : Ct yX9_weighRider cX9_weighRider 7 none 1 22 (fun ad zz => [.ref (ad 5), .int a1, .int a2, .int a3, .int a4]) σ (fun ad => none) r := by
  refine Ct_of (by decide +kernel) (lv := fun ad zz => [(0, .ref (ad 5)), (1, .int a1), (2, .int a2), (3, .int a3), (4, .int a4)]) (fun _ _ => rfl) (fun _ _ => Nat.le_of_ble_eq_true rfl) (fun p l e s m args below meth c D T ad zz C hr hlk => ?_)
  rw [F_X9_weighRider] at hF
  refine V_iconst C dX9_weighRider_0 (v := (0 : Int32)) (by decide) ?_
  refine V_istore C (lv' := [(5, .int (0 : Int32)), (0, .ref (ad 5)), (1, .int a1), (2, .int a2), (3, .int a3), (4, .int a4)]) dX9_weighRider_1 (by decide) rfl ?_
  refine V_lv (ks := [1, 2, 3, 4, 5, 0]) rfl ?_
  exact w_X9_weighRider_b3 C hr hlk 4000 a1 a2 a3 a4 (0 : Int32) σ hF

def F_X9_weigh_b2 (k1 : Nat) : Nat → Int32 → Mem → Option Mem
  | 0, _, _ => none
  | n + 1, x2, σ =>
    if (σ.1 2) ≤ x2 then
      some σ
    else
      Option.bind (F_X10_at 6 ((3 : Int32) * x2) σ) fun q1 =>
      Option.bind (F_X10_at (36 + k1) ((3 : Int32) * x2) σ) fun q2 =>
      Option.bind (F_X10_at 6 (((3 : Int32) * x2) + (1 : Int32)) σ) fun q3 =>
      Option.bind (F_X10_at (36 + k1) (((3 : Int32) * x2) + (1 : Int32)) σ) fun q4 =>
      Option.bind (F_X10_at 6 (((3 : Int32) * x2) + (2 : Int32)) σ) fun q5 =>
      Option.bind (F_X10_at (36 + k1) (((3 : Int32) * x2) + (2 : Int32)) σ) fun q6 =>
      Option.bind (F_X9_weighRider x2 (q1 + q2) (q3 + q4) (q5 + q6) σ) fun σ7 =>
      (F_X9_weigh_b2 k1 n) (x2 + 1) σ7
def F_X9_weigh (k1 : Nat) (σ : Mem) : Option Mem :=
  F_X9_weigh_b2 k1 4000 (0 : Int32) σ
set_option maxHeartbeats 4000000 in
set_option maxRecDepth 20000 in
theorem w_X9_weigh_b2 {p : Program} {l : Launch} {e : Env} {s : State} {m : MethodId} {args : Array Value} {below : List Frame} {meth : Method} {c : Code} {D : va_G} {T : Nat → ClassId} {ad zz : Nat → Nat} (C : Cx p s m c cX9_weigh 4 RX9 (fA ad) D T ad zz) (hr : meth.sig.returnType = none) (hlk : meth.locks = false) {k1 : Nat} (hk1 : k1 < 17) {r : Mem}  : ∀ (n : Nat), ∀ (x2 : Int32) (σ : Mem), F_X9_weigh_b2 k1 n x2 σ = some r → V p l e { frames := 2, cells := 0, slots := 0, locals := 48 } s m args below meth c 0 0 (MQ below (qC none r D T ad) args s 0 0 (fA ad)) 4 (fA ad) D T ad σ 2 [(0, .ref (ad 5)), (1, .ref (ad (80 + k1))), (2, .int x2)] [] := by
  intro n
  induction n with
  | zero =>
    intro x2 σ hF
    cases (show (none : Option Mem) = some r from hF)
  | succ n ih =>
    intro x2 σ hF
    rw [F_X9_weigh_b2] at hF
    refine V_iload_n C 2 dX9_weigh_2 rfl ?_
    refine V_aload_n C 0 dX9_weigh_3 rfl ?_
    refine gf_X9_15 C dX9_weigh_4 ?_
    refine gf_X9_19 C dX9_weigh_7 ?_
    refine V_icmp_ge C 96 dX9_weigh_10 (by decide) hF (fun hF => ?_) (fun hF => ?_)
    · cases hF
      exact V_vret C hr hlk rfl rfl dX9_weigh_96
    · refine V_iconst C dX9_weigh_13 (v := (3 : Int32)) (by decide) ?_
      refine V_iload_n C 2 dX9_weigh_14 rfl ?_
      refine V_imul C dX9_weigh_15 ?_
      refine V_istore_n C (lv' := [(3, .int ((3 : Int32) * x2)), (0, .ref (ad 5)), (1, .ref (ad (80 + k1))), (2, .int x2)]) dX9_weigh_16 rfl (by decide) rfl ?_
      refine V_aload_n C 1 dX9_weigh_17 rfl ?_
      refine V_iload_n C 3 dX9_weigh_18 rfl ?_
      refine V_aload_n C 1 dX9_weigh_19 rfl ?_
      refine gf_X9_15 C dX9_weigh_20 ?_
      refine gf_X9_25 C dX9_weigh_23 ?_
      refine V_iload_n C 0 dX9_weigh_26 rfl ?_
      obtain ⟨q1, hq1, hF⟩ := bnd hF
      refine cs_X9_28 C (ct_X10_at (by decide) hq1) rfl ⟨by decide, by decide⟩ (Nat.le_of_ble_eq_true rfl) dX9_weigh_27 ⟨Nat.le_refl 0, Nat.le_refl 0⟩ ?_
      refine V_aload_n C 2 dX9_weigh_30 rfl ?_
      refine gf_X9_32 C hk1 dX9_weigh_31 ?_
      refine V_iload_n C 0 dX9_weigh_34 rfl ?_
      obtain ⟨q2, hq2, hF⟩ := bnd hF
      refine cs_X9_28 C (ct_X10_at (by omega) hq2) rfl ⟨by decide, by decide⟩ (Nat.le_of_ble_eq_true rfl) dX9_weigh_35 ⟨Nat.le_refl 0, Nat.le_refl 0⟩ ?_
      refine V_iadd C dX9_weigh_38 ?_
      refine V_aload_n C 1 dX9_weigh_39 rfl ?_
      refine gf_X9_15 C dX9_weigh_40 ?_
      refine gf_X9_25 C dX9_weigh_43 ?_
      refine V_iload_n C 0 dX9_weigh_46 rfl ?_
      refine V_iconst C dX9_weigh_47 (v := (1 : Int32)) (by decide) ?_
      refine V_iadd C dX9_weigh_48 ?_
      obtain ⟨q3, hq3, hF⟩ := bnd hF
      refine cs_X9_28 C (ct_X10_at (by decide) hq3) rfl ⟨by decide, by decide⟩ (Nat.le_of_ble_eq_true rfl) dX9_weigh_49 ⟨Nat.le_refl 0, Nat.le_refl 0⟩ ?_
      refine V_aload_n C 2 dX9_weigh_52 rfl ?_
      refine gf_X9_32 C hk1 dX9_weigh_53 ?_
      refine V_iload_n C 0 dX9_weigh_56 rfl ?_
      refine V_iconst C dX9_weigh_57 (v := (1 : Int32)) (by decide) ?_
      refine V_iadd C dX9_weigh_58 ?_
      obtain ⟨q4, hq4, hF⟩ := bnd hF
      refine cs_X9_28 C (ct_X10_at (by omega) hq4) rfl ⟨by decide, by decide⟩ (Nat.le_of_ble_eq_true rfl) dX9_weigh_59 ⟨Nat.le_refl 0, Nat.le_refl 0⟩ ?_
      refine V_iadd C dX9_weigh_62 ?_
      refine V_aload_n C 1 dX9_weigh_63 rfl ?_
      refine gf_X9_15 C dX9_weigh_64 ?_
      refine gf_X9_25 C dX9_weigh_67 ?_
      refine V_iload_n C 0 dX9_weigh_70 rfl ?_
      refine V_iconst C dX9_weigh_71 (v := (2 : Int32)) (by decide) ?_
      refine V_iadd C dX9_weigh_72 ?_
      obtain ⟨q5, hq5, hF⟩ := bnd hF
      refine cs_X9_28 C (ct_X10_at (by decide) hq5) rfl ⟨by decide, by decide⟩ (Nat.le_of_ble_eq_true rfl) dX9_weigh_73 ⟨Nat.le_refl 0, Nat.le_refl 0⟩ ?_
      refine V_aload_n C 2 dX9_weigh_76 rfl ?_
      refine gf_X9_32 C hk1 dX9_weigh_77 ?_
      refine V_iload_n C 0 dX9_weigh_80 rfl ?_
      refine V_iconst C dX9_weigh_81 (v := (2 : Int32)) (by decide) ?_
      refine V_iadd C dX9_weigh_82 ?_
      obtain ⟨q6, hq6, hF⟩ := bnd hF
      refine cs_X9_28 C (ct_X10_at (by omega) hq6) rfl ⟨by decide, by decide⟩ (Nat.le_of_ble_eq_true rfl) dX9_weigh_83 ⟨Nat.le_refl 0, Nat.le_refl 0⟩ ?_
      refine V_iadd C dX9_weigh_86 ?_
      obtain ⟨σ7, hs7, hF⟩ := bnd hF
      refine cs_X9_37 C (ct_X9_weighRider hs7) rfl ⟨by decide, by decide⟩ (Nat.le_of_ble_eq_true rfl) dX9_weigh_87 ⟨Nat.le_refl 0, Nat.le_refl 0⟩ ?_
      refine V_iinc C (v := (x2 + 1)) (lv' := [(2, .int (x2 + 1)), (3, .int ((3 : Int32) * x2)), (0, .ref (ad 5)), (1, .ref (ad (80 + k1)))]) 3 dX9_weigh_90 rfl rfl (by decide) rfl ?_
      refine V_goto C 2 dX9_weigh_93 (by decide) ?_
      refine V_lv (ks := [2, 3, 0]) rfl ?_
      exact ih (x2 + 1) σ7 hF
set_option maxHeartbeats 4000000 in
set_option maxRecDepth 20000 in
theorem ct_X9_weigh {k1 : Nat} {σ : Mem} {r : Mem} (hk1 : k1 < 17) (hF : F_X9_weigh k1 σ = some r) : Ct yX9_weigh cX9_weigh 4 none 2 48 (fun ad zz => [.ref (ad 5), .ref (ad (80 + k1))]) σ (fun ad => none) r := by
  refine Ct_of (by decide +kernel) (lv := fun ad zz => [(0, .ref (ad 5)), (1, .ref (ad (80 + k1)))]) (fun _ _ => rfl) (fun _ _ => Nat.le_of_ble_eq_true rfl) (fun p l e s m args below meth c D T ad zz C hr hlk => ?_)
  rw [F_X9_weigh] at hF
  refine V_iconst C dX9_weigh_0 (v := (0 : Int32)) (by decide) ?_
  refine V_istore_n C (lv' := [(2, .int (0 : Int32)), (0, .ref (ad 5)), (1, .ref (ad (80 + k1)))]) dX9_weigh_1 rfl (by decide) rfl ?_
  refine V_lv (ks := [1, 2, 0]) rfl ?_
  exact w_X9_weigh_b2 C hr hlk hk1 4000 (0 : Int32) σ hF

def F_X10_write (a1 : Int32) (σ : Mem) : Option (Int32 × Mem) :=
  if a1 < 0 then
    some ((-2 : Int32), σ)
  else
    if a1 ≤ (255 : Int32) then
      Option.bind (F_X6_add a1 σ) fun q1 =>
      if q1.1 = 0 then
        some ((-4 : Int32), q1.2)
      else
        some ((q1.2.1 0), q1.2)
    else
      some ((-2 : Int32), σ)
set_option maxHeartbeats 4000000 in
set_option maxRecDepth 20000 in
theorem ct_X10_write {a1 : Int32} {σ : Mem} {r : (Int32 × Mem)} (hF : F_X10_write a1 σ = some r) : Ct yX10_write cX10_write 2 (some .int) 2 43 (fun ad zz => [.ref (ad 0), .int a1]) σ (fun ad => (some (.int r.1))) r.2 := by
  refine Ct_of (by decide +kernel) (lv := fun ad zz => [(0, .ref (ad 0)), (1, .int a1)]) (fun _ _ => rfl) (fun _ _ => Nat.le_of_ble_eq_true rfl) (fun p l e s m args below meth c D T ad zz C hr hlk => ?_)
  rw [F_X10_write] at hF
  refine V_iload_n C 1 dX10_write_0 rfl ?_
  refine V_if_lt C 11 dX10_write_1 (by decide) hF (fun hF => ?_) (fun hF => ?_)
  · refine V_bipush C dX10_write_11 (v := (-2 : Int32)) (by decide) ?_
    cases hF
    exact V_iret C hr hlk rfl rfl dX10_write_13
  · refine V_iload_n C 1 dX10_write_4 rfl ?_
    refine V_sipush C dX10_write_5 (v := (255 : Int32)) (by decide) ?_
    refine V_icmp_le C 14 dX10_write_8 (by decide) hF (fun hF => ?_) (fun hF => ?_)
    · refine V_aload_n C 0 dX10_write_14 rfl ?_
      refine gf_X10_12 C dX10_write_15 ?_
      refine V_iload_n C 1 dX10_write_18 rfl ?_
      obtain ⟨q1, hq1, hF⟩ := bnd hF
      refine cs_X10_91 C (ct_X6_add hq1) rfl ⟨by decide, by decide⟩ (Nat.le_of_ble_eq_true rfl) dX10_write_19 ⟨Nat.le_refl 0, Nat.le_refl 0⟩ ?_
      refine V_if_eq C 35 dX10_write_22 (by decide) hF (fun hF => ?_) (fun hF => ?_)
      · refine V_bipush C dX10_write_35 (v := (-4 : Int32)) (by decide) ?_
        cases hF
        exact V_iret C hr hlk rfl rfl dX10_write_37
      · refine V_aload_n C 0 dX10_write_25 rfl ?_
        refine gf_X10_12 C dX10_write_26 ?_
        refine gf_X10_95 C dX10_write_29 ?_
        refine V_goto C 37 dX10_write_32 (by decide) ?_
        cases hF
        exact V_iret C hr hlk rfl rfl dX10_write_37
    · refine V_bipush C dX10_write_11 (v := (-2 : Int32)) (by decide) ?_
      cases hF
      exact V_iret C hr hlk rfl rfl dX10_write_13

def F_X10_wipe (σ : Mem) : Option (Int32 × Mem) :=
  Option.bind (stI σ 0 (0 : Int32)) fun σ1 =>
  some ((σ.1 0), σ1)
set_option maxHeartbeats 4000000 in
set_option maxRecDepth 20000 in
theorem ct_X10_wipe {σ : Mem} {r : (Int32 × Mem)} (hF : F_X10_wipe σ = some r) : Ct yX10_wipe cX10_wipe 2 (some .int) 0 0 (fun ad zz => [.ref (ad 0)]) σ (fun ad => (some (.int r.1))) r.2 := by
  refine Ct_of (by decide +kernel) (lv := fun ad zz => [(0, .ref (ad 0))]) (fun _ _ => rfl) (fun _ _ => Nat.le_of_ble_eq_true rfl) (fun p l e s m args below meth c D T ad zz C hr hlk => ?_)
  rw [F_X10_wipe] at hF
  refine V_aload_n C 0 dX10_wipe_0 rfl ?_
  refine gf_X10_12 C dX10_wipe_1 ?_
  refine gf_X10_95 C dX10_wipe_4 ?_
  refine V_istore_n C (lv' := [(1, .int (σ.1 0)), (0, .ref (ad 0))]) dX10_wipe_7 rfl (by decide) rfl ?_
  refine V_aload_n C 1 dX10_wipe_8 rfl ?_
  refine gf_X10_12 C dX10_wipe_9 ?_
  refine V_iconst C dX10_wipe_12 (v := (0 : Int32)) (by decide) ?_
  obtain ⟨σ1, hs1, hF⟩ := bnd hF
  refine pf_X10_95 C hs1 dX10_wipe_13 ?_
  refine V_iload_n C 0 dX10_wipe_16 rfl ?_
  cases hF
  exact V_iret C hr hlk rfl rfl dX10_wipe_17

def F_X10_fault (σ : Mem) : Option Int32 :=
  Option.bind (F_X6_firstFault σ) fun q1 =>
  some q1
set_option maxHeartbeats 4000000 in
set_option maxRecDepth 20000 in
theorem ct_X10_fault {σ : Mem} {r : Int32} (hF : F_X10_fault σ = some r) : Ct yX10_fault cX10_fault 1 (some .int) 6 135 (fun ad zz => [.ref (ad 0)]) σ (fun ad => (some (.int r))) σ := by
  refine Ct_of (by decide +kernel) (lv := fun ad zz => [(0, .ref (ad 0))]) (fun _ _ => rfl) (fun _ _ => Nat.le_of_ble_eq_true rfl) (fun p l e s m args below meth c D T ad zz C hr hlk => ?_)
  rw [F_X10_fault] at hF
  refine V_aload_n C 0 dX10_fault_0 rfl ?_
  refine gf_X10_12 C dX10_fault_1 ?_
  obtain ⟨q1, hq1, hF⟩ := bnd hF
  refine cs_X10_99 C (ct_X6_firstFault hq1) rfl ⟨by decide, by decide⟩ (Nat.le_of_ble_eq_true rfl) dX10_fault_4 ⟨Nat.le_refl 0, Nat.le_refl 0⟩ ?_
  cases hF
  exact V_iret C hr hlk rfl rfl dX10_fault_7

def F_X10_slotOf (a1 : Int32) (σ : Mem) : Option (Option Nat) :=
  if a1 < 0 then
    some none
  else
    if (nI 2) ≤ a1 then
      some none
    else
      Option.bind (rdS 15 2 a1) fun j1 =>
      some (some j1)
set_option maxHeartbeats 4000000 in
set_option maxRecDepth 20000 in
theorem ct_X10_slotOf {a1 : Int32} {σ : Mem} {r : (Option Nat)} (hF : F_X10_slotOf a1 σ = some r) : Ct yX10_slotOf cX10_slotOf 2 (some (.object "HorsesChoose$State")) 0 0 (fun ad zz => [.ref (ad 0), .int a1]) σ (fun ad => (some (va_rf ((r : Option Nat).map (fun k => ad (80 + k)))))) σ := by
  refine Ct_of (by decide +kernel) (lv := fun ad zz => [(0, .ref (ad 0)), (1, .int a1)]) (fun _ _ => rfl) (fun _ _ => Nat.le_of_ble_eq_true rfl) (fun p l e s m args below meth c D T ad zz C hr hlk => ?_)
  rw [F_X10_slotOf] at hF
  refine V_iload_n C 1 dX10_slotOf_0 rfl ?_
  refine V_if_lt C 22 dX10_slotOf_1 (by decide) hF (fun hF => ?_) (fun hF => ?_)
  · refine V_null C dX10_slotOf_22 ?_
    cases hF
    exact V_aret C hr hlk (Or.inl rfl) rfl rfl dX10_slotOf_23
  · refine V_iload_n C 1 dX10_slotOf_4 rfl ?_
    refine V_aload_n C 0 dX10_slotOf_5 rfl ?_
    refine gf_X10_37 C dX10_slotOf_6 ?_
    refine V_alenS C (i := 10) (by decide) rfl dX10_slotOf_9 ?_
    refine V_icmp_ge C 22 dX10_slotOf_10 (by decide) hF (fun hF => ?_) (fun hF => ?_)
    · refine V_null C dX10_slotOf_22 ?_
      cases hF
      exact V_aret C hr hlk (Or.inl rfl) rfl rfl dX10_slotOf_23
    · refine V_aload_n C 0 dX10_slotOf_13 rfl ?_
      refine gf_X10_37 C dX10_slotOf_14 ?_
      refine V_iload_n C 1 dX10_slotOf_17 rfl ?_
      obtain ⟨j1, hj1, hF⟩ := bnd hF
      have h9j1 : j1 < 17 := Nat.lt_of_lt_of_le (rdS_lt hj1) (by decide)
      refine V_aldS C (i := 10) (by decide) rfl hj1 dX10_slotOf_18 ?_
      refine V_goto C 23 dX10_slotOf_19 (by decide) ?_
      cases hF
      exact V_aret C hr hlk (Or.inr ⟨_, rfl⟩) rfl rfl dX10_slotOf_23

def F_X10_emptySlots_b2  : Nat → Int32 → Mem → Option Mem
  | 0, _, _ => none
  | n + 1, x1, σ =>
    if (2 : Int32) ≤ x1 then
      some σ
    else
      Option.bind (F_X10_slotOf x1 σ) fun q1 =>
      oc q1
        ((F_X10_emptySlots_b2 n) (x1 + 1) σ)
        (fun k2 => ifK k2 17
        (Option.bind (stI σ (60 + k2) (0 : Int32)) fun σ3 =>
        (F_X10_emptySlots_b2 n) (x1 + 1) σ3))
def F_X10_emptySlots (σ : Mem) : Option Mem :=
  F_X10_emptySlots_b2 4000 (0 : Int32) σ
set_option maxHeartbeats 4000000 in
set_option maxRecDepth 20000 in
theorem w_X10_emptySlots_b2 {p : Program} {l : Launch} {e : Env} {s : State} {m : MethodId} {args : Array Value} {below : List Frame} {meth : Method} {c : Code} {D : va_G} {T : Nat → ClassId} {ad zz : Nat → Nat} (C : Cx p s m c cX10_emptySlots 3 RX10 (fA ad) D T ad zz) (hr : meth.sig.returnType = none) (hlk : meth.locks = false) {r : Mem}  : ∀ (n : Nat), ∀ (x1 : Int32) (σ : Mem), F_X10_emptySlots_b2  n x1 σ = some r → V p l e { frames := 1, cells := 0, slots := 0, locals := 21 } s m args below meth c 0 0 (MQ below (qC none r D T ad) args s 0 0 (fA ad)) 3 (fA ad) D T ad σ 2 [(0, .ref (ad 0)), (1, .int x1)] [] := by
  intro n
  induction n with
  | zero =>
    intro x1 σ hF
    cases (show (none : Option Mem) = some r from hF)
  | succ n ih =>
    intro x1 σ hF
    rw [F_X10_emptySlots_b2] at hF
    refine V_iload_n C 1 dX10_emptySlots_2 rfl ?_
    refine V_iconst C dX10_emptySlots_3 (v := (2 : Int32)) (by decide) ?_
    refine V_icmp_ge C 28 dX10_emptySlots_4 (by decide) hF (fun hF => ?_) (fun hF => ?_)
    · cases hF
      exact V_vret C hr hlk rfl rfl dX10_emptySlots_28
    · refine V_aload_n C 0 dX10_emptySlots_7 rfl ?_
      refine V_iload_n C 1 dX10_emptySlots_8 rfl ?_
      obtain ⟨q1, hq1, hF⟩ := bnd hF
      refine cs_X10_325 C (ct_X10_slotOf hq1) rfl ⟨by decide, by decide⟩ (Nat.le_of_ble_eq_true rfl) dX10_emptySlots_9 ⟨Nat.le_refl 0, Nat.le_refl 0⟩ ?_
      rcases q1 with _ | k2
      · refine V_astore_nN C (lv' := [(2, .null), (0, .ref (ad 0)), (1, .int x1)]) dX10_emptySlots_12 rfl (by decide) rfl ?_
        refine V_aload_nN C 0 dX10_emptySlots_13 rfl ?_
        refine V_ifnullN C 22 dX10_emptySlots_14 (by decide) ?_
        refine V_iinc C (v := (x1 + 1)) (lv' := [(1, .int (x1 + 1)), (2, .null), (0, .ref (ad 0))]) 2 dX10_emptySlots_22 rfl rfl (by decide) rfl ?_
        refine V_goto C 2 dX10_emptySlots_25 (by decide) ?_
        refine V_lv (ks := [2, 0]) rfl ?_
        exact ih (x1 + 1) σ hF
      · obtain ⟨hk2, hF⟩ := ifK_s (show ifK k2 17 _ = some r from hF)
        refine V_astore_n C (lv' := [(2, .ref (ad (80 + k2))), (0, .ref (ad 0)), (1, .int x1)]) dX10_emptySlots_12 rfl (by decide) rfl ?_
        refine V_aload_n C 0 dX10_emptySlots_13 rfl ?_
        refine V_ifnullR C dX10_emptySlots_14 ?_
        refine V_aload_n C 0 dX10_emptySlots_17 rfl ?_
        refine V_iconst C dX10_emptySlots_18 (v := (0 : Int32)) (by decide) ?_
        obtain ⟨σ3, hs3, hF⟩ := bnd hF
        refine pf_X10_331 C hk2 hs3 (Or.inl rfl) dX10_emptySlots_19 ?_
        refine V_iinc C (v := (x1 + 1)) (lv' := [(1, .int (x1 + 1)), (2, .ref (ad (80 + k2))), (0, .ref (ad 0))]) 2 dX10_emptySlots_22 rfl rfl (by decide) rfl ?_
        refine V_goto C 2 dX10_emptySlots_25 (by decide) ?_
        refine V_lv (ks := [2, 0]) rfl ?_
        exact ih (x1 + 1) σ3 hF
set_option maxHeartbeats 4000000 in
set_option maxRecDepth 20000 in
theorem ct_X10_emptySlots {σ : Mem} {r : Mem} (hF : F_X10_emptySlots σ = some r) : Ct yX10_emptySlots cX10_emptySlots 3 none 1 21 (fun ad zz => [.ref (ad 0)]) σ (fun ad => none) r := by
  refine Ct_of (by decide +kernel) (lv := fun ad zz => [(0, .ref (ad 0))]) (fun _ _ => rfl) (fun _ _ => Nat.le_of_ble_eq_true rfl) (fun p l e s m args below meth c D T ad zz C hr hlk => ?_)
  rw [F_X10_emptySlots] at hF
  refine V_iconst C dX10_emptySlots_0 (v := (0 : Int32)) (by decide) ?_
  refine V_istore_n C (lv' := [(1, .int (0 : Int32)), (0, .ref (ad 0))]) dX10_emptySlots_1 rfl (by decide) rfl ?_
  refine V_lv (ks := [1, 0]) rfl ?_
  exact w_X10_emptySlots_b2 C hr hlk 4000 (0 : Int32) σ hF

def F_X10_fair (σ : Mem) : Option (Int32 × Mem) :=
  Option.bind (F_X6_firstFault σ) fun q1 =>
  if q1 = (-9 : Int32) then
    Option.bind (F_X3_readFrom σ) fun σ2 =>
    Option.bind (F_X5_clear 0 σ2) fun σ3 =>
    Option.bind (stI σ3 4 (0 : Int32)) fun σ4 =>
    Option.bind (F_X10_emptySlots σ4) fun σ5 =>
    some ((((10 : Int32) * (σ5.1 1)) + (σ5.1 2)), σ5)
  else
    some ((-3 : Int32), σ)
set_option maxHeartbeats 4000000 in
set_option maxRecDepth 20000 in
theorem ct_X10_fair {σ : Mem} {r : (Int32 × Mem)} (hF : F_X10_fair σ = some r) : Ct yX10_fair cX10_fair 1 (some .int) 6 135 (fun ad zz => [.ref (ad 0)]) σ (fun ad => (some (.int r.1))) r.2 := by
  refine Ct_of (by decide +kernel) (lv := fun ad zz => [(0, .ref (ad 0))]) (fun _ _ => rfl) (fun _ _ => Nat.le_of_ble_eq_true rfl) (fun p l e s m args below meth c D T ad zz C hr hlk => ?_)
  rw [F_X10_fair] at hF
  refine V_aload_n C 0 dX10_fair_0 rfl ?_
  refine gf_X10_12 C dX10_fair_1 ?_
  obtain ⟨q1, hq1, hF⟩ := bnd hF
  refine cs_X10_99 C (ct_X6_firstFault hq1) rfl ⟨by decide, by decide⟩ (Nat.le_of_ble_eq_true rfl) dX10_fair_4 ⟨Nat.le_refl 0, Nat.le_refl 0⟩ ?_
  refine V_bipush C dX10_fair_7 (v := (-9 : Int32)) (by decide) ?_
  refine V_icmp_eq C 15 dX10_fair_9 (by decide) hF (fun hF => ?_) (fun hF => ?_)
  · refine V_aload_n C 0 dX10_fair_15 rfl ?_
    refine gf_X10_19 C dX10_fair_16 ?_
    refine V_aload_n C 0 dX10_fair_19 rfl ?_
    refine gf_X10_12 C dX10_fair_20 ?_
    obtain ⟨σ2, hs2, hF⟩ := bnd hF
    refine cs_X10_103 C (ct_X3_readFrom hs2) rfl ⟨by decide, by decide⟩ (Nat.le_of_ble_eq_true rfl) dX10_fair_23 ⟨Nat.le_refl 0, Nat.le_refl 0⟩ ?_
    refine V_aload_n C 0 dX10_fair_26 rfl ?_
    refine gf_X10_26 C dX10_fair_27 ?_
    obtain ⟨σ3, hs3, hF⟩ := bnd hF
    refine cs_X10_107 C (by decide) (ct_X5_clear (by decide) hs3) rfl ⟨by decide, by decide⟩ (Nat.le_of_ble_eq_true rfl) dX10_fair_30 ⟨Nat.le_refl 0, Nat.le_refl 0⟩ ?_
    refine V_aload_n C 0 dX10_fair_33 rfl ?_
    refine gf_X10_33 C dX10_fair_34 ?_
    refine V_iconst C dX10_fair_37 (v := (0 : Int32)) (by decide) ?_
    obtain ⟨σ4, hs4, hF⟩ := bnd hF
    refine pf_X10_110 C hs4 dX10_fair_38 ?_
    refine V_aload_n C 0 dX10_fair_41 rfl ?_
    obtain ⟨σ5, hs5, hF⟩ := bnd hF
    refine cs_X10_113 C (ct_X10_emptySlots hs5) rfl ⟨by decide, by decide⟩ (Nat.le_of_ble_eq_true rfl) dX10_fair_42 ⟨Nat.le_refl 0, Nat.le_refl 0⟩ ?_
    refine V_bipush C dX10_fair_45 (v := (10 : Int32)) (by decide) ?_
    refine V_aload_n C 0 dX10_fair_47 rfl ?_
    refine gf_X10_19 C dX10_fair_48 ?_
    refine gf_X10_116 C dX10_fair_51 ?_
    refine V_imul C dX10_fair_54 ?_
    refine V_aload_n C 0 dX10_fair_55 rfl ?_
    refine gf_X10_19 C dX10_fair_56 ?_
    refine gf_X10_119 C dX10_fair_59 ?_
    refine V_iadd C dX10_fair_62 ?_
    cases hF
    exact V_iret C hr hlk rfl rfl dX10_fair_63
  · refine V_bipush C dX10_fair_12 (v := (-3 : Int32)) (by decide) ?_
    cases hF
    exact V_iret C hr hlk rfl rfl dX10_fair_14

def F_X10_boltingPairs_b28 (kL15 : Int32 → Int32 → Mem → Option (Int32 × Mem)) : Nat → Int32 → Int32 → Int32 → Mem → Option (Int32 × Mem)
  | 0, _, _, _, _ => none
  | n + 1, x1, x2, x3, σ =>
    if (σ.1 1) ≤ x3 then
      kL15 x1 (x2 + 1) σ
    else
      Option.bind (F_X7_boltsWith 0 x2 x3 σ) fun q2 =>
      if q2 = 0 then
        (F_X10_boltingPairs_b28 kL15 n) x1 x2 (x3 + 1) σ
      else
        (F_X10_boltingPairs_b28 kL15 n) (x1 + 1) x2 (x3 + 1) σ
def F_X10_boltingPairs_b15  : Nat → Int32 → Int32 → Mem → Option (Int32 × Mem)
  | 0, _, _, _ => none
  | n + 1, x1, x2, σ =>
    if (σ.1 2) ≤ x2 then
      some (x1, σ)
    else
      F_X10_boltingPairs_b28 (F_X10_boltingPairs_b15 n) 4000 x1 x2 (0 : Int32) σ
def F_X10_boltingPairs (σ : Mem) : Option (Int32 × Mem) :=
  Option.bind (F_X9_weigh 0 σ) fun σ1 =>
  F_X10_boltingPairs_b15 4000 (0 : Int32) (0 : Int32) σ1
set_option maxHeartbeats 4000000 in
set_option maxRecDepth 20000 in
theorem w_X10_boltingPairs_b28 {p : Program} {l : Launch} {e : Env} {s : State} {m : MethodId} {args : Array Value} {below : List Frame} {meth : Method} {c : Code} {D : va_G} {T : Nat → ClassId} {ad zz : Nat → Nat} (C : Cx p s m c cX10_boltingPairs 4 RX10 (fA ad) D T ad zz) (hr : meth.sig.returnType = (some .int)) (hlk : meth.locks = false) {r : (Int32 × Mem)} (kL15 : Int32 → Int32 → Mem → Option (Int32 × Mem)) (hL15 : ∀ (x1 : Int32) (x2 : Int32) (σ : Mem), kL15 x1 x2 σ = some r → V p l e { frames := 4, cells := 0, slots := 0, locals := 94 } s m args below meth c 0 0 (MQ below (qC (some (.int r.1)) r.2 D T ad) args s 0 0 (fA ad)) 4 (fA ad) D T ad σ 15 [(0, .ref (ad 0)), (1, .int x1), (2, .int x2)] []) : ∀ (n : Nat), ∀ (x1 : Int32) (x2 : Int32) (x3 : Int32) (σ : Mem), F_X10_boltingPairs_b28 kL15 n x1 x2 x3 σ = some r → V p l e { frames := 4, cells := 0, slots := 0, locals := 94 } s m args below meth c 0 0 (MQ below (qC (some (.int r.1)) r.2 D T ad) args s 0 0 (fA ad)) 4 (fA ad) D T ad σ 28 [(0, .ref (ad 0)), (1, .int x1), (2, .int x2), (3, .int x3)] [] := by
  intro n
  induction n with
  | zero =>
    intro x1 x2 x3 σ hF
    cases (show (none : Option (Int32 × Mem)) = some r from hF)
  | succ n ih =>
    intro x1 x2 x3 σ hF
    rw [F_X10_boltingPairs_b28] at hF
    refine V_iload_n C 3 dX10_boltingPairs_28 rfl ?_
    refine V_aload_n C 0 dX10_boltingPairs_29 rfl ?_
    refine gf_X10_19 C dX10_boltingPairs_30 ?_
    refine gf_X10_116 C dX10_boltingPairs_33 ?_
    refine V_icmp_ge C 67 dX10_boltingPairs_36 (by decide) hF (fun hF => ?_) (fun hF => ?_)
    · refine V_iinc C (v := (x2 + 1)) (lv' := [(2, .int (x2 + 1)), (0, .ref (ad 0)), (1, .int x1), (3, .int x3)]) 2 dX10_boltingPairs_67 rfl rfl (by decide) rfl ?_
      refine V_goto C 15 dX10_boltingPairs_70 (by decide) ?_
      refine V_lv (ks := [1, 2, 0]) rfl ?_
      exact hL15 x1 (x2 + 1) σ hF
    · refine V_aload_n C 0 dX10_boltingPairs_39 rfl ?_
      refine gf_X10_26 C dX10_boltingPairs_40 ?_
      refine gf_X10_122 C (by decide) dX10_boltingPairs_43 ?_
      refine V_iload_n C 2 dX10_boltingPairs_46 rfl ?_
      refine V_iload_n C 3 dX10_boltingPairs_47 rfl ?_
      refine V_aload_n C 0 dX10_boltingPairs_48 rfl ?_
      refine gf_X10_53 C dX10_boltingPairs_49 ?_
      obtain ⟨q2, hq2, hF⟩ := bnd hF
      refine cs_X10_229 C (by decide) (ct_X7_boltsWith (by decide) hq2) rfl ⟨by decide, by decide⟩ (Nat.le_of_ble_eq_true rfl) dX10_boltingPairs_52 ⟨Nat.le_refl 0, Nat.le_refl 0⟩ ?_
      refine V_if_eq C 61 dX10_boltingPairs_55 (by decide) hF (fun hF => ?_) (fun hF => ?_)
      · refine V_iinc C (v := (x3 + 1)) (lv' := [(3, .int (x3 + 1)), (0, .ref (ad 0)), (1, .int x1), (2, .int x2)]) 3 dX10_boltingPairs_61 rfl rfl (by decide) rfl ?_
        refine V_goto C 28 dX10_boltingPairs_64 (by decide) ?_
        refine V_lv (ks := [1, 2, 3, 0]) rfl ?_
        exact ih x1 x2 (x3 + 1) σ hF
      · refine V_iinc C (v := (x1 + 1)) (lv' := [(1, .int (x1 + 1)), (0, .ref (ad 0)), (2, .int x2), (3, .int x3)]) 1 dX10_boltingPairs_58 rfl rfl (by decide) rfl ?_
        refine V_iinc C (v := (x3 + 1)) (lv' := [(3, .int (x3 + 1)), (1, .int (x1 + 1)), (0, .ref (ad 0)), (2, .int x2)]) 3 dX10_boltingPairs_61 rfl rfl (by decide) rfl ?_
        refine V_goto C 28 dX10_boltingPairs_64 (by decide) ?_
        refine V_lv (ks := [2, 1, 3, 0]) rfl ?_
        exact ih (x1 + 1) x2 (x3 + 1) σ hF
set_option maxHeartbeats 4000000 in
set_option maxRecDepth 20000 in
theorem w_X10_boltingPairs_b15 {p : Program} {l : Launch} {e : Env} {s : State} {m : MethodId} {args : Array Value} {below : List Frame} {meth : Method} {c : Code} {D : va_G} {T : Nat → ClassId} {ad zz : Nat → Nat} (C : Cx p s m c cX10_boltingPairs 4 RX10 (fA ad) D T ad zz) (hr : meth.sig.returnType = (some .int)) (hlk : meth.locks = false) {r : (Int32 × Mem)}  : ∀ (n : Nat), ∀ (x1 : Int32) (x2 : Int32) (σ : Mem), F_X10_boltingPairs_b15  n x1 x2 σ = some r → V p l e { frames := 4, cells := 0, slots := 0, locals := 94 } s m args below meth c 0 0 (MQ below (qC (some (.int r.1)) r.2 D T ad) args s 0 0 (fA ad)) 4 (fA ad) D T ad σ 15 [(0, .ref (ad 0)), (1, .int x1), (2, .int x2)] [] := by
  intro n
  induction n with
  | zero =>
    intro x1 x2 σ hF
    cases (show (none : Option (Int32 × Mem)) = some r from hF)
  | succ n ih =>
    intro x1 x2 σ hF
    rw [F_X10_boltingPairs_b15] at hF
    refine V_iload_n C 2 dX10_boltingPairs_15 rfl ?_
    refine V_aload_n C 0 dX10_boltingPairs_16 rfl ?_
    refine gf_X10_19 C dX10_boltingPairs_17 ?_
    refine gf_X10_119 C dX10_boltingPairs_20 ?_
    refine V_icmp_ge C 73 dX10_boltingPairs_23 (by decide) hF (fun hF => ?_) (fun hF => ?_)
    · refine V_iload_n C 1 dX10_boltingPairs_73 rfl ?_
      cases hF
      exact V_iret C hr hlk rfl rfl dX10_boltingPairs_74
    · refine V_iconst C dX10_boltingPairs_26 (v := (0 : Int32)) (by decide) ?_
      refine V_istore_n C (lv' := [(3, .int (0 : Int32)), (0, .ref (ad 0)), (1, .int x1), (2, .int x2)]) dX10_boltingPairs_27 rfl (by decide) rfl ?_
      refine V_lv (ks := [1, 2, 3, 0]) rfl ?_
      exact w_X10_boltingPairs_b28 C hr hlk (F_X10_boltingPairs_b15 n) ih 4000 x1 x2 (0 : Int32) σ hF
set_option maxHeartbeats 4000000 in
set_option maxRecDepth 20000 in
theorem ct_X10_boltingPairs {σ : Mem} {r : (Int32 × Mem)} (hF : F_X10_boltingPairs σ = some r) : Ct yX10_boltingPairs cX10_boltingPairs 4 (some .int) 4 94 (fun ad zz => [.ref (ad 0)]) σ (fun ad => (some (.int r.1))) r.2 := by
  refine Ct_of (by decide +kernel) (lv := fun ad zz => [(0, .ref (ad 0))]) (fun _ _ => rfl) (fun _ _ => Nat.le_of_ble_eq_true rfl) (fun p l e s m args below meth c D T ad zz C hr hlk => ?_)
  rw [F_X10_boltingPairs] at hF
  refine V_aload_n C 0 dX10_boltingPairs_0 rfl ?_
  refine gf_X10_53 C dX10_boltingPairs_1 ?_
  refine V_aload_n C 0 dX10_boltingPairs_4 rfl ?_
  refine gf_X10_26 C dX10_boltingPairs_5 ?_
  obtain ⟨σ1, hs1, hF⟩ := bnd hF
  refine cs_X10_184 C (ct_X9_weigh (by decide) hs1) rfl ⟨by decide, by decide⟩ (Nat.le_of_ble_eq_true rfl) dX10_boltingPairs_8 ⟨Nat.le_refl 0, Nat.le_refl 0⟩ ?_
  refine V_iconst C dX10_boltingPairs_11 (v := (0 : Int32)) (by decide) ?_
  refine V_istore_n C (lv' := [(1, .int (0 : Int32)), (0, .ref (ad 0))]) dX10_boltingPairs_12 rfl (by decide) rfl ?_
  refine V_iconst C dX10_boltingPairs_13 (v := (0 : Int32)) (by decide) ?_
  refine V_istore_n C (lv' := [(2, .int (0 : Int32)), (1, .int (0 : Int32)), (0, .ref (ad 0))]) dX10_boltingPairs_14 rfl (by decide) rfl ?_
  refine V_lv (ks := [2, 1, 0]) rfl ?_
  exact w_X10_boltingPairs_b15 C hr hlk 4000 (0 : Int32) (0 : Int32) σ1 hF

def F_X10_about (a1 : Int32) (σ : Mem) : Option (Int32 × Mem) :=
  if a1 = 0 then
    some ((σ.1 1), σ)
  else if a1 = 1 then
    some ((σ.1 2), σ)
  else if a1 = 2 then
    Option.bind (F_X7_takenBits 0 σ) fun q1 =>
    some (q1, σ)
  else if a1 = 3 then
    some ((σ.1 (40 + 0)), σ)
  else if a1 = 4 then
    some ((σ.1 4), σ)
  else if a1 = 5 then
    some ((σ.1 5), σ)
  else if a1 = 6 then
    some ((σ.1 0), σ)
  else if a1 = 7 then
    Option.bind (F_X10_boltingPairs σ) fun q2 =>
    some (q2.1, q2.2)
  else some ((-2 : Int32), σ)
set_option maxHeartbeats 4000000 in
set_option maxRecDepth 20000 in
theorem ct_X10_about {a1 : Int32} {σ : Mem} {r : (Int32 × Mem)} (hF : F_X10_about a1 σ = some r) : Ct yX10_about cX10_about 2 (some .int) 5 117 (fun ad zz => [.ref (ad 0), .int a1]) σ (fun ad => (some (.int r.1))) r.2 := by
  refine Ct_of (by decide +kernel) (lv := fun ad zz => [(0, .ref (ad 0)), (1, .int a1)]) (fun _ _ => rfl) (fun _ _ => Nat.le_of_ble_eq_true rfl) (fun p l e s m args below meth c D T ad zz C hr hlk => ?_)
  rw [F_X10_about] at hF
  refine V_iload_n C 1 dX10_about_0 rfl ?_
  by_cases hw0 : a1 = 0
  · rw [if_pos hw0] at hF
    refine V_tsIn C (v := 0) (off := 47) 48 hw0 dX10_about_1 (by decide) (by decide) (by decide) (by decide) ?_
    refine V_aload_n C 0 dX10_about_48 rfl ?_
    refine gf_X10_19 C dX10_about_49 ?_
    refine gf_X10_116 C dX10_about_52 ?_
    cases hF
    exact V_iret C hr hlk rfl rfl dX10_about_55
  rw [if_neg hw0] at hF
  by_cases hw1 : a1 = 1
  · rw [if_pos hw1] at hF
    refine V_tsIn C (v := 1) (off := 55) 56 hw1 dX10_about_1 (by decide) (by decide) (by decide) (by decide) ?_
    refine V_aload_n C 0 dX10_about_56 rfl ?_
    refine gf_X10_19 C dX10_about_57 ?_
    refine gf_X10_119 C dX10_about_60 ?_
    cases hF
    exact V_iret C hr hlk rfl rfl dX10_about_63
  rw [if_neg hw1] at hF
  by_cases hw2 : a1 = 2
  · rw [if_pos hw2] at hF
    refine V_tsIn C (v := 2) (off := 63) 64 hw2 dX10_about_1 (by decide) (by decide) (by decide) (by decide) ?_
    refine V_aload_n C 0 dX10_about_64 rfl ?_
    refine gf_X10_26 C dX10_about_65 ?_
    refine gf_X10_122 C (by decide) dX10_about_68 ?_
    obtain ⟨q1, hq1, hF⟩ := bnd hF
    refine cs_X10_125 C (by decide) (ct_X7_takenBits (by decide) hq1) rfl ⟨by decide, by decide⟩ (Nat.le_of_ble_eq_true rfl) dX10_about_71 ⟨Nat.le_refl 0, Nat.le_refl 0⟩ ?_
    cases hF
    exact V_iret C hr hlk rfl rfl dX10_about_74
  rw [if_neg hw2] at hF
  by_cases hw3 : a1 = 3
  · rw [if_pos hw3] at hF
    refine V_tsIn C (v := 3) (off := 74) 75 hw3 dX10_about_1 (by decide) (by decide) (by decide) (by decide) ?_
    refine V_aload_n C 0 dX10_about_75 rfl ?_
    refine gf_X10_26 C dX10_about_76 ?_
    refine gf_X10_128 C (by decide) dX10_about_79 ?_
    cases hF
    exact V_iret C hr hlk rfl rfl dX10_about_82
  rw [if_neg hw3] at hF
  by_cases hw4 : a1 = 4
  · rw [if_pos hw4] at hF
    refine V_tsIn C (v := 4) (off := 82) 83 hw4 dX10_about_1 (by decide) (by decide) (by decide) (by decide) ?_
    refine V_aload_n C 0 dX10_about_83 rfl ?_
    refine gf_X10_33 C dX10_about_84 ?_
    refine gf_X10_110 C dX10_about_87 ?_
    cases hF
    exact V_iret C hr hlk rfl rfl dX10_about_90
  rw [if_neg hw4] at hF
  by_cases hw5 : a1 = 5
  · rw [if_pos hw5] at hF
    refine V_tsIn C (v := 5) (off := 90) 91 hw5 dX10_about_1 (by decide) (by decide) (by decide) (by decide) ?_
    refine V_aload_n C 0 dX10_about_91 rfl ?_
    refine gf_X10_44 C dX10_about_92 ?_
    refine gf_X10_131 C dX10_about_95 ?_
    cases hF
    exact V_iret C hr hlk rfl rfl dX10_about_98
  rw [if_neg hw5] at hF
  by_cases hw6 : a1 = 6
  · rw [if_pos hw6] at hF
    refine V_tsIn C (v := 6) (off := 98) 99 hw6 dX10_about_1 (by decide) (by decide) (by decide) (by decide) ?_
    refine V_aload_n C 0 dX10_about_99 rfl ?_
    refine gf_X10_12 C dX10_about_100 ?_
    refine gf_X10_95 C dX10_about_103 ?_
    cases hF
    exact V_iret C hr hlk rfl rfl dX10_about_106
  rw [if_neg hw6] at hF
  by_cases hw7 : a1 = 7
  · rw [if_pos hw7] at hF
    refine V_tsIn C (v := 7) (off := 106) 107 hw7 dX10_about_1 (by decide) (by decide) (by decide) (by decide) ?_
    refine V_aload_n C 0 dX10_about_107 rfl ?_
    obtain ⟨q2, hq2, hF⟩ := bnd hF
    refine cs_X10_132 C (ct_X10_boltingPairs hq2) rfl ⟨by decide, by decide⟩ (Nat.le_of_ble_eq_true rfl) dX10_about_108 ⟨Nat.le_refl 0, Nat.le_refl 0⟩ ?_
    cases hF
    exact V_iret C hr hlk rfl rfl dX10_about_111
  rw [if_neg hw7] at hF
  refine V_tsOut C 112 (by have q0 := lv_neT hw0 (show (0 : Int32).toInt = 0 by decide); have q1 := lv_neT hw1 (show (1 : Int32).toInt = 1 by decide); have q2 := lv_neT hw2 (show (2 : Int32).toInt = 2 by decide); have q3 := lv_neT hw3 (show (3 : Int32).toInt = 3 by decide); have q4 := lv_neT hw4 (show (4 : Int32).toInt = 4 by decide); have q5 := lv_neT hw5 (show (5 : Int32).toInt = 5 by decide); have q6 := lv_neT hw6 (show (6 : Int32).toInt = 6 by decide); have q7 := lv_neT hw7 (show (7 : Int32).toInt = 7 by decide); omega) dX10_about_1 (by decide) ?_
  refine V_bipush C dX10_about_112 (v := (-2 : Int32)) (by decide) ?_
  cases hF
  exact V_iret C hr hlk rfl rfl dX10_about_114

def F_X10_asFigures (n1 : Nat) (a2 : Int32) (σ : Mem) : Option Int32 :=
  Option.bind (F_X10_at n1 ((3 : Int32) * a2) σ) fun q1 =>
  Option.bind (F_X10_at n1 (((3 : Int32) * a2) + (1 : Int32)) σ) fun q2 =>
  Option.bind (F_X10_at n1 (((3 : Int32) * a2) + (2 : Int32)) σ) fun q3 =>
  some ((((100 : Int32) * q1) + ((10 : Int32) * q2)) + q3)
set_option maxHeartbeats 4000000 in
set_option maxRecDepth 20000 in
theorem ct_X10_asFigures {n1 : Nat} {a2 : Int32} {σ : Mem} {r : Int32} (hn1 : n1 < 67) (hF : F_X10_asFigures n1 a2 σ = some r) : Ct yX10_asFigures cX10_asFigures 3 (some .int) 1 21 (fun ad zz => [.ref (ad (12 + n1)), .int a2]) σ (fun ad => (some (.int r))) σ := by
  refine Ct_of (by decide +kernel) (lv := fun ad zz => [(0, .ref (ad (12 + n1))), (1, .int a2)]) (fun _ _ => rfl) (fun _ _ => Nat.le_of_ble_eq_true rfl) (fun p l e s m args below meth c D T ad zz C hr hlk => ?_)
  rw [F_X10_asFigures] at hF
  refine V_iconst C dX10_asFigures_0 (v := (3 : Int32)) (by decide) ?_
  refine V_iload_n C 1 dX10_asFigures_1 rfl ?_
  refine V_imul C dX10_asFigures_2 ?_
  refine V_istore_n C (lv' := [(2, .int ((3 : Int32) * a2)), (0, .ref (ad (12 + n1))), (1, .int a2)]) dX10_asFigures_3 rfl (by decide) rfl ?_
  refine V_bipush C dX10_asFigures_4 (v := (100 : Int32)) (by decide) ?_
  refine V_aload_n C 1 dX10_asFigures_6 rfl ?_
  refine V_iload_n C 0 dX10_asFigures_7 rfl ?_
  obtain ⟨q1, hq1, hF⟩ := bnd hF
  refine cs_X10_142 C (ct_X10_at hn1 hq1) rfl ⟨by decide, by decide⟩ (Nat.le_of_ble_eq_true rfl) dX10_asFigures_8 ⟨Nat.le_refl 0, Nat.le_refl 0⟩ ?_
  refine V_imul C dX10_asFigures_11 ?_
  refine V_bipush C dX10_asFigures_12 (v := (10 : Int32)) (by decide) ?_
  refine V_aload_n C 1 dX10_asFigures_14 rfl ?_
  refine V_iload_n C 0 dX10_asFigures_15 rfl ?_
  refine V_iconst C dX10_asFigures_16 (v := (1 : Int32)) (by decide) ?_
  refine V_iadd C dX10_asFigures_17 ?_
  obtain ⟨q2, hq2, hF⟩ := bnd hF
  refine cs_X10_142 C (ct_X10_at hn1 hq2) rfl ⟨by decide, by decide⟩ (Nat.le_of_ble_eq_true rfl) dX10_asFigures_18 ⟨Nat.le_refl 0, Nat.le_refl 0⟩ ?_
  refine V_imul C dX10_asFigures_21 ?_
  refine V_iadd C dX10_asFigures_22 ?_
  refine V_aload_n C 1 dX10_asFigures_23 rfl ?_
  refine V_iload_n C 0 dX10_asFigures_24 rfl ?_
  refine V_iconst C dX10_asFigures_25 (v := (2 : Int32)) (by decide) ?_
  refine V_iadd C dX10_asFigures_26 ?_
  obtain ⟨q3, hq3, hF⟩ := bnd hF
  refine cs_X10_142 C (ct_X10_at hn1 hq3) rfl ⟨by decide, by decide⟩ (Nat.le_of_ble_eq_true rfl) dX10_asFigures_27 ⟨Nat.le_refl 0, Nat.le_refl 0⟩ ?_
  refine V_iadd C dX10_asFigures_30 ?_
  cases hF
  exact V_iret C hr hlk rfl rfl dX10_asFigures_31

def F_X10_horse (a1 : Int32) (a2 : Int32) (σ : Mem) : Option Int32 :=
  Option.bind (F_X3_hasHorse a1 σ) fun q1 =>
  if q1 = 0 then
    some (-1 : Int32)
  else
    if a2 = 0 then
      Option.bind (F_X10_at 1 a1 σ) fun q2 =>
      some q2
    else if a2 = 1 then
      Option.bind (F_X10_asFigures 2 a1 σ) fun q3 =>
      some q3
    else if a2 = 2 then
      Option.bind (F_X10_at 3 a1 σ) fun q4 =>
      some q4
    else if a2 = 3 then
      Option.bind (F_X10_at 4 a1 σ) fun q5 =>
      some q5
    else if a2 = 4 then
      Option.bind (F_X10_at 5 a1 σ) fun q6 =>
      some q6
    else if a2 = 5 then
      Option.bind (F_X7_keptBits 0 a1 σ) fun q7 =>
      some q7
    else some (-2 : Int32)
set_option maxHeartbeats 4000000 in
set_option maxRecDepth 20000 in
theorem ct_X10_horse {a1 : Int32} {a2 : Int32} {σ : Mem} {r : Int32} (hF : F_X10_horse a1 a2 σ = some r) : Ct yX10_horse cX10_horse 3 (some .int) 2 43 (fun ad zz => [.ref (ad 0), .int a1, .int a2]) σ (fun ad => (some (.int r))) σ := by
  refine Ct_of (by decide +kernel) (lv := fun ad zz => [(0, .ref (ad 0)), (1, .int a1), (2, .int a2)]) (fun _ _ => rfl) (fun _ _ => Nat.le_of_ble_eq_true rfl) (fun p l e s m args below meth c D T ad zz C hr hlk => ?_)
  rw [F_X10_horse] at hF
  refine V_aload_n C 0 dX10_horse_0 rfl ?_
  refine gf_X10_19 C dX10_horse_1 ?_
  refine V_iload_n C 1 dX10_horse_4 rfl ?_
  obtain ⟨q1, hq1, hF⟩ := bnd hF
  refine cs_X10_135 C (ct_X3_hasHorse hq1) rfl ⟨by decide, by decide⟩ (Nat.le_of_ble_eq_true rfl) dX10_horse_5 ⟨Nat.le_refl 0, Nat.le_refl 0⟩ ?_
  refine V_if_ne C 13 dX10_horse_8 (by decide) hF (fun hF => ?_) (fun hF => ?_)
  · refine V_iload_n C 2 dX10_horse_13 rfl ?_
    by_cases hw0 : a2 = 0
    · rw [if_pos hw0] at hF
      refine V_tsIn C (v := 0) (off := 38) 52 hw0 dX10_horse_14 (by decide) (by decide) (by decide) (by decide) ?_
      refine V_aload_n C 0 dX10_horse_52 rfl ?_
      refine gf_X10_19 C dX10_horse_53 ?_
      refine gf_X10_138 C dX10_horse_56 ?_
      refine V_iload_n C 1 dX10_horse_59 rfl ?_
      obtain ⟨q2, hq2, hF⟩ := bnd hF
      refine cs_X10_142 C (ct_X10_at (by decide) hq2) rfl ⟨by decide, by decide⟩ (Nat.le_of_ble_eq_true rfl) dX10_horse_60 ⟨Nat.le_refl 0, Nat.le_refl 0⟩ ?_
      cases hF
      exact V_iret C hr hlk rfl rfl dX10_horse_63
    rw [if_neg hw0] at hF
    by_cases hw1 : a2 = 1
    · rw [if_pos hw1] at hF
      refine V_tsIn C (v := 1) (off := 50) 64 hw1 dX10_horse_14 (by decide) (by decide) (by decide) (by decide) ?_
      refine V_aload_n C 0 dX10_horse_64 rfl ?_
      refine gf_X10_19 C dX10_horse_65 ?_
      refine gf_X10_146 C dX10_horse_68 ?_
      refine V_iload_n C 1 dX10_horse_71 rfl ?_
      obtain ⟨q3, hq3, hF⟩ := bnd hF
      refine cs_X10_149 C (ct_X10_asFigures (by decide) hq3) rfl ⟨by decide, by decide⟩ (Nat.le_of_ble_eq_true rfl) dX10_horse_72 ⟨Nat.le_refl 0, Nat.le_refl 0⟩ ?_
      cases hF
      exact V_iret C hr hlk rfl rfl dX10_horse_75
    rw [if_neg hw1] at hF
    by_cases hw2 : a2 = 2
    · rw [if_pos hw2] at hF
      refine V_tsIn C (v := 2) (off := 62) 76 hw2 dX10_horse_14 (by decide) (by decide) (by decide) (by decide) ?_
      refine V_aload_n C 0 dX10_horse_76 rfl ?_
      refine gf_X10_19 C dX10_horse_77 ?_
      refine gf_X10_152 C dX10_horse_80 ?_
      refine V_iload_n C 1 dX10_horse_83 rfl ?_
      obtain ⟨q4, hq4, hF⟩ := bnd hF
      refine cs_X10_142 C (ct_X10_at (by decide) hq4) rfl ⟨by decide, by decide⟩ (Nat.le_of_ble_eq_true rfl) dX10_horse_84 ⟨Nat.le_refl 0, Nat.le_refl 0⟩ ?_
      cases hF
      exact V_iret C hr hlk rfl rfl dX10_horse_87
    rw [if_neg hw2] at hF
    by_cases hw3 : a2 = 3
    · rw [if_pos hw3] at hF
      refine V_tsIn C (v := 3) (off := 74) 88 hw3 dX10_horse_14 (by decide) (by decide) (by decide) (by decide) ?_
      refine V_aload_n C 0 dX10_horse_88 rfl ?_
      refine gf_X10_19 C dX10_horse_89 ?_
      refine gf_X10_155 C dX10_horse_92 ?_
      refine V_iload_n C 1 dX10_horse_95 rfl ?_
      obtain ⟨q5, hq5, hF⟩ := bnd hF
      refine cs_X10_142 C (ct_X10_at (by decide) hq5) rfl ⟨by decide, by decide⟩ (Nat.le_of_ble_eq_true rfl) dX10_horse_96 ⟨Nat.le_refl 0, Nat.le_refl 0⟩ ?_
      cases hF
      exact V_iret C hr hlk rfl rfl dX10_horse_99
    rw [if_neg hw3] at hF
    by_cases hw4 : a2 = 4
    · rw [if_pos hw4] at hF
      refine V_tsIn C (v := 4) (off := 86) 100 hw4 dX10_horse_14 (by decide) (by decide) (by decide) (by decide) ?_
      refine V_aload_n C 0 dX10_horse_100 rfl ?_
      refine gf_X10_19 C dX10_horse_101 ?_
      refine gf_X10_158 C dX10_horse_104 ?_
      refine V_iload_n C 1 dX10_horse_107 rfl ?_
      obtain ⟨q6, hq6, hF⟩ := bnd hF
      refine cs_X10_142 C (ct_X10_at (by decide) hq6) rfl ⟨by decide, by decide⟩ (Nat.le_of_ble_eq_true rfl) dX10_horse_108 ⟨Nat.le_refl 0, Nat.le_refl 0⟩ ?_
      cases hF
      exact V_iret C hr hlk rfl rfl dX10_horse_111
    rw [if_neg hw4] at hF
    by_cases hw5 : a2 = 5
    · rw [if_pos hw5] at hF
      refine V_tsIn C (v := 5) (off := 98) 112 hw5 dX10_horse_14 (by decide) (by decide) (by decide) (by decide) ?_
      refine V_aload_n C 0 dX10_horse_112 rfl ?_
      refine gf_X10_26 C dX10_horse_113 ?_
      refine gf_X10_122 C (by decide) dX10_horse_116 ?_
      refine V_iload_n C 1 dX10_horse_119 rfl ?_
      obtain ⟨q7, hq7, hF⟩ := bnd hF
      refine cs_X10_161 C (by decide) (ct_X7_keptBits (by decide) hq7) rfl ⟨by decide, by decide⟩ (Nat.le_of_ble_eq_true rfl) dX10_horse_120 ⟨Nat.le_refl 0, Nat.le_refl 0⟩ ?_
      cases hF
      exact V_iret C hr hlk rfl rfl dX10_horse_123
    rw [if_neg hw5] at hF
    refine V_tsOut C 124 (by have q0 := lv_neT hw0 (show (0 : Int32).toInt = 0 by decide); have q1 := lv_neT hw1 (show (1 : Int32).toInt = 1 by decide); have q2 := lv_neT hw2 (show (2 : Int32).toInt = 2 by decide); have q3 := lv_neT hw3 (show (3 : Int32).toInt = 3 by decide); have q4 := lv_neT hw4 (show (4 : Int32).toInt = 4 by decide); have q5 := lv_neT hw5 (show (5 : Int32).toInt = 5 by decide); omega) dX10_horse_14 (by decide) ?_
    refine V_bipush C dX10_horse_124 (v := (-2 : Int32)) (by decide) ?_
    cases hF
    exact V_iret C hr hlk rfl rfl dX10_horse_126
  · refine V_iconst C dX10_horse_11 (v := (-1 : Int32)) (by decide) ?_
    cases hF
    exact V_iret C hr hlk rfl rfl dX10_horse_12
