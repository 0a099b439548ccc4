-- walks: J6_bitCount_0f7a4 X7_keptCount X7_set X9_horseLikes X7_leastLiked X7_leadTo X4_holdByRiders X4_bestToAsk X4_leastToAsk X4_holdByHorses X5_clear X6_add X6_leastFigure X10_atZ
def F_J6_bitCount_0f7a4 (a1 : Int32) (σ : Mem) : Option Int32 :=
  some ((((((((a1 - (((a1).toUInt32 >>> (((1 : Int32)).toUInt32 &&& Int32.toUInt32 31)).toInt32 &&& (1431655765 : Int32))) &&& (858993459 : Int32)) + ((((a1 - (((a1).toUInt32 >>> (((1 : Int32)).toUInt32 &&& Int32.toUInt32 31)).toInt32 &&& (1431655765 : Int32)))).toUInt32 >>> (((2 : Int32)).toUInt32 &&& Int32.toUInt32 31)).toInt32 &&& (858993459 : Int32))) + (((((a1 - (((a1).toUInt32 >>> (((1 : Int32)).toUInt32 &&& Int32.toUInt32 31)).toInt32 &&& (1431655765 : Int32))) &&& (858993459 : Int32)) + ((((a1 - (((a1).toUInt32 >>> (((1 : Int32)).toUInt32 &&& Int32.toUInt32 31)).toInt32 &&& (1431655765 : Int32)))).toUInt32 >>> (((2 : Int32)).toUInt32 &&& Int32.toUInt32 31)).toInt32 &&& (858993459 : Int32)))).toUInt32 >>> (((4 : Int32)).toUInt32 &&& Int32.toUInt32 31)).toInt32) &&& (252645135 : Int32)) + (((((((a1 - (((a1).toUInt32 >>> (((1 : Int32)).toUInt32 &&& Int32.toUInt32 31)).toInt32 &&& (1431655765 : Int32))) &&& (858993459 : Int32)) + ((((a1 - (((a1).toUInt32 >>> (((1 : Int32)).toUInt32 &&& Int32.toUInt32 31)).toInt32 &&& (1431655765 : Int32)))).toUInt32 >>> (((2 : Int32)).toUInt32 &&& Int32.toUInt32 31)).toInt32 &&& (858993459 : Int32))) + (((((a1 - (((a1).toUInt32 >>> (((1 : Int32)).toUInt32 &&& Int32.toUInt32 31)).toInt32 &&& (1431655765 : Int32))) &&& (858993459 : Int32)) + ((((a1 - (((a1).toUInt32 >>> (((1 : Int32)).toUInt32 &&& Int32.toUInt32 31)).toInt32 &&& (1431655765 : Int32)))).toUInt32 >>> (((2 : Int32)).toUInt32 &&& Int32.toUInt32 31)).toInt32 &&& (858993459 : Int32)))).toUInt32 >>> (((4 : Int32)).toUInt32 &&& Int32.toUInt32 31)).toInt32) &&& (252645135 : Int32))).toUInt32 >>> (((8 : Int32)).toUInt32 &&& Int32.toUInt32 31)).toInt32) + ((((((((a1 - (((a1).toUInt32 >>> (((1 : Int32)).toUInt32 &&& Int32.toUInt32 31)).toInt32 &&& (1431655765 : Int32))) &&& (858993459 : Int32)) + ((((a1 - (((a1).toUInt32 >>> (((1 : Int32)).toUInt32 &&& Int32.toUInt32 31)).toInt32 &&& (1431655765 : Int32)))).toUInt32 >>> (((2 : Int32)).toUInt32 &&& Int32.toUInt32 31)).toInt32 &&& (858993459 : Int32))) + (((((a1 - (((a1).toUInt32 >>> (((1 : Int32)).toUInt32 &&& Int32.toUInt32 31)).toInt32 &&& (1431655765 : Int32))) &&& (858993459 : Int32)) + ((((a1 - (((a1).toUInt32 >>> (((1 : Int32)).toUInt32 &&& Int32.toUInt32 31)).toInt32 &&& (1431655765 : Int32)))).toUInt32 >>> (((2 : Int32)).toUInt32 &&& Int32.toUInt32 31)).toInt32 &&& (858993459 : Int32)))).toUInt32 >>> (((4 : Int32)).toUInt32 &&& Int32.toUInt32 31)).toInt32) &&& (252645135 : Int32)) + (((((((a1 - (((a1).toUInt32 >>> (((1 : Int32)).toUInt32 &&& Int32.toUInt32 31)).toInt32 &&& (1431655765 : Int32))) &&& (858993459 : Int32)) + ((((a1 - (((a1).toUInt32 >>> (((1 : Int32)).toUInt32 &&& Int32.toUInt32 31)).toInt32 &&& (1431655765 : Int32)))).toUInt32 >>> (((2 : Int32)).toUInt32 &&& Int32.toUInt32 31)).toInt32 &&& (858993459 : Int32))) + (((((a1 - (((a1).toUInt32 >>> (((1 : Int32)).toUInt32 &&& Int32.toUInt32 31)).toInt32 &&& (1431655765 : Int32))) &&& (858993459 : Int32)) + ((((a1 - (((a1).toUInt32 >>> (((1 : Int32)).toUInt32 &&& Int32.toUInt32 31)).toInt32 &&& (1431655765 : Int32)))).toUInt32 >>> (((2 : Int32)).toUInt32 &&& Int32.toUInt32 31)).toInt32 &&& (858993459 : Int32)))).toUInt32 >>> (((4 : Int32)).toUInt32 &&& Int32.toUInt32 31)).toInt32) &&& (252645135 : Int32))).toUInt32 >>> (((8 : Int32)).toUInt32 &&& Int32.toUInt32 31)).toInt32)).toUInt32 >>> (((16 : Int32)).toUInt32 &&& Int32.toUInt32 31)).toInt32) &&& (63 : Int32))
set_option maxHeartbeats 4000000 in
set_option maxRecDepth 20000 in
theorem ct_J6_bitCount_0f7a4 {a1 : Int32} {σ : Mem} {r : Int32} (hF : F_J6_bitCount_0f7a4 a1 σ = some r) : Ct yJ6_bitCount_0f7a4 cJ6_bitCount_0f7a4 1 (some .int) 0 0 (fun ad zz => [.int a1]) σ (fun ad => (some (.int r))) σ := by
  refine Ct_of (by decide +kernel) (lv := fun ad zz => [(0, .int a1)]) (fun _ _ => rfl) (fun _ _ => Nat.le_of_ble_eq_true rfl) (fun p l e s m args below meth c D T ad zz C hr hlk => ?_)
  rw [F_J6_bitCount_0f7a4] at hF
  refine V_iload_n C 0 dJ6_bitCount_0f7a4_0 rfl ?_
  refine V_iload_n C 0 dJ6_bitCount_0f7a4_1 rfl ?_
  refine V_iconst C dJ6_bitCount_0f7a4_2 (v := (1 : Int32)) (by decide) ?_
  refine V_iushr C dJ6_bitCount_0f7a4_3 ?_
  refine V_ldcw C dJ6_bitCount_0f7a4_4 (v := (1431655765 : Int32)) (TB_in 537 (by decide +kernel) (by decide +kernel)) ?_
  refine V_iand C dJ6_bitCount_0f7a4_7 ?_
  refine V_isub C dJ6_bitCount_0f7a4_8 ?_
  refine V_istore_n C (lv' := [(0, .int (a1 - (((a1).toUInt32 >>> (((1 : Int32)).toUInt32 &&& Int32.toUInt32 31)).toInt32 &&& (1431655765 : Int32))))]) dJ6_bitCount_0f7a4_9 rfl (by decide) rfl ?_
  refine V_iload_n C 0 dJ6_bitCount_0f7a4_10 rfl ?_
  refine V_ldcw C dJ6_bitCount_0f7a4_11 (v := (858993459 : Int32)) (TB_in 538 (by decide +kernel) (by decide +kernel)) ?_
  refine V_iand C dJ6_bitCount_0f7a4_14 ?_
  refine V_iload_n C 0 dJ6_bitCount_0f7a4_15 rfl ?_
  refine V_iconst C dJ6_bitCount_0f7a4_16 (v := (2 : Int32)) (by decide) ?_
  refine V_iushr C dJ6_bitCount_0f7a4_17 ?_
  refine V_ldcw C dJ6_bitCount_0f7a4_18 (v := (858993459 : Int32)) (TB_in 538 (by decide +kernel) (by decide +kernel)) ?_
  refine V_iand C dJ6_bitCount_0f7a4_21 ?_
  refine V_iadd C dJ6_bitCount_0f7a4_22 ?_
  refine V_istore_n C (lv' := [(0, .int (((a1 - (((a1).toUInt32 >>> (((1 : Int32)).toUInt32 &&& Int32.toUInt32 31)).toInt32 &&& (1431655765 : Int32))) &&& (858993459 : Int32)) + ((((a1 - (((a1).toUInt32 >>> (((1 : Int32)).toUInt32 &&& Int32.toUInt32 31)).toInt32 &&& (1431655765 : Int32)))).toUInt32 >>> (((2 : Int32)).toUInt32 &&& Int32.toUInt32 31)).toInt32 &&& (858993459 : Int32))))]) dJ6_bitCount_0f7a4_23 rfl (by decide) rfl ?_
  refine V_iload_n C 0 dJ6_bitCount_0f7a4_24 rfl ?_
  refine V_iload_n C 0 dJ6_bitCount_0f7a4_25 rfl ?_
  refine V_iconst C dJ6_bitCount_0f7a4_26 (v := (4 : Int32)) (by decide) ?_
  refine V_iushr C dJ6_bitCount_0f7a4_27 ?_
  refine V_iadd C dJ6_bitCount_0f7a4_28 ?_
  refine V_ldcw C dJ6_bitCount_0f7a4_29 (v := (252645135 : Int32)) (TB_in 539 (by decide +kernel) (by decide +kernel)) ?_
  refine V_iand C dJ6_bitCount_0f7a4_32 ?_
  refine V_istore_n C (lv' := [(0, .int (((((a1 - (((a1).toUInt32 >>> (((1 : Int32)).toUInt32 &&& Int32.toUInt32 31)).toInt32 &&& (1431655765 : Int32))) &&& (858993459 : Int32)) + ((((a1 - (((a1).toUInt32 >>> (((1 : Int32)).toUInt32 &&& Int32.toUInt32 31)).toInt32 &&& (1431655765 : Int32)))).toUInt32 >>> (((2 : Int32)).toUInt32 &&& Int32.toUInt32 31)).toInt32 &&& (858993459 : Int32))) + (((((a1 - (((a1).toUInt32 >>> (((1 : Int32)).toUInt32 &&& Int32.toUInt32 31)).toInt32 &&& (1431655765 : Int32))) &&& (858993459 : Int32)) + ((((a1 - (((a1).toUInt32 >>> (((1 : Int32)).toUInt32 &&& Int32.toUInt32 31)).toInt32 &&& (1431655765 : Int32)))).toUInt32 >>> (((2 : Int32)).toUInt32 &&& Int32.toUInt32 31)).toInt32 &&& (858993459 : Int32)))).toUInt32 >>> (((4 : Int32)).toUInt32 &&& Int32.toUInt32 31)).toInt32) &&& (252645135 : Int32)))]) dJ6_bitCount_0f7a4_33 rfl (by decide) rfl ?_
  refine V_iload_n C 0 dJ6_bitCount_0f7a4_34 rfl ?_
  refine V_iload_n C 0 dJ6_bitCount_0f7a4_35 rfl ?_
  refine V_bipush C dJ6_bitCount_0f7a4_36 (v := (8 : Int32)) (by decide) ?_
  refine V_iushr C dJ6_bitCount_0f7a4_38 ?_
  refine V_iadd C dJ6_bitCount_0f7a4_39 ?_
  refine V_istore_n C (lv' := [(0, .int ((((((a1 - (((a1).toUInt32 >>> (((1 : Int32)).toUInt32 &&& Int32.toUInt32 31)).toInt32 &&& (1431655765 : Int32))) &&& (858993459 : Int32)) + ((((a1 - (((a1).toUInt32 >>> (((1 : Int32)).toUInt32 &&& Int32.toUInt32 31)).toInt32 &&& (1431655765 : Int32)))).toUInt32 >>> (((2 : Int32)).toUInt32 &&& Int32.toUInt32 31)).toInt32 &&& (858993459 : Int32))) + (((((a1 - (((a1).toUInt32 >>> (((1 : Int32)).toUInt32 &&& Int32.toUInt32 31)).toInt32 &&& (1431655765 : Int32))) &&& (858993459 : Int32)) + ((((a1 - (((a1).toUInt32 >>> (((1 : Int32)).toUInt32 &&& Int32.toUInt32 31)).toInt32 &&& (1431655765 : Int32)))).toUInt32 >>> (((2 : Int32)).toUInt32 &&& Int32.toUInt32 31)).toInt32 &&& (858993459 : Int32)))).toUInt32 >>> (((4 : Int32)).toUInt32 &&& Int32.toUInt32 31)).toInt32) &&& (252645135 : Int32)) + (((((((a1 - (((a1).toUInt32 >>> (((1 : Int32)).toUInt32 &&& Int32.toUInt32 31)).toInt32 &&& (1431655765 : Int32))) &&& (858993459 : Int32)) + ((((a1 - (((a1).toUInt32 >>> (((1 : Int32)).toUInt32 &&& Int32.toUInt32 31)).toInt32 &&& (1431655765 : Int32)))).toUInt32 >>> (((2 : Int32)).toUInt32 &&& Int32.toUInt32 31)).toInt32 &&& (858993459 : Int32))) + (((((a1 - (((a1).toUInt32 >>> (((1 : Int32)).toUInt32 &&& Int32.toUInt32 31)).toInt32 &&& (1431655765 : Int32))) &&& (858993459 : Int32)) + ((((a1 - (((a1).toUInt32 >>> (((1 : Int32)).toUInt32 &&& Int32.toUInt32 31)).toInt32 &&& (1431655765 : Int32)))).toUInt32 >>> (((2 : Int32)).toUInt32 &&& Int32.toUInt32 31)).toInt32 &&& (858993459 : Int32)))).toUInt32 >>> (((4 : Int32)).toUInt32 &&& Int32.toUInt32 31)).toInt32) &&& (252645135 : Int32))).toUInt32 >>> (((8 : Int32)).toUInt32 &&& Int32.toUInt32 31)).toInt32))]) dJ6_bitCount_0f7a4_40 rfl (by decide) rfl ?_
  refine V_iload_n C 0 dJ6_bitCount_0f7a4_41 rfl ?_
  refine V_iload_n C 0 dJ6_bitCount_0f7a4_42 rfl ?_
  refine V_bipush C dJ6_bitCount_0f7a4_43 (v := (16 : Int32)) (by decide) ?_
  refine V_iushr C dJ6_bitCount_0f7a4_45 ?_
  refine V_iadd C dJ6_bitCount_0f7a4_46 ?_
  refine V_istore_n C (lv' := [(0, .int (((((((a1 - (((a1).toUInt32 >>> (((1 : Int32)).toUInt32 &&& Int32.toUInt32 31)).toInt32 &&& (1431655765 : Int32))) &&& (858993459 : Int32)) + ((((a1 - (((a1).toUInt32 >>> (((1 : Int32)).toUInt32 &&& Int32.toUInt32 31)).toInt32 &&& (1431655765 : Int32)))).toUInt32 >>> (((2 : Int32)).toUInt32 &&& Int32.toUInt32 31)).toInt32 &&& (858993459 : Int32))) + (((((a1 - (((a1).toUInt32 >>> (((1 : Int32)).toUInt32 &&& Int32.toUInt32 31)).toInt32 &&& (1431655765 : Int32))) &&& (858993459 : Int32)) + ((((a1 - (((a1).toUInt32 >>> (((1 : Int32)).toUInt32 &&& Int32.toUInt32 31)).toInt32 &&& (1431655765 : Int32)))).toUInt32 >>> (((2 : Int32)).toUInt32 &&& Int32.toUInt32 31)).toInt32 &&& (858993459 : Int32)))).toUInt32 >>> (((4 : Int32)).toUInt32 &&& Int32.toUInt32 31)).toInt32) &&& (252645135 : Int32)) + (((((((a1 - (((a1).toUInt32 >>> (((1 : Int32)).toUInt32 &&& Int32.toUInt32 31)).toInt32 &&& (1431655765 : Int32))) &&& (858993459 : Int32)) + ((((a1 - (((a1).toUInt32 >>> (((1 : Int32)).toUInt32 &&& Int32.toUInt32 31)).toInt32 &&& (1431655765 : Int32)))).toUInt32 >>> (((2 : Int32)).toUInt32 &&& Int32.toUInt32 31)).toInt32 &&& (858993459 : Int32))) + (((((a1 - (((a1).toUInt32 >>> (((1 : Int32)).toUInt32 &&& Int32.toUInt32 31)).toInt32 &&& (1431655765 : Int32))) &&& (858993459 : Int32)) + ((((a1 - (((a1).toUInt32 >>> (((1 : Int32)).toUInt32 &&& Int32.toUInt32 31)).toInt32 &&& (1431655765 : Int32)))).toUInt32 >>> (((2 : Int32)).toUInt32 &&& Int32.toUInt32 31)).toInt32 &&& (858993459 : Int32)))).toUInt32 >>> (((4 : Int32)).toUInt32 &&& Int32.toUInt32 31)).toInt32) &&& (252645135 : Int32))).toUInt32 >>> (((8 : Int32)).toUInt32 &&& Int32.toUInt32 31)).toInt32) + ((((((((a1 - (((a1).toUInt32 >>> (((1 : Int32)).toUInt32 &&& Int32.toUInt32 31)).toInt32 &&& (1431655765 : Int32))) &&& (858993459 : Int32)) + ((((a1 - (((a1).toUInt32 >>> (((1 : Int32)).toUInt32 &&& Int32.toUInt32 31)).toInt32 &&& (1431655765 : Int32)))).toUInt32 >>> (((2 : Int32)).toUInt32 &&& Int32.toUInt32 31)).toInt32 &&& (858993459 : Int32))) + (((((a1 - (((a1).toUInt32 >>> (((1 : Int32)).toUInt32 &&& Int32.toUInt32 31)).toInt32 &&& (1431655765 : Int32))) &&& (858993459 : Int32)) + ((((a1 - (((a1).toUInt32 >>> (((1 : Int32)).toUInt32 &&& Int32.toUInt32 31)).toInt32 &&& (1431655765 : Int32)))).toUInt32 >>> (((2 : Int32)).toUInt32 &&& Int32.toUInt32 31)).toInt32 &&& (858993459 : Int32)))).toUInt32 >>> (((4 : Int32)).toUInt32 &&& Int32.toUInt32 31)).toInt32) &&& (252645135 : Int32)) + (((((((a1 - (((a1).toUInt32 >>> (((1 : Int32)).toUInt32 &&& Int32.toUInt32 31)).toInt32 &&& (1431655765 : Int32))) &&& (858993459 : Int32)) + ((((a1 - (((a1).toUInt32 >>> (((1 : Int32)).toUInt32 &&& Int32.toUInt32 31)).toInt32 &&& (1431655765 : Int32)))).toUInt32 >>> (((2 : Int32)).toUInt32 &&& Int32.toUInt32 31)).toInt32 &&& (858993459 : Int32))) + (((((a1 - (((a1).toUInt32 >>> (((1 : Int32)).toUInt32 &&& Int32.toUInt32 31)).toInt32 &&& (1431655765 : Int32))) &&& (858993459 : Int32)) + ((((a1 - (((a1).toUInt32 >>> (((1 : Int32)).toUInt32 &&& Int32.toUInt32 31)).toInt32 &&& (1431655765 : Int32)))).toUInt32 >>> (((2 : Int32)).toUInt32 &&& Int32.toUInt32 31)).toInt32 &&& (858993459 : Int32)))).toUInt32 >>> (((4 : Int32)).toUInt32 &&& Int32.toUInt32 31)).toInt32) &&& (252645135 : Int32))).toUInt32 >>> (((8 : Int32)).toUInt32 &&& Int32.toUInt32 31)).toInt32)).toUInt32 >>> (((16 : Int32)).toUInt32 &&& Int32.toUInt32 31)).toInt32))]) dJ6_bitCount_0f7a4_47 rfl (by decide) rfl ?_
  refine V_iload_n C 0 dJ6_bitCount_0f7a4_48 rfl ?_
  refine V_bipush C dJ6_bitCount_0f7a4_49 (v := (63 : Int32)) (by decide) ?_
  refine V_iand C dJ6_bitCount_0f7a4_51 ?_
  cases hF
  exact V_iret C hr hlk rfl rfl dJ6_bitCount_0f7a4_52

def F_X7_keptCount (k0 : Nat) (a1 : Int32) (σ : Mem) : Option Int32 :=
  Option.bind (F_X7_keptBits k0 a1 σ) fun q1 =>
  Option.bind (F_J6_bitCount_0f7a4 q1 σ) fun q2 =>
  some q2
set_option maxHeartbeats 4000000 in
set_option maxRecDepth 20000 in
theorem ct_X7_keptCount {k0 : Nat} {a1 : Int32} {σ : Mem} {r : Int32} (hk0 : k0 < 21) (hF : F_X7_keptCount k0 a1 σ = some r) : Ct yX7_keptCount cX7_keptCount 2 (some .int) 1 23 (fun ad zz => [.ref (ad (97 + k0)), .int a1]) σ (fun ad => (some (.int r))) σ := by
  refine Ct_of (by decide +kernel) (lv := fun ad zz => [(0, .ref (ad (97 + k0))), (1, .int a1)]) (fun _ _ => rfl) (fun _ _ => Nat.le_of_ble_eq_true rfl) (fun p l e s m args below meth c D T ad zz C hr hlk => ?_)
  rw [F_X7_keptCount] at hF
  refine V_aload_n C 0 dX7_keptCount_0 rfl ?_
  refine V_iload_n C 1 dX7_keptCount_1 rfl ?_
  obtain ⟨q1, hq1, hF⟩ := bnd hF
  refine cs_X7_31 C hk0 (ct_X7_keptBits hk0 hq1) rfl ⟨by decide, by decide⟩ (Nat.le_of_ble_eq_true rfl) dX7_keptCount_2 ⟨Nat.le_refl 0, Nat.le_refl 0⟩ ?_
  obtain ⟨q2, hq2, hF⟩ := bnd hF
  refine cs_X7_35 C (ct_J6_bitCount_0f7a4 hq2) rfl ⟨by decide, by decide⟩ (Nat.le_of_ble_eq_true rfl) dX7_keptCount_5 ⟨Nat.le_refl 0, Nat.le_refl 0⟩ ?_
  cases hF
  exact V_iret C hr hlk rfl rfl dX7_keptCount_8

def F_X7_set (k0 : Nat) (a1 : Int32) (a2 : Int32) (σ : Mem) : Option Mem :=
  Option.bind (F_X10_put (15 + k0) a1 a2 σ) fun σ1 =>
  some σ1
set_option maxHeartbeats 4000000 in
set_option maxRecDepth 20000 in
theorem ct_X7_set {k0 : Nat} {a1 : Int32} {a2 : Int32} {σ : Mem} {r : Mem} (hk0 : k0 < 21) (hF : F_X7_set k0 a1 a2 σ = some r) : Ct yX7_set cX7_set 3 none 1 22 (fun ad zz => [.ref (ad (97 + k0)), .int a1, .int a2]) σ (fun ad => none) r := by
  refine Ct_of (by decide +kernel) (lv := fun ad zz => [(0, .ref (ad (97 + k0))), (1, .int a1), (2, .int a2)]) (fun _ _ => rfl) (fun _ _ => Nat.le_of_ble_eq_true rfl) (fun p l e s m args below meth c D T ad zz C hr hlk => ?_)
  rw [F_X7_set] at hF
  refine V_aload_n C 0 dX7_set_0 rfl ?_
  refine gf_X7_9 C hk0 dX7_set_1 ?_
  refine V_iload_n C 1 dX7_set_4 rfl ?_
  refine V_iload_n C 2 dX7_set_5 rfl ?_
  obtain ⟨σ1, hs1, hF⟩ := bnd hF
  refine cs_X7_27 C (ct_X10_put (by omega) hs1) rfl ⟨by decide, by decide⟩ (Nat.le_of_ble_eq_true rfl) dX7_set_6 ⟨Nat.le_refl 0, Nat.le_refl 0⟩ ?_
  cases hF
  exact V_vret C hr hlk rfl rfl dX7_set_9

def F_X9_horseLikes (a1 : Int32) (a2 : Int32) (a3 : Int32) (σ : Mem) : Option Int32 :=
  Option.bind (F_X10_at 12 (((5 : Int32) * a1) + a2) σ) fun q1 =>
  Option.bind (F_X10_at 12 (((5 : Int32) * a1) + a3) σ) fun q2 =>
  if 0 < (q1 - q2) then
    some (1 : Int32)
  else
    if (q1 - q2) = 0 then
      if a3 ≤ a2 then
        some (0 : Int32)
      else
        some (1 : Int32)
    else
      some (0 : Int32)
set_option maxHeartbeats 4000000 in
set_option maxRecDepth 20000 in
theorem ct_X9_horseLikes {a1 : Int32} {a2 : Int32} {a3 : Int32} {σ : Mem} {r : Int32} (hF : F_X9_horseLikes a1 a2 a3 σ = some r) : Ct yX9_horseLikes cX9_horseLikes 6 (some .boolean) 1 21 (fun ad zz => [.ref (ad 5), .int a1, .int a2, .int a3]) σ (fun ad => (some (.int r))) σ := by
  refine Ct_of (by decide +kernel) (lv := fun ad zz => [(0, .ref (ad 5)), (1, .int a1), (2, .int a2), (3, .int a3)]) (fun _ _ => rfl) (fun _ _ => Nat.le_of_ble_eq_true rfl) (fun p l e s m args below meth c D T ad zz C hr hlk => ?_)
  rw [F_X9_horseLikes] at hF
  refine V_iconst C dX9_horseLikes_0 (v := (5 : Int32)) (by decide) ?_
  refine V_iload_n C 1 dX9_horseLikes_1 rfl ?_
  refine V_imul C dX9_horseLikes_2 ?_
  refine V_istore C (lv' := [(4, .int ((5 : Int32) * a1)), (0, .ref (ad 5)), (1, .int a1), (2, .int a2), (3, .int a3)]) dX9_horseLikes_3 (by decide) rfl ?_
  refine V_aload_n C 1 dX9_horseLikes_5 rfl ?_
  refine gf_X9_9 C dX9_horseLikes_6 ?_
  refine V_iload C 0 dX9_horseLikes_9 rfl ?_
  refine V_iload_n C 3 dX9_horseLikes_11 rfl ?_
  refine V_iadd C dX9_horseLikes_12 ?_
  obtain ⟨q1, hq1, hF⟩ := bnd hF
  refine cs_X9_28 C (ct_X10_at (by decide) hq1) rfl ⟨by decide, by decide⟩ (Nat.le_of_ble_eq_true rfl) dX9_horseLikes_13 ⟨Nat.le_refl 0, Nat.le_refl 0⟩ ?_
  refine V_aload_n C 1 dX9_horseLikes_16 rfl ?_
  refine gf_X9_9 C dX9_horseLikes_17 ?_
  refine V_iload C 0 dX9_horseLikes_20 rfl ?_
  refine V_iload_n C 4 dX9_horseLikes_22 rfl ?_
  refine V_iadd C dX9_horseLikes_23 ?_
  obtain ⟨q2, hq2, hF⟩ := bnd hF
  refine cs_X9_28 C (ct_X10_at (by decide) hq2) rfl ⟨by decide, by decide⟩ (Nat.le_of_ble_eq_true rfl) dX9_horseLikes_24 ⟨Nat.le_refl 0, Nat.le_refl 0⟩ ?_
  refine V_isub C dX9_horseLikes_27 ?_
  refine V_istore C (lv' := [(5, .int (q1 - q2)), (4, .int ((5 : Int32) * a1)), (0, .ref (ad 5)), (1, .int a1), (2, .int a2), (3, .int a3)]) dX9_horseLikes_28 (by decide) rfl ?_
  refine V_iload C 0 dX9_horseLikes_30 rfl ?_
  refine V_if_gt C 45 dX9_horseLikes_32 (by decide) hF (fun hF => ?_) (fun hF => ?_)
  · refine V_iconst C dX9_horseLikes_45 (v := (1 : Int32)) (by decide) ?_
    refine V_goto C 50 dX9_horseLikes_46 (by decide) ?_
    cases hF
    exact V_zret C hr hlk (Or.inr rfl) rfl rfl dX9_horseLikes_50
  · refine V_iload C 0 dX9_horseLikes_35 rfl ?_
    refine V_if_ne C 49 dX9_horseLikes_37 (by decide) hF (fun hF => ?_) (fun hF => ?_)
    · refine V_iconst C dX9_horseLikes_49 (v := (0 : Int32)) (by decide) ?_
      cases hF
      exact V_zret C hr hlk (Or.inl rfl) rfl rfl dX9_horseLikes_50
    · refine V_iload_n C 4 dX9_horseLikes_40 rfl ?_
      refine V_iload_n C 5 dX9_horseLikes_41 rfl ?_
      refine V_icmp_ge C 49 dX9_horseLikes_42 (by decide) hF (fun hF => ?_) (fun hF => ?_)
      · refine V_iconst C dX9_horseLikes_49 (v := (0 : Int32)) (by decide) ?_
        cases hF
        exact V_zret C hr hlk (Or.inl rfl) rfl rfl dX9_horseLikes_50
      · refine V_iconst C dX9_horseLikes_45 (v := (1 : Int32)) (by decide) ?_
        refine V_goto C 50 dX9_horseLikes_46 (by decide) ?_
        cases hF
        exact V_zret C hr hlk (Or.inr rfl) rfl rfl dX9_horseLikes_50

def F_X7_leastLiked_b6 (k0 : Nat) (σ : Mem) : Nat → Int32 → Int32 → Int32 → Option Int32
  | 0, _, _, _ => none
  | n + 1, x1, x3, x4 =>
    if (nI (alen (15 + k0))) ≤ x4 then
      some x3
    else
      Option.bind (rdA σ (15 + k0) x4) fun v1 =>
      if v1 = x1 then
        if x3 = (-9 : Int32) then
          (F_X7_leastLiked_b6 k0 σ n) x1 x4 (x4 + 1)
        else
          Option.bind (F_X9_horseLikes x1 x3 x4 σ) fun q2 =>
          if q2 = 0 then
            (F_X7_leastLiked_b6 k0 σ n) x1 x3 (x4 + 1)
          else
            (F_X7_leastLiked_b6 k0 σ n) x1 x4 (x4 + 1)
      else
        (F_X7_leastLiked_b6 k0 σ n) x1 x3 (x4 + 1)
def F_X7_leastLiked (k0 : Nat) (a1 : Int32) (σ : Mem) : Option Int32 :=
  F_X7_leastLiked_b6 k0 σ 4000 a1 (-9 : Int32) (0 : Int32)
set_option maxHeartbeats 4000000 in
set_option maxRecDepth 20000 in
theorem w_X7_leastLiked_b6 {p : Program} {l : Launch} {e : Env} {s : State} {m : MethodId} {args : Array Value} {below : List Frame} {meth : Method} {c : Code} {D : va_G} {T : Nat → ClassId} {ad zz : Nat → Nat} (C : Cx p s m c cX7_leastLiked 5 RX7 (fA ad) D T ad zz) (hr : meth.sig.returnType = (some .int)) (hlk : meth.locks = false) {k0 : Nat} {σ : Mem} (hk0 : k0 < 21) {r : Int32}  : ∀ (n : Nat), ∀ (x1 : Int32) (x3 : Int32) (x4 : Int32), F_X7_leastLiked_b6 k0 σ n x1 x3 x4 = some r → V p l e { frames := 2, cells := 0, slots := 0, locals := 46 } s m args below meth c 0 0 (MQ below (qC (some (.int r)) σ D T ad) args s 0 0 (fA ad)) 5 (fA ad) D T ad σ 6 [(0, .ref (ad (97 + k0))), (1, .int x1), (2, .ref (ad 5)), (3, .int x3), (4, .int x4)] [] := by
  intro n
  induction n with
  | zero =>
    intro x1 x3 x4 hF
    cases (show (none : Option Int32) = some r from hF)
  | succ n ih =>
    intro x1 x3 x4 hF
    rw [F_X7_leastLiked_b6] at hF
    refine V_iload C 4 dX7_leastLiked_6 rfl ?_
    refine V_aload_n C 0 dX7_leastLiked_8 rfl ?_
    refine gf_X7_9 C hk0 dX7_leastLiked_9 ?_
    refine V_alen C (by omega) dX7_leastLiked_12 ?_
    refine V_icmp_ge C 53 dX7_leastLiked_13 (by decide) hF (fun hF => ?_) (fun hF => ?_)
    · refine V_iload_n C 3 dX7_leastLiked_53 rfl ?_
      cases hF
      exact V_iret C hr hlk rfl rfl dX7_leastLiked_54
    · refine V_aload_n C 0 dX7_leastLiked_16 rfl ?_
      refine gf_X7_9 C hk0 dX7_leastLiked_17 ?_
      refine V_iload C 4 dX7_leastLiked_20 rfl ?_
      obtain ⟨v1, hv1, hF⟩ := bnd hF
      refine V_iald C (by omega) hv1 dX7_leastLiked_22 ?_
      refine V_iload_n C 1 dX7_leastLiked_23 rfl ?_
      refine V_icmp_ne C 47 dX7_leastLiked_24 (by decide) hF (fun hF => ?_) (fun hF => ?_)
      · refine V_iinc C (v := (x4 + 1)) (lv' := [(4, .int (x4 + 1)), (0, .ref (ad (97 + k0))), (1, .int x1), (2, .ref (ad 5)), (3, .int x3)]) 4 dX7_leastLiked_47 rfl rfl (by decide) rfl ?_
        refine V_goto C 6 dX7_leastLiked_50 (by decide) ?_
        refine V_lv (ks := [1, 2, 3, 4, 0]) rfl ?_
        exact ih x1 x3 (x4 + 1) hF
      · refine V_iload_n C 3 dX7_leastLiked_27 rfl ?_
        refine V_bipush C dX7_leastLiked_28 (v := (-9 : Int32)) (by decide) ?_
        refine V_icmp_eq C 44 dX7_leastLiked_30 (by decide) hF (fun hF => ?_) (fun hF => ?_)
        · refine V_iload C 4 dX7_leastLiked_44 rfl ?_
          refine V_istore_n C (lv' := [(3, .int x4), (0, .ref (ad (97 + k0))), (1, .int x1), (2, .ref (ad 5)), (4, .int x4)]) dX7_leastLiked_46 rfl (by decide) rfl ?_
          refine V_iinc C (v := (x4 + 1)) (lv' := [(4, .int (x4 + 1)), (3, .int x4), (0, .ref (ad (97 + k0))), (1, .int x1), (2, .ref (ad 5))]) 4 dX7_leastLiked_47 rfl rfl (by decide) rfl ?_
          refine V_goto C 6 dX7_leastLiked_50 (by decide) ?_
          refine V_lv (ks := [2, 3, 4, 1, 0]) rfl ?_
          exact ih x1 x4 (x4 + 1) hF
        · refine V_aload_n C 2 dX7_leastLiked_33 rfl ?_
          refine V_iload_n C 1 dX7_leastLiked_34 rfl ?_
          refine V_iload_n C 3 dX7_leastLiked_35 rfl ?_
          refine V_iload C 4 dX7_leastLiked_36 rfl ?_
          obtain ⟨q2, hq2, hF⟩ := bnd hF
          refine cs_X7_40 C (ct_X9_horseLikes hq2) rfl ⟨by decide, by decide⟩ (Nat.le_of_ble_eq_true rfl) dX7_leastLiked_38 ⟨Nat.le_refl 0, Nat.le_refl 0⟩ ?_
          refine V_if_eq C 47 dX7_leastLiked_41 (by decide) hF (fun hF => ?_) (fun hF => ?_)
          · refine V_iinc C (v := (x4 + 1)) (lv' := [(4, .int (x4 + 1)), (0, .ref (ad (97 + k0))), (1, .int x1), (2, .ref (ad 5)), (3, .int x3)]) 4 dX7_leastLiked_47 rfl rfl (by decide) rfl ?_
            refine V_goto C 6 dX7_leastLiked_50 (by decide) ?_
            refine V_lv (ks := [1, 2, 3, 4, 0]) rfl ?_
            exact ih x1 x3 (x4 + 1) hF
          · refine V_iload C 4 dX7_leastLiked_44 rfl ?_
            refine V_istore_n C (lv' := [(3, .int x4), (0, .ref (ad (97 + k0))), (1, .int x1), (2, .ref (ad 5)), (4, .int x4)]) dX7_leastLiked_46 rfl (by decide) rfl ?_
            refine V_iinc C (v := (x4 + 1)) (lv' := [(4, .int (x4 + 1)), (3, .int x4), (0, .ref (ad (97 + k0))), (1, .int x1), (2, .ref (ad 5))]) 4 dX7_leastLiked_47 rfl rfl (by decide) rfl ?_
            refine V_goto C 6 dX7_leastLiked_50 (by decide) ?_
            refine V_lv (ks := [2, 3, 4, 1, 0]) rfl ?_
            exact ih x1 x4 (x4 + 1) hF
set_option maxHeartbeats 4000000 in
set_option maxRecDepth 20000 in
theorem ct_X7_leastLiked {k0 : Nat} {a1 : Int32} {σ : Mem} {r : Int32} (hk0 : k0 < 21) (hF : F_X7_leastLiked k0 a1 σ = some r) : Ct yX7_leastLiked cX7_leastLiked 5 (some .int) 2 46 (fun ad zz => [.ref (ad (97 + k0)), .int a1, .ref (ad 5)]) σ (fun ad => (some (.int r))) σ := by
  refine Ct_of (by decide +kernel) (lv := fun ad zz => [(0, .ref (ad (97 + k0))), (1, .int a1), (2, .ref (ad 5))]) (fun _ _ => rfl) (fun _ _ => Nat.le_of_ble_eq_true rfl) (fun p l e s m args below meth c D T ad zz C hr hlk => ?_)
  rw [F_X7_leastLiked] at hF
  refine V_bipush C dX7_leastLiked_0 (v := (-9 : Int32)) (by decide) ?_
  refine V_istore_n C (lv' := [(3, .int (-9 : Int32)), (0, .ref (ad (97 + k0))), (1, .int a1), (2, .ref (ad 5))]) dX7_leastLiked_2 rfl (by decide) rfl ?_
  refine V_iconst C dX7_leastLiked_3 (v := (0 : Int32)) (by decide) ?_
  refine V_istore C (lv' := [(4, .int (0 : Int32)), (3, .int (-9 : Int32)), (0, .ref (ad (97 + k0))), (1, .int a1), (2, .ref (ad 5))]) dX7_leastLiked_4 (by decide) rfl ?_
  refine V_lv (ks := [2, 3, 4, 1, 0]) rfl ?_
  exact w_X7_leastLiked_b6 C hr hlk hk0 4000 a1 (-9 : Int32) (0 : Int32) hF

def F_X7_leadTo (k0 : Nat) (a1 : Int32) (a2 : Int32) (σ : Mem) : Option (Int32 × Mem) :=
  Option.bind (F_X9_enough a2 a1 σ) fun q1 =>
  if q1 = 0 then
    some ((0 : Int32), σ)
  else
    Option.bind (F_X7_keptCount k0 a2 σ) fun q2 =>
    Option.bind (F_X10_at 1 a2 σ) fun q3 =>
    if q2 < q3 then
      Option.bind (F_X7_set k0 a1 a2 σ) fun σ4 =>
      some ((1 : Int32), σ4)
    else
      Option.bind (F_X7_leastLiked k0 a2 σ) fun q5 =>
      if q5 = (-9 : Int32) then
        some ((0 : Int32), σ)
      else
        Option.bind (F_X9_horseLikes a2 a1 q5 σ) fun q6 =>
        if q6 = 0 then
          some ((0 : Int32), σ)
        else
          Option.bind (F_X7_set k0 q5 (-9 : Int32) σ) fun σ7 =>
          Option.bind (F_X7_set k0 a1 a2 σ7) fun σ8 =>
          some ((1 : Int32), σ8)
set_option maxHeartbeats 4000000 in
set_option maxRecDepth 20000 in
theorem ct_X7_leadTo {k0 : Nat} {a1 : Int32} {a2 : Int32} {σ : Mem} {r : (Int32 × Mem)} (hk0 : k0 < 21) (hF : F_X7_leadTo k0 a1 a2 σ = some r) : Ct yX7_leadTo cX7_leadTo 5 (some .boolean) 3 70 (fun ad zz => [.ref (ad (97 + k0)), .int a1, .int a2, .ref (ad 5)]) σ (fun ad => (some (.int r.1))) r.2 := by
  refine Ct_of (by decide +kernel) (lv := fun ad zz => [(0, .ref (ad (97 + k0))), (1, .int a1), (2, .int a2), (3, .ref (ad 5))]) (fun _ _ => rfl) (fun _ _ => Nat.le_of_ble_eq_true rfl) (fun p l e s m args below meth c D T ad zz C hr hlk => ?_)
  rw [F_X7_leadTo] at hF
  refine V_aload_n C 3 dX7_leadTo_0 rfl ?_
  refine V_iload_n C 2 dX7_leadTo_1 rfl ?_
  refine V_iload_n C 1 dX7_leadTo_2 rfl ?_
  obtain ⟨q1, hq1, hF⟩ := bnd hF
  refine cs_X7_46 C (ct_X9_enough hq1) rfl ⟨by decide, by decide⟩ (Nat.le_of_ble_eq_true rfl) dX7_leadTo_3 ⟨Nat.le_refl 0, Nat.le_refl 0⟩ ?_
  refine V_if_ne C 11 dX7_leadTo_6 (by decide) hF (fun hF => ?_) (fun hF => ?_)
  · refine V_aload_n C 0 dX7_leadTo_11 rfl ?_
    refine V_iload_n C 2 dX7_leadTo_12 rfl ?_
    obtain ⟨q2, hq2, hF⟩ := bnd hF
    refine cs_X7_50 C hk0 (ct_X7_keptCount hk0 hq2) rfl ⟨by decide, by decide⟩ (Nat.le_of_ble_eq_true rfl) dX7_leadTo_13 ⟨Nat.le_refl 0, Nat.le_refl 0⟩ ?_
    refine V_aload_n C 3 dX7_leadTo_16 rfl ?_
    refine gf_X7_53 C dX7_leadTo_17 ?_
    refine gf_X7_57 C dX7_leadTo_20 ?_
    refine V_iload_n C 2 dX7_leadTo_23 rfl ?_
    obtain ⟨q3, hq3, hF⟩ := bnd hF
    refine cs_X7_62 C (ct_X10_at (by decide) hq3) rfl ⟨by decide, by decide⟩ (Nat.le_of_ble_eq_true rfl) dX7_leadTo_24 ⟨Nat.le_refl 0, Nat.le_refl 0⟩ ?_
    refine V_icmp_lt C 66 dX7_leadTo_27 (by decide) hF (fun hF => ?_) (fun hF => ?_)
    · refine V_aload_n C 0 dX7_leadTo_66 rfl ?_
      refine V_iload_n C 1 dX7_leadTo_67 rfl ?_
      refine V_iload_n C 2 dX7_leadTo_68 rfl ?_
      obtain ⟨σ4, hs4, hF⟩ := bnd hF
      refine cs_X7_70 C hk0 (ct_X7_set hk0 hs4) rfl ⟨by decide, by decide⟩ (Nat.le_of_ble_eq_true rfl) dX7_leadTo_69 ⟨Nat.le_refl 0, Nat.le_refl 0⟩ ?_
      refine V_iconst C dX7_leadTo_72 (v := (1 : Int32)) (by decide) ?_
      cases hF
      exact V_zret C hr hlk (Or.inr rfl) rfl rfl dX7_leadTo_73
    · refine V_aload_n C 0 dX7_leadTo_30 rfl ?_
      refine V_iload_n C 2 dX7_leadTo_31 rfl ?_
      refine V_aload_n C 3 dX7_leadTo_32 rfl ?_
      obtain ⟨q5, hq5, hF⟩ := bnd hF
      refine cs_X7_66 C hk0 (ct_X7_leastLiked hk0 hq5) rfl ⟨by decide, by decide⟩ (Nat.le_of_ble_eq_true rfl) dX7_leadTo_33 ⟨Nat.le_refl 0, Nat.le_refl 0⟩ ?_
      refine V_istore C (lv' := [(4, .int q5), (0, .ref (ad (97 + k0))), (1, .int a1), (2, .int a2), (3, .ref (ad 5))]) dX7_leadTo_36 (by decide) rfl ?_
      refine V_iload C 0 dX7_leadTo_38 rfl ?_
      refine V_bipush C dX7_leadTo_40 (v := (-9 : Int32)) (by decide) ?_
      refine V_icmp_eq C 56 dX7_leadTo_42 (by decide) hF (fun hF => ?_) (fun hF => ?_)
      · refine V_iconst C dX7_leadTo_56 (v := (0 : Int32)) (by decide) ?_
        cases hF
        exact V_zret C hr hlk (Or.inl rfl) rfl rfl dX7_leadTo_57
      · refine V_aload_n C 4 dX7_leadTo_45 rfl ?_
        refine V_iload_n C 3 dX7_leadTo_46 rfl ?_
        refine V_iload_n C 2 dX7_leadTo_47 rfl ?_
        refine V_iload C 0 dX7_leadTo_48 rfl ?_
        obtain ⟨q6, hq6, hF⟩ := bnd hF
        refine cs_X7_40 C (ct_X9_horseLikes hq6) rfl ⟨by decide, by decide⟩ (Nat.le_of_ble_eq_true rfl) dX7_leadTo_50 ⟨Nat.le_refl 0, Nat.le_refl 0⟩ ?_
        refine V_if_ne C 58 dX7_leadTo_53 (by decide) hF (fun hF => ?_) (fun hF => ?_)
        · refine V_aload_n C 1 dX7_leadTo_58 rfl ?_
          refine V_iload C 0 dX7_leadTo_59 rfl ?_
          refine V_bipush C dX7_leadTo_61 (v := (-9 : Int32)) (by decide) ?_
          obtain ⟨σ7, hs7, hF⟩ := bnd hF
          refine cs_X7_70 C hk0 (ct_X7_set hk0 hs7) rfl ⟨by decide, by decide⟩ (Nat.le_of_ble_eq_true rfl) dX7_leadTo_63 ⟨Nat.le_refl 0, Nat.le_refl 0⟩ ?_
          refine V_aload_n C 1 dX7_leadTo_66 rfl ?_
          refine V_iload_n C 2 dX7_leadTo_67 rfl ?_
          refine V_iload_n C 3 dX7_leadTo_68 rfl ?_
          obtain ⟨σ8, hs8, hF⟩ := bnd hF
          refine cs_X7_70 C hk0 (ct_X7_set hk0 hs8) rfl ⟨by decide, by decide⟩ (Nat.le_of_ble_eq_true rfl) dX7_leadTo_69 ⟨Nat.le_refl 0, Nat.le_refl 0⟩ ?_
          refine V_iconst C dX7_leadTo_72 (v := (1 : Int32)) (by decide) ?_
          cases hF
          exact V_zret C hr hlk (Or.inr rfl) rfl rfl dX7_leadTo_73
        · refine V_iconst C dX7_leadTo_56 (v := (0 : Int32)) (by decide) ?_
          cases hF
          exact V_zret C hr hlk (Or.inl rfl) rfl rfl dX7_leadTo_57
  · refine V_iconst C dX7_leadTo_9 (v := (0 : Int32)) (by decide) ?_
    cases hF
    exact V_zret C hr hlk (Or.inl rfl) rfl rfl dX7_leadTo_10

def F_X4_holdByRiders_b17  : Nat → Int32 → Int32 → Mem → Option Mem
  | 0, _, _, _ => none
  | n + 1, x1, x2, σ =>
    if (20 : Int32) ≤ x2 then
      some σ
    else
      Option.bind (F_X4_leastToLead x1 σ) fun q3 =>
      if q3 = (-9 : Int32) then
        some σ
      else
        Option.bind (F_X10_at 13 q3 σ) fun q4 =>
        Option.bind (F_X3_likedAs q3 q4 σ) fun q5 =>
        Option.bind (F_X10_at 13 q3 σ) fun q6 =>
        Option.bind (F_X10_put 13 q3 (q6 + (1 : Int32)) σ) fun σ7 =>
        Option.bind (F_X7_leadTo 17 q3 q5 σ7) fun q8 =>
        (F_X4_holdByRiders_b17 n) x1 (x2 + 1) q8.2
def F_X4_holdByRiders (a1 : Int32) (σ : Mem) : Option Mem :=
  Option.bind (F_X7_clear 17 σ) fun σ1 =>
  Option.bind (F_J7_fill_53178 13 (0 : Int32) σ1) fun σ2 =>
  F_X4_holdByRiders_b17 4000 a1 (0 : Int32) σ2
set_option maxHeartbeats 4000000 in
set_option maxRecDepth 20000 in
theorem w_X4_holdByRiders_b17 {p : Program} {l : Launch} {e : Env} {s : State} {m : MethodId} {args : Array Value} {below : List Frame} {meth : Method} {c : Code} {D : va_G} {T : Nat → ClassId} {ad zz : Nat → Nat} (C : Cx p s m c cX4_holdByRiders 5 RX4 (fA ad) D T ad zz) (hr : meth.sig.returnType = none) (hlk : meth.locks = false) {r : Mem}  : ∀ (n : Nat), ∀ (x1 : Int32) (x2 : Int32) (σ : Mem), F_X4_holdByRiders_b17  n x1 x2 σ = some r → V p l e { frames := 4, cells := 0, slots := 0, locals := 94 } s m args below meth c 0 0 (MQ below (qC none r D T ad) args s 0 0 (fA ad)) 5 (fA ad) D T ad σ 17 [(0, .ref (ad 6)), (1, .int x1), (2, .int x2)] [] := by
  intro n
  induction n with
  | zero =>
    intro x1 x2 σ hF
    cases (show (none : Option Mem) = some r from hF)
  | succ n ih =>
    intro x1 x2 σ hF
    rw [F_X4_holdByRiders_b17] at hF
    refine V_iload_n C 2 dX4_holdByRiders_17 rfl ?_
    refine V_bipush C dX4_holdByRiders_18 (v := (20 : Int32)) (by decide) ?_
    refine V_icmp_ge C 93 dX4_holdByRiders_20 (by decide) hF (fun hF => ?_) (fun hF => ?_)
    · cases hF
      exact V_vret C hr hlk rfl rfl dX4_holdByRiders_93
    · refine V_aload_n C 0 dX4_holdByRiders_23 rfl ?_
      refine V_iload_n C 1 dX4_holdByRiders_24 rfl ?_
      obtain ⟨q3, hq3, hF⟩ := bnd hF
      refine cs_X4_42 C (ct_X4_leastToLead hq3) rfl ⟨by decide, by decide⟩ (Nat.le_of_ble_eq_true rfl) dX4_holdByRiders_25 ⟨Nat.le_refl 0, Nat.le_refl 0⟩ ?_
      refine V_istore_n C (lv' := [(3, .int q3), (0, .ref (ad 6)), (1, .int x1), (2, .int x2)]) dX4_holdByRiders_28 rfl (by decide) rfl ?_
      refine V_iload_n C 0 dX4_holdByRiders_29 rfl ?_
      refine V_bipush C dX4_holdByRiders_30 (v := (-9 : Int32)) (by decide) ?_
      refine V_icmp_ne C 36 dX4_holdByRiders_32 (by decide) hF (fun hF => ?_) (fun hF => ?_)
      · refine V_aload_n C 1 dX4_holdByRiders_36 rfl ?_
        refine gf_X4_25 C dX4_holdByRiders_37 ?_
        refine V_iload_n C 0 dX4_holdByRiders_40 rfl ?_
        refine V_aload_n C 1 dX4_holdByRiders_41 rfl ?_
        refine gf_X4_18 C dX4_holdByRiders_42 ?_
        refine V_iload_n C 0 dX4_holdByRiders_45 rfl ?_
        obtain ⟨q4, hq4, hF⟩ := bnd hF
        refine cs_X4_46 C (ct_X10_at (by decide) hq4) rfl ⟨by decide, by decide⟩ (Nat.le_of_ble_eq_true rfl) dX4_holdByRiders_46 ⟨Nat.le_refl 0, Nat.le_refl 0⟩ ?_
        obtain ⟨q5, hq5, hF⟩ := bnd hF
        refine cs_X4_50 C (ct_X3_likedAs hq5) rfl ⟨by decide, by decide⟩ (Nat.le_of_ble_eq_true rfl) dX4_holdByRiders_49 ⟨Nat.le_refl 0, Nat.le_refl 0⟩ ?_
        refine V_istore C (lv' := [(4, .int q5), (3, .int q3), (0, .ref (ad 6)), (1, .int x1), (2, .int x2)]) dX4_holdByRiders_52 (by decide) rfl ?_
        refine V_aload_n C 2 dX4_holdByRiders_54 rfl ?_
        refine gf_X4_18 C dX4_holdByRiders_55 ?_
        refine V_iload_n C 1 dX4_holdByRiders_58 rfl ?_
        refine V_aload_n C 2 dX4_holdByRiders_59 rfl ?_
        refine gf_X4_18 C dX4_holdByRiders_60 ?_
        refine V_iload_n C 1 dX4_holdByRiders_63 rfl ?_
        obtain ⟨q6, hq6, hF⟩ := bnd hF
        refine cs_X4_46 C (ct_X10_at (by decide) hq6) rfl ⟨by decide, by decide⟩ (Nat.le_of_ble_eq_true rfl) dX4_holdByRiders_64 ⟨Nat.le_refl 0, Nat.le_refl 0⟩ ?_
        refine V_iconst C dX4_holdByRiders_67 (v := (1 : Int32)) (by decide) ?_
        refine V_iadd C dX4_holdByRiders_68 ?_
        obtain ⟨σ7, hs7, hF⟩ := bnd hF
        refine cs_X4_56 C (ct_X10_put (by decide) hs7) rfl ⟨by decide, by decide⟩ (Nat.le_of_ble_eq_true rfl) dX4_holdByRiders_69 ⟨Nat.le_refl 0, Nat.le_refl 0⟩ ?_
        refine V_aload_n C 2 dX4_holdByRiders_72 rfl ?_
        refine gf_X4_12 C dX4_holdByRiders_73 ?_
        refine V_iload_n C 1 dX4_holdByRiders_76 rfl ?_
        refine V_iload C 0 dX4_holdByRiders_77 rfl ?_
        refine V_aload_n C 2 dX4_holdByRiders_79 rfl ?_
        refine gf_X4_29 C dX4_holdByRiders_80 ?_
        obtain ⟨q8, hq8, hF⟩ := bnd hF
        refine cs_X4_60 C (by decide) (ct_X7_leadTo (by decide) hq8) rfl ⟨by decide, by decide⟩ (Nat.le_of_ble_eq_true rfl) dX4_holdByRiders_83 ⟨Nat.le_refl 0, Nat.le_refl 0⟩ ?_
        refine V_pop C dX4_holdByRiders_86 rfl ?_
        refine V_iinc C (v := (x2 + 1)) (lv' := [(2, .int (x2 + 1)), (4, .int q5), (3, .int q3), (0, .ref (ad 6)), (1, .int x1)]) 4 dX4_holdByRiders_87 rfl rfl (by decide) rfl ?_
        refine V_goto C 17 dX4_holdByRiders_90 (by decide) ?_
        refine V_lv (ks := [3, 4, 0]) rfl ?_
        exact ih x1 (x2 + 1) q8.2 hF
      · cases hF
        exact V_vret C hr hlk rfl rfl dX4_holdByRiders_35
set_option maxHeartbeats 4000000 in
set_option maxRecDepth 20000 in
theorem ct_X4_holdByRiders {a1 : Int32} {σ : Mem} {r : Mem} (hF : F_X4_holdByRiders a1 σ = some r) : Ct yX4_holdByRiders cX4_holdByRiders 5 none 4 94 (fun ad zz => [.ref (ad 6), .int a1]) σ (fun ad => none) r := by
  refine Ct_of (by decide +kernel) (lv := fun ad zz => [(0, .ref (ad 6)), (1, .int a1)]) (fun _ _ => rfl) (fun _ _ => Nat.le_of_ble_eq_true rfl) (fun p l e s m args below meth c D T ad zz C hr hlk => ?_)
  rw [F_X4_holdByRiders] at hF
  refine V_aload_n C 0 dX4_holdByRiders_0 rfl ?_
  refine gf_X4_12 C dX4_holdByRiders_1 ?_
  obtain ⟨σ1, hs1, hF⟩ := bnd hF
  refine cs_X4_33 C (by decide) (ct_X7_clear (by decide) hs1) rfl ⟨by decide, by decide⟩ (Nat.le_of_ble_eq_true rfl) dX4_holdByRiders_4 ⟨Nat.le_refl 0, Nat.le_refl 0⟩ ?_
  refine V_aload_n C 0 dX4_holdByRiders_7 rfl ?_
  refine gf_X4_18 C dX4_holdByRiders_8 ?_
  refine V_iconst C dX4_holdByRiders_11 (v := (0 : Int32)) (by decide) ?_
  obtain ⟨σ2, hs2, hF⟩ := bnd hF
  refine cs_X4_36 C (ct_J7_fill_53178 (by decide) hs2) rfl ⟨by decide, by decide⟩ (Nat.le_of_ble_eq_true rfl) dX4_holdByRiders_12 ⟨Nat.le_refl 0, Nat.le_refl 0⟩ ?_
  refine V_iconst C dX4_holdByRiders_15 (v := (0 : Int32)) (by decide) ?_
  refine V_istore_n C (lv' := [(2, .int (0 : Int32)), (0, .ref (ad 6)), (1, .int a1)]) dX4_holdByRiders_16 rfl (by decide) rfl ?_
  refine V_lv (ks := [1, 2, 0]) rfl ?_
  exact w_X4_holdByRiders_b17 C hr hlk 4000 a1 (0 : Int32) σ2 hF

def F_X4_bestToAsk_b48 (σ : Mem) (kL5 : Int32 → Int32 → Int32 → Option Int32) (x1 : Int32) (x2 : Int32) (x3 : Int32) (y0 : Int32) : Option Int32 :=
  if y0 = 0 then
    kL5 x1 x2 (x3 + 1)
  else
    if x2 = (-9 : Int32) then
      kL5 x1 x3 (x3 + 1)
    else
      Option.bind (F_X9_horseLikes x1 x3 x2 σ) fun q3 =>
      if q3 = 0 then
        kL5 x1 x2 (x3 + 1)
      else
        kL5 x1 x3 (x3 + 1)
def F_X4_bestToAsk_b5 (σ : Mem) : Nat → Int32 → Int32 → Int32 → Option Int32
  | 0, _, _, _ => none
  | n + 1, x1, x2, x3 =>
    if (σ.1 2) ≤ x3 then
      some x2
    else
      Option.bind (F_X10_at 14 x1 σ) fun q1 =>
      Option.bind (F_X10_contains q1 x3 σ) fun q2 =>
      if q2 = 0 then
        Option.bind (F_X9_enough x1 x3 σ) fun q4 =>
        if q4 = 0 then
          F_X4_bestToAsk_b48 σ (F_X4_bestToAsk_b5 σ n) x1 x2 x3 (0 : Int32)
        else
          F_X4_bestToAsk_b48 σ (F_X4_bestToAsk_b5 σ n) x1 x2 x3 (1 : Int32)
      else
        F_X4_bestToAsk_b48 σ (F_X4_bestToAsk_b5 σ n) x1 x2 x3 (0 : Int32)
def F_X4_bestToAsk (a1 : Int32) (σ : Mem) : Option Int32 :=
  F_X4_bestToAsk_b5 σ 4000 a1 (-9 : Int32) (0 : Int32)
set_option maxHeartbeats 4000000 in
set_option maxRecDepth 20000 in
theorem w_X4_bestToAsk_b48 {p : Program} {l : Launch} {e : Env} {s : State} {m : MethodId} {args : Array Value} {below : List Frame} {meth : Method} {c : Code} {D : va_G} {T : Nat → ClassId} {ad zz : Nat → Nat} (C : Cx p s m c cX4_bestToAsk 5 RX4 (fA ad) D T ad zz) (hr : meth.sig.returnType = (some .int)) (hlk : meth.locks = false) {σ : Mem} {r : Int32} (kL5 : Int32 → Int32 → Int32 → Option Int32) (hL5 : ∀ (x1 : Int32) (x2 : Int32) (x3 : Int32), kL5 x1 x2 x3 = some r → V p l e { frames := 3, cells := 0, slots := 0, locals := 65 } s m args below meth c 0 0 (MQ below (qC (some (.int r)) σ D T ad) args s 0 0 (fA ad)) 5 (fA ad) D T ad σ 5 [(0, .ref (ad 6)), (1, .int x1), (2, .int x2), (3, .int x3)] []) (x1 : Int32) (x2 : Int32) (x3 : Int32) (y0 : Int32) (hF : F_X4_bestToAsk_b48 σ kL5 x1 x2 x3 y0 = some r) : V p l e { frames := 3, cells := 0, slots := 0, locals := 65 } s m args below meth c 0 0 (MQ below (qC (some (.int r)) σ D T ad) args s 0 0 (fA ad)) 5 (fA ad) D T ad σ 48 [(0, .ref (ad 6)), (1, .int x1), (2, .int x2), (3, .int x3)] [.int y0] := by
  rw [F_X4_bestToAsk_b48] at hF
  refine V_istore C (lv' := [(4, .int y0), (0, .ref (ad 6)), (1, .int x1), (2, .int x2), (3, .int x3)]) dX4_bestToAsk_48 (by decide) rfl ?_
  refine V_iload C 0 dX4_bestToAsk_50 rfl ?_
  refine V_if_eq C 76 dX4_bestToAsk_52 (by decide) hF (fun hF => ?_) (fun hF => ?_)
  · refine V_iinc C (v := (x3 + 1)) (lv' := [(3, .int (x3 + 1)), (4, .int y0), (0, .ref (ad 6)), (1, .int x1), (2, .int x2)]) 4 dX4_bestToAsk_76 rfl rfl (by decide) rfl ?_
    refine V_goto C 5 dX4_bestToAsk_79 (by decide) ?_
    refine V_lv (ks := [2, 3, 4, 0]) rfl ?_
    exact hL5 x1 x2 (x3 + 1) hF
  · refine V_iload_n C 3 dX4_bestToAsk_55 rfl ?_
    refine V_bipush C dX4_bestToAsk_56 (v := (-9 : Int32)) (by decide) ?_
    refine V_icmp_eq C 74 dX4_bestToAsk_58 (by decide) hF (fun hF => ?_) (fun hF => ?_)
    · refine V_iload_n C 4 dX4_bestToAsk_74 rfl ?_
      refine V_istore_n C (lv' := [(2, .int x3), (4, .int y0), (0, .ref (ad 6)), (1, .int x1), (3, .int x3)]) dX4_bestToAsk_75 rfl (by decide) rfl ?_
      refine V_iinc C (v := (x3 + 1)) (lv' := [(3, .int (x3 + 1)), (2, .int x3), (4, .int y0), (0, .ref (ad 6)), (1, .int x1)]) 4 dX4_bestToAsk_76 rfl rfl (by decide) rfl ?_
      refine V_goto C 5 dX4_bestToAsk_79 (by decide) ?_
      refine V_lv (ks := [3, 4, 1, 0]) rfl ?_
      exact hL5 x1 x3 (x3 + 1) hF
    · refine V_aload_n C 1 dX4_bestToAsk_61 rfl ?_
      refine gf_X4_29 C dX4_bestToAsk_62 ?_
      refine V_iload_n C 2 dX4_bestToAsk_65 rfl ?_
      refine V_iload_n C 4 dX4_bestToAsk_66 rfl ?_
      refine V_iload_n C 3 dX4_bestToAsk_67 rfl ?_
      obtain ⟨q3, hq3, hF⟩ := bnd hF
      refine cs_X4_104 C (ct_X9_horseLikes hq3) rfl ⟨by decide, by decide⟩ (Nat.le_of_ble_eq_true rfl) dX4_bestToAsk_68 ⟨Nat.le_refl 0, Nat.le_refl 0⟩ ?_
      refine V_if_eq C 76 dX4_bestToAsk_71 (by decide) hF (fun hF => ?_) (fun hF => ?_)
      · refine V_iinc C (v := (x3 + 1)) (lv' := [(3, .int (x3 + 1)), (4, .int y0), (0, .ref (ad 6)), (1, .int x1), (2, .int x2)]) 4 dX4_bestToAsk_76 rfl rfl (by decide) rfl ?_
        refine V_goto C 5 dX4_bestToAsk_79 (by decide) ?_
        refine V_lv (ks := [2, 3, 4, 0]) rfl ?_
        exact hL5 x1 x2 (x3 + 1) hF
      · refine V_iload_n C 4 dX4_bestToAsk_74 rfl ?_
        refine V_istore_n C (lv' := [(2, .int x3), (4, .int y0), (0, .ref (ad 6)), (1, .int x1), (3, .int x3)]) dX4_bestToAsk_75 rfl (by decide) rfl ?_
        refine V_iinc C (v := (x3 + 1)) (lv' := [(3, .int (x3 + 1)), (2, .int x3), (4, .int y0), (0, .ref (ad 6)), (1, .int x1)]) 4 dX4_bestToAsk_76 rfl rfl (by decide) rfl ?_
        refine V_goto C 5 dX4_bestToAsk_79 (by decide) ?_
        refine V_lv (ks := [3, 4, 1, 0]) rfl ?_
        exact hL5 x1 x3 (x3 + 1) hF
set_option maxHeartbeats 4000000 in
set_option maxRecDepth 20000 in
theorem w_X4_bestToAsk_b5 {p : Program} {l : Launch} {e : Env} {s : State} {m : MethodId} {args : Array Value} {below : List Frame} {meth : Method} {c : Code} {D : va_G} {T : Nat → ClassId} {ad zz : Nat → Nat} (C : Cx p s m c cX4_bestToAsk 5 RX4 (fA ad) D T ad zz) (hr : meth.sig.returnType = (some .int)) (hlk : meth.locks = false) {σ : Mem} {r : Int32}  : ∀ (n : Nat), ∀ (x1 : Int32) (x2 : Int32) (x3 : Int32), F_X4_bestToAsk_b5 σ n x1 x2 x3 = some r → V p l e { frames := 3, cells := 0, slots := 0, locals := 65 } s m args below meth c 0 0 (MQ below (qC (some (.int r)) σ D T ad) args s 0 0 (fA ad)) 5 (fA ad) D T ad σ 5 [(0, .ref (ad 6)), (1, .int x1), (2, .int x2), (3, .int x3)] [] := by
  intro n
  induction n with
  | zero =>
    intro x1 x2 x3 hF
    cases (show (none : Option Int32) = some r from hF)
  | succ n ih =>
    intro x1 x2 x3 hF
    rw [F_X4_bestToAsk_b5] at hF
    refine V_iload_n C 3 dX4_bestToAsk_5 rfl ?_
    refine V_aload_n C 0 dX4_bestToAsk_6 rfl ?_
    refine gf_X4_25 C dX4_bestToAsk_7 ?_
    refine gf_X4_64 C dX4_bestToAsk_10 ?_
    refine V_icmp_ge C 82 dX4_bestToAsk_13 (by decide) hF (fun hF => ?_) (fun hF => ?_)
    · refine V_iload_n C 2 dX4_bestToAsk_82 rfl ?_
      cases hF
      exact V_iret C hr hlk rfl rfl dX4_bestToAsk_83
    · refine V_aload_n C 0 dX4_bestToAsk_16 rfl ?_
      refine gf_X4_22 C dX4_bestToAsk_17 ?_
      refine V_iload_n C 1 dX4_bestToAsk_20 rfl ?_
      obtain ⟨q1, hq1, hF⟩ := bnd hF
      refine cs_X4_46 C (ct_X10_at (by decide) hq1) rfl ⟨by decide, by decide⟩ (Nat.le_of_ble_eq_true rfl) dX4_bestToAsk_21 ⟨Nat.le_refl 0, Nat.le_refl 0⟩ ?_
      refine V_iload_n C 3 dX4_bestToAsk_24 rfl ?_
      obtain ⟨q2, hq2, hF⟩ := bnd hF
      refine cs_X4_68 C (ct_X10_contains hq2) rfl ⟨by decide, by decide⟩ (Nat.le_of_ble_eq_true rfl) dX4_bestToAsk_25 ⟨Nat.le_refl 0, Nat.le_refl 0⟩ ?_
      refine V_if_ne C 47 dX4_bestToAsk_28 (by decide) hF (fun hF => ?_) (fun hF => ?_)
      · refine V_iconst C dX4_bestToAsk_47 (v := (0 : Int32)) (by decide) ?_
        exact w_X4_bestToAsk_b48 C hr hlk (F_X4_bestToAsk_b5 σ n) ih x1 x2 x3 (0 : Int32) hF
      · refine V_aload_n C 0 dX4_bestToAsk_31 rfl ?_
        refine gf_X4_29 C dX4_bestToAsk_32 ?_
        refine V_iload_n C 1 dX4_bestToAsk_35 rfl ?_
        refine V_iload_n C 3 dX4_bestToAsk_36 rfl ?_
        obtain ⟨q4, hq4, hF⟩ := bnd hF
        refine cs_X4_99 C (ct_X9_enough hq4) rfl ⟨by decide, by decide⟩ (Nat.le_of_ble_eq_true rfl) dX4_bestToAsk_37 ⟨Nat.le_refl 0, Nat.le_refl 0⟩ ?_
        refine V_if_eq C 47 dX4_bestToAsk_40 (by decide) hF (fun hF => ?_) (fun hF => ?_)
        · refine V_iconst C dX4_bestToAsk_47 (v := (0 : Int32)) (by decide) ?_
          exact w_X4_bestToAsk_b48 C hr hlk (F_X4_bestToAsk_b5 σ n) ih x1 x2 x3 (0 : Int32) hF
        · refine V_iconst C dX4_bestToAsk_43 (v := (1 : Int32)) (by decide) ?_
          refine V_goto C 48 dX4_bestToAsk_44 (by decide) ?_
          exact w_X4_bestToAsk_b48 C hr hlk (F_X4_bestToAsk_b5 σ n) ih x1 x2 x3 (1 : Int32) hF
set_option maxHeartbeats 4000000 in
set_option maxRecDepth 20000 in
theorem ct_X4_bestToAsk {a1 : Int32} {σ : Mem} {r : Int32} (hF : F_X4_bestToAsk a1 σ = some r) : Ct yX4_bestToAsk cX4_bestToAsk 5 (some .int) 3 65 (fun ad zz => [.ref (ad 6), .int a1]) σ (fun ad => (some (.int r))) σ := by
  refine Ct_of (by decide +kernel) (lv := fun ad zz => [(0, .ref (ad 6)), (1, .int a1)]) (fun _ _ => rfl) (fun _ _ => Nat.le_of_ble_eq_true rfl) (fun p l e s m args below meth c D T ad zz C hr hlk => ?_)
  rw [F_X4_bestToAsk] at hF
  refine V_bipush C dX4_bestToAsk_0 (v := (-9 : Int32)) (by decide) ?_
  refine V_istore_n C (lv' := [(2, .int (-9 : Int32)), (0, .ref (ad 6)), (1, .int a1)]) dX4_bestToAsk_2 rfl (by decide) rfl ?_
  refine V_iconst C dX4_bestToAsk_3 (v := (0 : Int32)) (by decide) ?_
  refine V_istore_n C (lv' := [(3, .int (0 : Int32)), (2, .int (-9 : Int32)), (0, .ref (ad 6)), (1, .int a1)]) dX4_bestToAsk_4 rfl (by decide) rfl ?_
  refine V_lv (ks := [2, 3, 1, 0]) rfl ?_
  exact w_X4_bestToAsk_b5 C hr hlk 4000 a1 (-9 : Int32) (0 : Int32) hF

def F_X4_leastToAsk_b2 (σ : Mem) : Nat → Int32 → Option Int32
  | 0, _ => none
  | n + 1, x1 =>
    if (σ.1 1) ≤ x1 then
      some (-9 : Int32)
    else
      Option.bind (F_X7_keptCount 17 x1 σ) fun q1 =>
      Option.bind (F_X10_at 1 x1 σ) fun q2 =>
      if q2 ≤ q1 then
        (F_X4_leastToAsk_b2 σ n) (x1 + 1)
      else
        Option.bind (F_X4_bestToAsk x1 σ) fun q3 =>
        if q3 = (-9 : Int32) then
          (F_X4_leastToAsk_b2 σ n) (x1 + 1)
        else
          some x1
def F_X4_leastToAsk (σ : Mem) : Option Int32 :=
  F_X4_leastToAsk_b2 σ 4000 (0 : Int32)
set_option maxHeartbeats 4000000 in
set_option maxRecDepth 20000 in
theorem w_X4_leastToAsk_b2 {p : Program} {l : Launch} {e : Env} {s : State} {m : MethodId} {args : Array Value} {below : List Frame} {meth : Method} {c : Code} {D : va_G} {T : Nat → ClassId} {ad zz : Nat → Nat} (C : Cx p s m c cX4_leastToAsk 2 RX4 (fA ad) D T ad zz) (hr : meth.sig.returnType = (some .int)) (hlk : meth.locks = false) {σ : Mem} {r : Int32}  : ∀ (n : Nat), ∀ (x1 : Int32), F_X4_leastToAsk_b2 σ n x1 = some r → V p l e { frames := 4, cells := 0, slots := 0, locals := 89 } s m args below meth c 0 0 (MQ below (qC (some (.int r)) σ D T ad) args s 0 0 (fA ad)) 2 (fA ad) D T ad σ 2 [(0, .ref (ad 6)), (1, .int x1)] [] := by
  intro n
  induction n with
  | zero =>
    intro x1 hF
    cases (show (none : Option Int32) = some r from hF)
  | succ n ih =>
    intro x1 hF
    rw [F_X4_leastToAsk_b2] at hF
    refine V_iload_n C 1 dX4_leastToAsk_2 rfl ?_
    refine V_aload_n C 0 dX4_leastToAsk_3 rfl ?_
    refine gf_X4_25 C dX4_leastToAsk_4 ?_
    refine gf_X4_75 C dX4_leastToAsk_7 ?_
    refine V_icmp_ge C 53 dX4_leastToAsk_10 (by decide) hF (fun hF => ?_) (fun hF => ?_)
    · refine V_bipush C dX4_leastToAsk_53 (v := (-9 : Int32)) (by decide) ?_
      cases hF
      exact V_iret C hr hlk rfl rfl dX4_leastToAsk_55
    · refine V_aload_n C 0 dX4_leastToAsk_13 rfl ?_
      refine gf_X4_12 C dX4_leastToAsk_14 ?_
      refine V_iload_n C 1 dX4_leastToAsk_17 rfl ?_
      obtain ⟨q1, hq1, hF⟩ := bnd hF
      refine cs_X4_93 C (by decide) (ct_X7_keptCount (by decide) hq1) rfl ⟨by decide, by decide⟩ (Nat.le_of_ble_eq_true rfl) dX4_leastToAsk_18 ⟨Nat.le_refl 0, Nat.le_refl 0⟩ ?_
      refine V_aload_n C 0 dX4_leastToAsk_21 rfl ?_
      refine gf_X4_25 C dX4_leastToAsk_22 ?_
      refine gf_X4_96 C dX4_leastToAsk_25 ?_
      refine V_iload_n C 1 dX4_leastToAsk_28 rfl ?_
      obtain ⟨q2, hq2, hF⟩ := bnd hF
      refine cs_X4_46 C (ct_X10_at (by decide) hq2) rfl ⟨by decide, by decide⟩ (Nat.le_of_ble_eq_true rfl) dX4_leastToAsk_29 ⟨Nat.le_refl 0, Nat.le_refl 0⟩ ?_
      refine V_icmp_ge C 47 dX4_leastToAsk_32 (by decide) hF (fun hF => ?_) (fun hF => ?_)
      · refine V_iinc C (v := (x1 + 1)) (lv' := [(1, .int (x1 + 1)), (0, .ref (ad 6))]) 1 dX4_leastToAsk_47 rfl rfl (by decide) rfl ?_
        refine V_goto C 2 dX4_leastToAsk_50 (by decide) ?_
        refine V_lv (ks := [1, 0]) rfl ?_
        exact ih (x1 + 1) hF
      · refine V_aload_n C 0 dX4_leastToAsk_35 rfl ?_
        refine V_iload_n C 1 dX4_leastToAsk_36 rfl ?_
        obtain ⟨q3, hq3, hF⟩ := bnd hF
        refine cs_X4_82 C (ct_X4_bestToAsk hq3) rfl ⟨by decide, by decide⟩ (Nat.le_of_ble_eq_true rfl) dX4_leastToAsk_37 ⟨Nat.le_refl 0, Nat.le_refl 0⟩ ?_
        refine V_bipush C dX4_leastToAsk_40 (v := (-9 : Int32)) (by decide) ?_
        refine V_icmp_eq C 47 dX4_leastToAsk_42 (by decide) hF (fun hF => ?_) (fun hF => ?_)
        · refine V_iinc C (v := (x1 + 1)) (lv' := [(1, .int (x1 + 1)), (0, .ref (ad 6))]) 1 dX4_leastToAsk_47 rfl rfl (by decide) rfl ?_
          refine V_goto C 2 dX4_leastToAsk_50 (by decide) ?_
          refine V_lv (ks := [1, 0]) rfl ?_
          exact ih (x1 + 1) hF
        · refine V_iload_n C 1 dX4_leastToAsk_45 rfl ?_
          cases hF
          exact V_iret C hr hlk rfl rfl dX4_leastToAsk_46
set_option maxHeartbeats 4000000 in
set_option maxRecDepth 20000 in
theorem ct_X4_leastToAsk {σ : Mem} {r : Int32} (hF : F_X4_leastToAsk σ = some r) : Ct yX4_leastToAsk cX4_leastToAsk 2 (some .int) 4 89 (fun ad zz => [.ref (ad 6)]) σ (fun ad => (some (.int r))) σ := by
  refine Ct_of (by decide +kernel) (lv := fun ad zz => [(0, .ref (ad 6))]) (fun _ _ => rfl) (fun _ _ => Nat.le_of_ble_eq_true rfl) (fun p l e s m args below meth c D T ad zz C hr hlk => ?_)
  rw [F_X4_leastToAsk] at hF
  refine V_iconst C dX4_leastToAsk_0 (v := (0 : Int32)) (by decide) ?_
  refine V_istore_n C (lv' := [(1, .int (0 : Int32)), (0, .ref (ad 6))]) dX4_leastToAsk_1 rfl (by decide) rfl ?_
  refine V_lv (ks := [1, 0]) rfl ?_
  exact w_X4_leastToAsk_b2 C hr hlk 4000 (0 : Int32) hF

def F_X4_holdByHorses_b17  : Nat → Int32 → Mem → Option Mem
  | 0, _, _ => none
  | n + 1, x1, σ =>
    if (20 : Int32) ≤ x1 then
      some σ
    else
      Option.bind (F_X4_leastToAsk σ) fun q3 =>
      if q3 = (-9 : Int32) then
        some σ
      else
        Option.bind (F_X4_bestToAsk q3 σ) fun q4 =>
        Option.bind (F_X10_at 14 q3 σ) fun q5 =>
        Option.bind (F_X10_put 14 q3 (q5 ||| ((1 : Int32) <<< (q4 &&& 31))) σ) fun σ6 =>
        Option.bind (F_X7_horseOf 17 q4 σ6) fun q7 =>
        Option.bind (F_X3_riderLikes q4 q3 q7 σ6) fun q8 =>
        if q8 = 0 then
          (F_X4_holdByHorses_b17 n) (x1 + 1) σ6
        else
          Option.bind (F_X7_set 17 q4 q3 σ6) fun σ9 =>
          (F_X4_holdByHorses_b17 n) (x1 + 1) σ9
def F_X4_holdByHorses (σ : Mem) : Option Mem :=
  Option.bind (F_X7_clear 17 σ) fun σ1 =>
  Option.bind (F_J7_fill_53178 14 (0 : Int32) σ1) fun σ2 =>
  F_X4_holdByHorses_b17 4000 (0 : Int32) σ2
set_option maxHeartbeats 4000000 in
set_option maxRecDepth 20000 in
theorem w_X4_holdByHorses_b17 {p : Program} {l : Launch} {e : Env} {s : State} {m : MethodId} {args : Array Value} {below : List Frame} {meth : Method} {c : Code} {D : va_G} {T : Nat → ClassId} {ad zz : Nat → Nat} (C : Cx p s m c cX4_holdByHorses 4 RX4 (fA ad) D T ad zz) (hr : meth.sig.returnType = none) (hlk : meth.locks = false) {r : Mem}  : ∀ (n : Nat), ∀ (x1 : Int32) (σ : Mem), F_X4_holdByHorses_b17  n x1 σ = some r → V p l e { frames := 5, cells := 0, slots := 0, locals := 110 } s m args below meth c 0 0 (MQ below (qC none r D T ad) args s 0 0 (fA ad)) 4 (fA ad) D T ad σ 17 [(0, .ref (ad 6)), (1, .int x1)] [] := by
  intro n
  induction n with
  | zero =>
    intro x1 σ hF
    cases (show (none : Option Mem) = some r from hF)
  | succ n ih =>
    intro x1 σ hF
    rw [F_X4_holdByHorses_b17] at hF
    refine V_iload_n C 1 dX4_holdByHorses_17 rfl ?_
    refine V_bipush C dX4_holdByHorses_18 (v := (20 : Int32)) (by decide) ?_
    refine V_icmp_ge C 96 dX4_holdByHorses_20 (by decide) hF (fun hF => ?_) (fun hF => ?_)
    · cases hF
      exact V_vret C hr hlk rfl rfl dX4_holdByHorses_96
    · refine V_aload_n C 0 dX4_holdByHorses_23 rfl ?_
      obtain ⟨q3, hq3, hF⟩ := bnd hF
      refine cs_X4_78 C (ct_X4_leastToAsk hq3) rfl ⟨by decide, by decide⟩ (Nat.le_of_ble_eq_true rfl) dX4_holdByHorses_24 ⟨Nat.le_refl 0, Nat.le_refl 0⟩ ?_
      refine V_istore_n C (lv' := [(2, .int q3), (0, .ref (ad 6)), (1, .int x1)]) dX4_holdByHorses_27 rfl (by decide) rfl ?_
      refine V_iload_n C 0 dX4_holdByHorses_28 rfl ?_
      refine V_bipush C dX4_holdByHorses_29 (v := (-9 : Int32)) (by decide) ?_
      refine V_icmp_ne C 35 dX4_holdByHorses_31 (by decide) hF (fun hF => ?_) (fun hF => ?_)
      · refine V_aload_n C 1 dX4_holdByHorses_35 rfl ?_
        refine V_iload_n C 0 dX4_holdByHorses_36 rfl ?_
        obtain ⟨q4, hq4, hF⟩ := bnd hF
        refine cs_X4_82 C (ct_X4_bestToAsk hq4) rfl ⟨by decide, by decide⟩ (Nat.le_of_ble_eq_true rfl) dX4_holdByHorses_37 ⟨Nat.le_refl 0, Nat.le_refl 0⟩ ?_
        refine V_istore_n C (lv' := [(3, .int q4), (2, .int q3), (0, .ref (ad 6)), (1, .int x1)]) dX4_holdByHorses_40 rfl (by decide) rfl ?_
        refine V_aload_n C 2 dX4_holdByHorses_41 rfl ?_
        refine gf_X4_22 C dX4_holdByHorses_42 ?_
        refine V_iload_n C 1 dX4_holdByHorses_45 rfl ?_
        refine V_aload_n C 2 dX4_holdByHorses_46 rfl ?_
        refine gf_X4_22 C dX4_holdByHorses_47 ?_
        refine V_iload_n C 1 dX4_holdByHorses_50 rfl ?_
        obtain ⟨q5, hq5, hF⟩ := bnd hF
        refine cs_X4_46 C (ct_X10_at (by decide) hq5) rfl ⟨by decide, by decide⟩ (Nat.le_of_ble_eq_true rfl) dX4_holdByHorses_51 ⟨Nat.le_refl 0, Nat.le_refl 0⟩ ?_
        refine V_iconst C dX4_holdByHorses_54 (v := (1 : Int32)) (by decide) ?_
        refine V_iload_n C 0 dX4_holdByHorses_55 rfl ?_
        refine V_ishl C dX4_holdByHorses_56 ?_
        refine V_ior C dX4_holdByHorses_57 ?_
        obtain ⟨σ6, hs6, hF⟩ := bnd hF
        refine cs_X4_56 C (ct_X10_put (by decide) hs6) rfl ⟨by decide, by decide⟩ (Nat.le_of_ble_eq_true rfl) dX4_holdByHorses_58 ⟨Nat.le_refl 0, Nat.le_refl 0⟩ ?_
        refine V_aload_n C 2 dX4_holdByHorses_61 rfl ?_
        refine gf_X4_25 C dX4_holdByHorses_62 ?_
        refine V_iload_n C 0 dX4_holdByHorses_65 rfl ?_
        refine V_iload_n C 1 dX4_holdByHorses_66 rfl ?_
        refine V_aload_n C 2 dX4_holdByHorses_67 rfl ?_
        refine gf_X4_12 C dX4_holdByHorses_68 ?_
        refine V_iload_n C 0 dX4_holdByHorses_71 rfl ?_
        obtain ⟨q7, hq7, hF⟩ := bnd hF
        refine cs_X4_72 C (by decide) (ct_X7_horseOf (by decide) hq7) rfl ⟨by decide, by decide⟩ (Nat.le_of_ble_eq_true rfl) dX4_holdByHorses_72 ⟨Nat.le_refl 0, Nat.le_refl 0⟩ ?_
        obtain ⟨q8, hq8, hF⟩ := bnd hF
        refine cs_X4_85 C (ct_X3_riderLikes hq8) rfl ⟨by decide, by decide⟩ (Nat.le_of_ble_eq_true rfl) dX4_holdByHorses_75 ⟨Nat.le_refl 0, Nat.le_refl 0⟩ ?_
        refine V_if_eq C 90 dX4_holdByHorses_78 (by decide) hF (fun hF => ?_) (fun hF => ?_)
        · refine V_iinc C (v := (x1 + 1)) (lv' := [(1, .int (x1 + 1)), (3, .int q4), (2, .int q3), (0, .ref (ad 6))]) 3 dX4_holdByHorses_90 rfl rfl (by decide) rfl ?_
          refine V_goto C 17 dX4_holdByHorses_93 (by decide) ?_
          refine V_lv (ks := [3, 0]) rfl ?_
          exact ih (x1 + 1) σ6 hF
        · refine V_aload_n C 2 dX4_holdByHorses_81 rfl ?_
          refine gf_X4_12 C dX4_holdByHorses_82 ?_
          refine V_iload_n C 0 dX4_holdByHorses_85 rfl ?_
          refine V_iload_n C 1 dX4_holdByHorses_86 rfl ?_
          obtain ⟨σ9, hs9, hF⟩ := bnd hF
          refine cs_X4_89 C (by decide) (ct_X7_set (by decide) hs9) rfl ⟨by decide, by decide⟩ (Nat.le_of_ble_eq_true rfl) dX4_holdByHorses_87 ⟨Nat.le_refl 0, Nat.le_refl 0⟩ ?_
          refine V_iinc C (v := (x1 + 1)) (lv' := [(1, .int (x1 + 1)), (3, .int q4), (2, .int q3), (0, .ref (ad 6))]) 3 dX4_holdByHorses_90 rfl rfl (by decide) rfl ?_
          refine V_goto C 17 dX4_holdByHorses_93 (by decide) ?_
          refine V_lv (ks := [3, 0]) rfl ?_
          exact ih (x1 + 1) σ9 hF
      · cases hF
        exact V_vret C hr hlk rfl rfl dX4_holdByHorses_34
set_option maxHeartbeats 4000000 in
set_option maxRecDepth 20000 in
theorem ct_X4_holdByHorses {σ : Mem} {r : Mem} (hF : F_X4_holdByHorses σ = some r) : Ct yX4_holdByHorses cX4_holdByHorses 4 none 5 110 (fun ad zz => [.ref (ad 6)]) σ (fun ad => none) r := by
  refine Ct_of (by decide +kernel) (lv := fun ad zz => [(0, .ref (ad 6))]) (fun _ _ => rfl) (fun _ _ => Nat.le_of_ble_eq_true rfl) (fun p l e s m args below meth c D T ad zz C hr hlk => ?_)
  rw [F_X4_holdByHorses] at hF
  refine V_aload_n C 0 dX4_holdByHorses_0 rfl ?_
  refine gf_X4_12 C dX4_holdByHorses_1 ?_
  obtain ⟨σ1, hs1, hF⟩ := bnd hF
  refine cs_X4_33 C (by decide) (ct_X7_clear (by decide) hs1) rfl ⟨by decide, by decide⟩ (Nat.le_of_ble_eq_true rfl) dX4_holdByHorses_4 ⟨Nat.le_refl 0, Nat.le_refl 0⟩ ?_
  refine V_aload_n C 0 dX4_holdByHorses_7 rfl ?_
  refine gf_X4_22 C dX4_holdByHorses_8 ?_
  refine V_iconst C dX4_holdByHorses_11 (v := (0 : Int32)) (by decide) ?_
  obtain ⟨σ2, hs2, hF⟩ := bnd hF
  refine cs_X4_36 C (ct_J7_fill_53178 (by decide) hs2) rfl ⟨by decide, by decide⟩ (Nat.le_of_ble_eq_true rfl) dX4_holdByHorses_12 ⟨Nat.le_refl 0, Nat.le_refl 0⟩ ?_
  refine V_iconst C dX4_holdByHorses_15 (v := (0 : Int32)) (by decide) ?_
  refine V_istore_n C (lv' := [(1, .int (0 : Int32)), (0, .ref (ad 6))]) dX4_holdByHorses_16 rfl (by decide) rfl ?_
  refine V_lv (ks := [1, 0]) rfl ?_
  exact w_X4_holdByHorses_b17 C hr hlk 4000 (0 : Int32) σ2 hF

def F_X5_clear (k0 : Nat) (σ : Mem) : Option Mem :=
  Option.bind (F_X7_clear k0 σ) fun σ1 =>
  Option.bind (F_J7_fill_53178 (36 + k0) (0 : Int32) σ1) fun σ2 =>
  Option.bind (stI σ2 (40 + k0) (0 : Int32)) fun σ3 =>
  some σ3
set_option maxHeartbeats 4000000 in
set_option maxRecDepth 20000 in
theorem ct_X5_clear {k0 : Nat} {σ : Mem} {r : Mem} (hk0 : k0 < 17) (hF : F_X5_clear k0 σ = some r) : Ct yX5_clear cX5_clear 1 none 2 43 (fun ad zz => [.ref (ad (80 + k0))]) σ (fun ad => none) r := by
  refine Ct_of (by decide +kernel) (lv := fun ad zz => [(0, .ref (ad (80 + k0)))]) (fun _ _ => rfl) (fun _ _ => Nat.le_of_ble_eq_true rfl) (fun p l e s m args below meth c D T ad zz C hr hlk => ?_)
  rw [F_X5_clear] at hF
  refine V_aload_n C 0 dX5_clear_0 rfl ?_
  refine gf_X5_12 C hk0 dX5_clear_1 ?_
  obtain ⟨σ1, hs1, hF⟩ := bnd hF
  refine cs_X5_22 C (by omega) (ct_X7_clear (by omega) hs1) rfl ⟨by decide, by decide⟩ (Nat.le_of_ble_eq_true rfl) dX5_clear_4 ⟨Nat.le_refl 0, Nat.le_refl 0⟩ ?_
  refine V_aload_n C 0 dX5_clear_7 rfl ?_
  refine gf_X5_18 C hk0 dX5_clear_8 ?_
  refine V_iconst C dX5_clear_11 (v := (0 : Int32)) (by decide) ?_
  obtain ⟨σ2, hs2, hF⟩ := bnd hF
  refine cs_X5_25 C (ct_J7_fill_53178 (by omega) hs2) rfl ⟨by decide, by decide⟩ (Nat.le_of_ble_eq_true rfl) dX5_clear_12 ⟨Nat.le_refl 0, Nat.le_refl 0⟩ ?_
  refine V_aload_n C 0 dX5_clear_15 rfl ?_
  refine V_iconst C dX5_clear_16 (v := (0 : Int32)) (by decide) ?_
  obtain ⟨σ3, hs3, hF⟩ := bnd hF
  refine pf_X5_31 C hk0 hs3 dX5_clear_17 ?_
  cases hF
  exact V_vret C hr hlk rfl rfl dX5_clear_20

def F_X6_add (a1 : Int32) (σ : Mem) : Option (Int32 × Mem) :=
  if (σ.1 0) < (64 : Int32) then
    Option.bind (F_X10_put 0 (σ.1 0) a1 σ) fun σ1 =>
    Option.bind (stI σ1 0 ((σ1.1 0) + (1 : Int32))) fun σ2 =>
    some ((1 : Int32), σ2)
  else
    some ((0 : Int32), σ)
set_option maxHeartbeats 4000000 in
set_option maxRecDepth 20000 in
theorem ct_X6_add {a1 : Int32} {σ : Mem} {r : (Int32 × Mem)} (hF : F_X6_add a1 σ = some r) : Ct yX6_add cX6_add 2 (some .boolean) 1 22 (fun ad zz => [.ref (ad 1), .int a1]) σ (fun ad => (some (.int r.1))) r.2 := by
  refine Ct_of (by decide +kernel) (lv := fun ad zz => [(0, .ref (ad 1)), (1, .int a1)]) (fun _ _ => rfl) (fun _ _ => Nat.le_of_ble_eq_true rfl) (fun p l e s m args below meth c D T ad zz C hr hlk => ?_)
  rw [F_X6_add] at hF
  refine V_aload_n C 0 dX6_add_0 rfl ?_
  refine gf_X6_15 C dX6_add_1 ?_
  refine V_bipush C dX6_add_4 (v := (64 : Int32)) (by decide) ?_
  refine V_icmp_lt C 11 dX6_add_6 (by decide) hF (fun hF => ?_) (fun hF => ?_)
  · refine V_aload_n C 0 dX6_add_11 rfl ?_
    refine gf_X6_11 C dX6_add_12 ?_
    refine V_aload_n C 0 dX6_add_15 rfl ?_
    refine gf_X6_15 C dX6_add_16 ?_
    refine V_iload_n C 1 dX6_add_19 rfl ?_
    obtain ⟨σ1, hs1, hF⟩ := bnd hF
    refine cs_X6_19 C (ct_X10_put (by decide) hs1) rfl ⟨by decide, by decide⟩ (Nat.le_of_ble_eq_true rfl) dX6_add_20 ⟨Nat.le_refl 0, Nat.le_refl 0⟩ ?_
    refine V_aload_n C 0 dX6_add_23 rfl ?_
    refine V_dup C dX6_add_24 rfl ?_
    refine gf_X6_15 C dX6_add_25 ?_
    refine V_iconst C dX6_add_28 (v := (1 : Int32)) (by decide) ?_
    refine V_iadd C dX6_add_29 ?_
    obtain ⟨σ2, hs2, hF⟩ := bnd hF
    refine pf_X6_15 C hs2 dX6_add_30 ?_
    refine V_iconst C dX6_add_33 (v := (1 : Int32)) (by decide) ?_
    cases hF
    exact V_zret C hr hlk (Or.inr rfl) rfl rfl dX6_add_34
  · refine V_iconst C dX6_add_9 (v := (0 : Int32)) (by decide) ?_
    cases hF
    exact V_zret C hr hlk (Or.inl rfl) rfl rfl dX6_add_10

def F_X6_leastFigure (a1 : Int32) (a2 : Int32) (σ : Mem) : Option Int32 :=
  Option.bind (F_X6_isHorse a1 σ) fun q1 =>
  if q1 = 0 then
    some (0 : Int32)
  else
    if a2 = (1 : Int32) then
      some (1 : Int32)
    else
      some (0 : Int32)
set_option maxHeartbeats 4000000 in
set_option maxRecDepth 20000 in
theorem ct_X6_leastFigure {a1 : Int32} {a2 : Int32} {σ : Mem} {r : Int32} (hF : F_X6_leastFigure a1 a2 σ = some r) : Ct yX6_leastFigure cX6_leastFigure 3 (some .int) 3 63 (fun ad zz => [.ref (ad 1), .int a1, .int a2]) σ (fun ad => (some (.int r))) σ := by
  refine Ct_of (by decide +kernel) (lv := fun ad zz => [(0, .ref (ad 1)), (1, .int a1), (2, .int a2)]) (fun _ _ => rfl) (fun _ _ => Nat.le_of_ble_eq_true rfl) (fun p l e s m args below meth c D T ad zz C hr hlk => ?_)
  rw [F_X6_leastFigure] at hF
  refine V_aload_n C 0 dX6_leastFigure_0 rfl ?_
  refine V_iload_n C 1 dX6_leastFigure_1 rfl ?_
  obtain ⟨q1, hq1, hF⟩ := bnd hF
  refine cs_X6_31 C (ct_X6_isHorse hq1) rfl ⟨by decide, by decide⟩ (Nat.le_of_ble_eq_true rfl) dX6_leastFigure_2 ⟨Nat.le_refl 0, Nat.le_refl 0⟩ ?_
  refine V_if_eq C 17 dX6_leastFigure_5 (by decide) hF (fun hF => ?_) (fun hF => ?_)
  · refine V_iconst C dX6_leastFigure_17 (v := (0 : Int32)) (by decide) ?_
    cases hF
    exact V_iret C hr hlk rfl rfl dX6_leastFigure_18
  · refine V_iload_n C 2 dX6_leastFigure_8 rfl ?_
    refine V_iconst C dX6_leastFigure_9 (v := (1 : Int32)) (by decide) ?_
    refine V_icmp_ne C 17 dX6_leastFigure_10 (by decide) hF (fun hF => ?_) (fun hF => ?_)
    · refine V_iconst C dX6_leastFigure_17 (v := (0 : Int32)) (by decide) ?_
      cases hF
      exact V_iret C hr hlk rfl rfl dX6_leastFigure_18
    · refine V_iconst C dX6_leastFigure_13 (v := (1 : Int32)) (by decide) ?_
      refine V_goto C 18 dX6_leastFigure_14 (by decide) ?_
      cases hF
      exact V_iret C hr hlk rfl rfl dX6_leastFigure_18

def F_X10_atZ (z1 : Nat) (a2 : Int32) (σ : Mem) : Option Int32 :=
  if a2 < 0 then
    some (0 : Int32)
  else
    if (nI (zlen z1)) ≤ a2 then
      some (0 : Int32)
    else
      Option.bind (rdZ z1 a2) fun v1 =>
      some v1
set_option maxHeartbeats 4000000 in
set_option maxRecDepth 20000 in
theorem ct_X10_atZ {z1 : Nat} {a2 : Int32} {σ : Mem} {r : Int32} (hz1 : z1 < 2) (hF : F_X10_atZ z1 a2 σ = some r) : Ct yX10_at cX10_at 2 (some .int) 0 0 (fun ad zz => [.ref (zz z1), .int a2]) σ (fun ad => (some (.int r))) σ := by
  refine Ct_of (by decide +kernel) (lv := fun ad zz => [(0, .ref (zz z1)), (1, .int a2)]) (fun _ _ => rfl) (fun _ _ => Nat.le_of_ble_eq_true rfl) (fun p l e s m args below meth c D T ad zz C hr hlk => ?_)
  rw [F_X10_atZ] at hF
  refine V_iload_n C 1 dX10_at_0 rfl ?_
  refine V_if_lt C 16 dX10_at_1 (by decide) hF (fun hF => ?_) (fun hF => ?_)
  · refine V_iconst C dX10_at_16 (v := (0 : Int32)) (by decide) ?_
    cases hF
    exact V_iret C hr hlk rfl rfl dX10_at_17
  · refine V_iload_n C 1 dX10_at_4 rfl ?_
    refine V_aload_n C 0 dX10_at_5 rfl ?_
    refine V_zlen C hz1 dX10_at_6 ?_
    refine V_icmp_ge C 16 dX10_at_7 (by decide) hF (fun hF => ?_) (fun hF => ?_)
    · refine V_iconst C dX10_at_16 (v := (0 : Int32)) (by decide) ?_
      cases hF
      exact V_iret C hr hlk rfl rfl dX10_at_17
    · refine V_aload_n C 0 dX10_at_10 rfl ?_
      refine V_iload_n C 1 dX10_at_11 rfl ?_
      obtain ⟨v1, hv1, hF⟩ := bnd hF
      refine V_zald2 C hz1 hv1 dX10_at_12 ?_
      refine V_goto C 17 dX10_at_13 (by decide) ?_
      cases hF
      exact V_iret C hr hlk rfl rfl dX10_at_17
