-- walks: X0_stateAt X7_copyFrom X5_copyFrom X0_remember X0_bringBack X1_oneWins X1_gainOfOne X1_gainOfOther X1_isRest X1_findRests X10_put X2_add X10_at X3_hasRider X3_worthByTruth X2_likingBits X2_learntBits X2_leastFigures X3_hasHorse X3_allRiders
def F_X0_stateAt (a1 : Int32) (σ : Mem) : Option (Option Nat) :=
  if (((σ.1 3) + a1) - ((σ.1 3) + a1) / (14 : Int32) * (14 : Int32)) < 0 then
    some none
  else
    if (nI 14) ≤ (((σ.1 3) + a1) - ((σ.1 3) + a1) / (14 : Int32) * (14 : Int32)) then
      some none
    else
      Option.bind (rdS 1 14 (((σ.1 3) + a1) - ((σ.1 3) + a1) / (14 : Int32) * (14 : Int32))) fun j1 =>
      some (some j1)
set_option maxHeartbeats 4000000 in
set_option maxRecDepth 20000 in
theorem ct_X0_stateAt {a1 : Int32} {σ : Mem} {r : (Option Nat)} (hF : F_X0_stateAt a1 σ = some r) : Ct yX0_stateAt cX0_stateAt 3 (some (.object "HorsesChoose$State")) 0 0 (fun ad zz => [.ref (ad 3), .int a1]) σ (fun ad => (some (va_rf ((r : Option Nat).map (fun k => ad (80 + k)))))) σ := by
  refine Ct_of (by decide +kernel) (lv := fun ad zz => [(0, .ref (ad 3)), (1, .int a1)]) (fun _ _ => rfl) (fun _ _ => Nat.le_of_ble_eq_true rfl) (fun p l e s m args below meth c D T ad zz C hr hlk => ?_)
  rw [F_X0_stateAt] at hF
  refine V_aload_n C 0 dX0_stateAt_0 rfl ?_
  refine gf_X0_20 C dX0_stateAt_1 ?_
  refine V_iload_n C 1 dX0_stateAt_4 rfl ?_
  refine V_iadd C dX0_stateAt_5 ?_
  refine V_bipush C dX0_stateAt_6 (v := (14 : Int32)) (by decide) ?_
  refine V_iremc C dX0_stateAt_8 (by decide) ?_
  refine V_istore_n C (lv' := [(2, .int (((σ.1 3) + a1) - ((σ.1 3) + a1) / (14 : Int32) * (14 : Int32))), (0, .ref (ad 3)), (1, .int a1)]) dX0_stateAt_9 rfl (by decide) rfl ?_
  refine V_iload_n C 0 dX0_stateAt_10 rfl ?_
  refine V_if_lt C 32 dX0_stateAt_11 (by decide) hF (fun hF => ?_) (fun hF => ?_)
  · refine V_null C dX0_stateAt_32 ?_
    cases hF
    exact V_aret C hr hlk (Or.inl rfl) rfl rfl dX0_stateAt_33
  · refine V_iload_n C 0 dX0_stateAt_14 rfl ?_
    refine V_aload_n C 1 dX0_stateAt_15 rfl ?_
    refine gf_X0_11 C dX0_stateAt_16 ?_
    refine V_alenS C (i := 9) (by decide) rfl dX0_stateAt_19 ?_
    refine V_icmp_ge C 32 dX0_stateAt_20 (by decide) hF (fun hF => ?_) (fun hF => ?_)
    · refine V_null C dX0_stateAt_32 ?_
      cases hF
      exact V_aret C hr hlk (Or.inl rfl) rfl rfl dX0_stateAt_33
    · refine V_aload_n C 1 dX0_stateAt_23 rfl ?_
      refine gf_X0_11 C dX0_stateAt_24 ?_
      refine V_iload_n C 0 dX0_stateAt_27 rfl ?_
      obtain ⟨j1, hj1, hF⟩ := bnd hF
      have h9j1 : j1 < 17 := Nat.lt_of_lt_of_le (rdS_lt hj1) (by decide)
      refine V_aldS C (i := 9) (by decide) rfl hj1 dX0_stateAt_28 ?_
      refine V_goto C 33 dX0_stateAt_29 (by decide) ?_
      cases hF
      exact V_aret C hr hlk (Or.inr ⟨_, rfl⟩) rfl rfl dX0_stateAt_33

def F_X7_copyFrom (k0 : Nat) (k1 : Nat) (σ : Mem) : Option Mem :=
  Option.bind (cpA σ (15 + k1) (0 : Int32) (15 + k0) (0 : Int32) (5 : Int32)) fun σ1 =>
  some σ1
set_option maxHeartbeats 4000000 in
set_option maxRecDepth 20000 in
theorem ct_X7_copyFrom {k0 : Nat} {k1 : Nat} {σ : Mem} {r : Mem} (hk0 : k0 < 21) (hk1 : k1 < 21) (hF : F_X7_copyFrom k0 k1 σ = some r) : Ct yX7_copyFrom cX7_copyFrom 2 none 1 40 (fun ad zz => [.ref (ad (97 + k0)), .ref (ad (97 + k1))]) σ (fun ad => none) r := by
  refine Ct_of (by decide +kernel) (lv := fun ad zz => [(0, .ref (ad (97 + k0))), (1, .ref (ad (97 + k1)))]) (fun _ _ => rfl) (fun _ _ => Nat.le_of_ble_eq_true rfl) (fun p l e s m args below meth c D T ad zz C hr hlk => ?_)
  rw [F_X7_copyFrom] at hF
  refine V_aload_n C 1 dX7_copyFrom_0 rfl ?_
  refine gf_X7_9 C hk1 dX7_copyFrom_1 ?_
  refine V_iconst C dX7_copyFrom_4 (v := (0 : Int32)) (by decide) ?_
  refine V_aload_n C 0 dX7_copyFrom_5 rfl ?_
  refine gf_X7_9 C hk0 dX7_copyFrom_6 ?_
  refine V_iconst C dX7_copyFrom_9 (v := (0 : Int32)) (by decide) ?_
  refine V_iconst C dX7_copyFrom_10 (v := (5 : Int32)) (by decide) ?_
  obtain ⟨σ1, hs1, hF⟩ := bnd hF
  refine cs_X7_21 C (by omega) (by omega) hs1 ⟨by decide, Nat.le_of_ble_eq_true rfl⟩ dX7_copyFrom_11 ?_
  cases hF
  exact V_vret C hr hlk rfl rfl dX7_copyFrom_14

def F_X5_copyFrom (k0 : Nat) (k1 : Nat) (σ : Mem) : Option Mem :=
  Option.bind (F_X7_copyFrom k0 k1 σ) fun σ1 =>
  Option.bind (cpA σ1 (36 + k1) (0 : Int32) (36 + k0) (0 : Int32) (nI (alen (36 + k0)))) fun σ2 =>
  Option.bind (stI σ2 (40 + k0) (σ2.1 (40 + k1))) fun σ3 =>
  some σ3
set_option maxHeartbeats 4000000 in
set_option maxRecDepth 20000 in
theorem ct_X5_copyFrom {k0 : Nat} {k1 : Nat} {σ : Mem} {r : Mem} (hk0 : k0 < 17) (hk1 : k1 < 17) (hF : F_X5_copyFrom k0 k1 σ = some r) : Ct yX5_copyFrom cX5_copyFrom 2 none 2 61 (fun ad zz => [.ref (ad (80 + k0)), .ref (ad (80 + k1))]) σ (fun ad => none) r := by
  refine Ct_of (by decide +kernel) (lv := fun ad zz => [(0, .ref (ad (80 + k0))), (1, .ref (ad (80 + k1)))]) (fun _ _ => rfl) (fun _ _ => Nat.le_of_ble_eq_true rfl) (fun p l e s m args below meth c D T ad zz C hr hlk => ?_)
  rw [F_X5_copyFrom] at hF
  refine V_aload_n C 0 dX5_copyFrom_0 rfl ?_
  refine gf_X5_12 C hk0 dX5_copyFrom_1 ?_
  refine V_aload_n C 1 dX5_copyFrom_4 rfl ?_
  refine gf_X5_12 C hk1 dX5_copyFrom_5 ?_
  obtain ⟨σ1, hs1, hF⟩ := bnd hF
  refine cs_X5_35 C (by omega) (ct_X7_copyFrom (by omega) (by omega) hs1) rfl ⟨by decide, by decide⟩ (Nat.le_of_ble_eq_true rfl) dX5_copyFrom_8 ⟨Nat.le_refl 0, Nat.le_refl 0⟩ ?_
  refine V_aload_n C 1 dX5_copyFrom_11 rfl ?_
  refine gf_X5_18 C hk1 dX5_copyFrom_12 ?_
  refine V_iconst C dX5_copyFrom_15 (v := (0 : Int32)) (by decide) ?_
  refine V_aload_n C 0 dX5_copyFrom_16 rfl ?_
  refine gf_X5_18 C hk0 dX5_copyFrom_17 ?_
  refine V_iconst C dX5_copyFrom_20 (v := (0 : Int32)) (by decide) ?_
  refine V_aload_n C 0 dX5_copyFrom_21 rfl ?_
  refine gf_X5_18 C hk0 dX5_copyFrom_22 ?_
  refine V_alen C (by omega) dX5_copyFrom_25 ?_
  obtain ⟨σ2, hs2, hF⟩ := bnd hF
  refine cs_X5_39 C (by omega) (by omega) hs2 ⟨by decide, Nat.le_of_ble_eq_true rfl⟩ dX5_copyFrom_26 ?_
  refine V_aload_n C 0 dX5_copyFrom_29 rfl ?_
  refine V_aload_n C 1 dX5_copyFrom_30 rfl ?_
  refine gf_X5_31 C hk1 dX5_copyFrom_31 ?_
  obtain ⟨σ3, hs3, hF⟩ := bnd hF
  refine pf_X5_31 C hk0 hs3 dX5_copyFrom_34 ?_
  cases hF
  exact V_vret C hr hlk rfl rfl dX5_copyFrom_37

def F_X0_remember (k1 : Nat) (σ : Mem) : Option Mem :=
  if (σ.1 4) = (14 : Int32) then
    Option.bind (stI σ 3 (((σ.1 3) + (1 : Int32)) - ((σ.1 3) + (1 : Int32)) / (14 : Int32) * (14 : Int32))) fun σ5 =>
    Option.bind (stI σ5 4 ((σ5.1 4) - (1 : Int32))) fun σ6 =>
    Option.bind (F_X0_stateAt (σ6.1 4) σ6) fun q7 =>
    oc q7
      (some σ6)
      (fun k8 => ifK k8 17
      (Option.bind (F_X5_copyFrom k8 k1 σ6) fun σ9 =>
      Option.bind (stI σ9 4 ((σ9.1 4) + (1 : Int32))) fun σ10 =>
      some σ10))
  else
    Option.bind (F_X0_stateAt (σ.1 4) σ) fun q1 =>
    oc q1
      (some σ)
      (fun k2 => ifK k2 17
      (Option.bind (F_X5_copyFrom k2 k1 σ) fun σ3 =>
      Option.bind (stI σ3 4 ((σ3.1 4) + (1 : Int32))) fun σ4 =>
      some σ4))
set_option maxHeartbeats 4000000 in
set_option maxRecDepth 20000 in
theorem ct_X0_remember {k1 : Nat} {σ : Mem} {r : Mem} (hk1 : k1 < 17) (hF : F_X0_remember k1 σ = some r) : Ct yX0_remember cX0_remember 3 none 3 82 (fun ad zz => [.ref (ad 3), .ref (ad (80 + k1))]) σ (fun ad => none) r := by
  refine Ct_of (by decide +kernel) (lv := fun ad zz => [(0, .ref (ad 3)), (1, .ref (ad (80 + k1)))]) (fun _ _ => rfl) (fun _ _ => Nat.le_of_ble_eq_true rfl) (fun p l e s m args below meth c D T ad zz C hr hlk => ?_)
  rw [F_X0_remember] at hF
  refine V_aload_n C 0 dX0_remember_0 rfl ?_
  refine gf_X0_16 C dX0_remember_1 ?_
  refine V_bipush C dX0_remember_4 (v := (14 : Int32)) (by decide) ?_
  refine V_icmp_ne C 32 dX0_remember_6 (by decide) hF (fun hF => ?_) (fun hF => ?_)
  · refine V_aload_n C 0 dX0_remember_32 rfl ?_
    refine V_aload_n C 0 dX0_remember_33 rfl ?_
    refine gf_X0_16 C dX0_remember_34 ?_
    obtain ⟨q1, hq1, hF⟩ := bnd hF
    refine cs_X0_23 C (ct_X0_stateAt hq1) rfl ⟨by decide, by decide⟩ (Nat.le_of_ble_eq_true rfl) dX0_remember_37 ⟨Nat.le_refl 0, Nat.le_refl 0⟩ ?_
    rcases q1 with _ | k2
    · refine V_astore_nN C (lv' := [(2, .null), (0, .ref (ad 3)), (1, .ref (ad (80 + k1)))]) dX0_remember_40 rfl (by decide) rfl ?_
      refine V_aload_nN C 0 dX0_remember_41 rfl ?_
      refine V_ifnullN C 60 dX0_remember_42 (by decide) ?_
      cases hF
      exact V_vret C hr hlk rfl rfl dX0_remember_60
    · obtain ⟨hk2, hF⟩ := ifK_s (show ifK k2 17 _ = some r from hF)
      refine V_astore_n C (lv' := [(2, .ref (ad (80 + k2))), (0, .ref (ad 3)), (1, .ref (ad (80 + k1)))]) dX0_remember_40 rfl (by decide) rfl ?_
      refine V_aload_n C 0 dX0_remember_41 rfl ?_
      refine V_ifnullR C dX0_remember_42 ?_
      refine V_aload_n C 0 dX0_remember_45 rfl ?_
      refine V_aload_n C 2 dX0_remember_46 rfl ?_
      obtain ⟨σ3, hs3, hF⟩ := bnd hF
      refine cs_X0_27 C hk2 (ct_X5_copyFrom hk2 hk1 hs3) rfl ⟨by decide, by decide⟩ (Nat.le_of_ble_eq_true rfl) dX0_remember_47 ⟨Nat.le_refl 0, Nat.le_refl 0⟩ ?_
      refine V_aload_n C 1 dX0_remember_50 rfl ?_
      refine V_dup C dX0_remember_51 rfl ?_
      refine gf_X0_16 C dX0_remember_52 ?_
      refine V_iconst C dX0_remember_55 (v := (1 : Int32)) (by decide) ?_
      refine V_iadd C dX0_remember_56 ?_
      obtain ⟨σ4, hs4, hF⟩ := bnd hF
      refine pf_X0_16 C hs4 dX0_remember_57 ?_
      cases hF
      exact V_vret C hr hlk rfl rfl dX0_remember_60
  · refine V_aload_n C 0 dX0_remember_9 rfl ?_
    refine V_aload_n C 0 dX0_remember_10 rfl ?_
    refine gf_X0_20 C dX0_remember_11 ?_
    refine V_iconst C dX0_remember_14 (v := (1 : Int32)) (by decide) ?_
    refine V_iadd C dX0_remember_15 ?_
    refine V_bipush C dX0_remember_16 (v := (14 : Int32)) (by decide) ?_
    refine V_iremc C dX0_remember_18 (by decide) ?_
    obtain ⟨σ5, hs5, hF⟩ := bnd hF
    refine pf_X0_20 C hs5 dX0_remember_19 ?_
    refine V_aload_n C 0 dX0_remember_22 rfl ?_
    refine V_dup C dX0_remember_23 rfl ?_
    refine gf_X0_16 C dX0_remember_24 ?_
    refine V_iconst C dX0_remember_27 (v := (1 : Int32)) (by decide) ?_
    refine V_isub C dX0_remember_28 ?_
    obtain ⟨σ6, hs6, hF⟩ := bnd hF
    refine pf_X0_16 C hs6 dX0_remember_29 ?_
    refine V_aload_n C 0 dX0_remember_32 rfl ?_
    refine V_aload_n C 0 dX0_remember_33 rfl ?_
    refine gf_X0_16 C dX0_remember_34 ?_
    obtain ⟨q7, hq7, hF⟩ := bnd hF
    refine cs_X0_23 C (ct_X0_stateAt hq7) rfl ⟨by decide, by decide⟩ (Nat.le_of_ble_eq_true rfl) dX0_remember_37 ⟨Nat.le_refl 0, Nat.le_refl 0⟩ ?_
    rcases q7 with _ | k8
    · refine V_astore_nN C (lv' := [(2, .null), (0, .ref (ad 3)), (1, .ref (ad (80 + k1)))]) dX0_remember_40 rfl (by decide) rfl ?_
      refine V_aload_nN C 0 dX0_remember_41 rfl ?_
      refine V_ifnullN C 60 dX0_remember_42 (by decide) ?_
      cases hF
      exact V_vret C hr hlk rfl rfl dX0_remember_60
    · obtain ⟨hk8, hF⟩ := ifK_s (show ifK k8 17 _ = some r from hF)
      refine V_astore_n C (lv' := [(2, .ref (ad (80 + k8))), (0, .ref (ad 3)), (1, .ref (ad (80 + k1)))]) dX0_remember_40 rfl (by decide) rfl ?_
      refine V_aload_n C 0 dX0_remember_41 rfl ?_
      refine V_ifnullR C dX0_remember_42 ?_
      refine V_aload_n C 0 dX0_remember_45 rfl ?_
      refine V_aload_n C 2 dX0_remember_46 rfl ?_
      obtain ⟨σ9, hs9, hF⟩ := bnd hF
      refine cs_X0_27 C hk8 (ct_X5_copyFrom hk8 hk1 hs9) rfl ⟨by decide, by decide⟩ (Nat.le_of_ble_eq_true rfl) dX0_remember_47 ⟨Nat.le_refl 0, Nat.le_refl 0⟩ ?_
      refine V_aload_n C 1 dX0_remember_50 rfl ?_
      refine V_dup C dX0_remember_51 rfl ?_
      refine gf_X0_16 C dX0_remember_52 ?_
      refine V_iconst C dX0_remember_55 (v := (1 : Int32)) (by decide) ?_
      refine V_iadd C dX0_remember_56 ?_
      obtain ⟨σ10, hs10, hF⟩ := bnd hF
      refine pf_X0_16 C hs10 dX0_remember_57 ?_
      cases hF
      exact V_vret C hr hlk rfl rfl dX0_remember_60

def F_X0_bringBack (k1 : Nat) (σ : Mem) : Option (Int32 × Mem) :=
  if (σ.1 4) ≤ 0 then
    some ((0 : Int32), σ)
  else
    Option.bind (F_X0_stateAt ((σ.1 4) - (1 : Int32)) σ) fun q1 =>
    oc q1
      (some ((0 : Int32), σ))
      (fun k2 => ifK k2 17
      (Option.bind (F_X5_copyFrom k1 k2 σ) fun σ3 =>
      Option.bind (stI σ3 4 ((σ3.1 4) - (1 : Int32))) fun σ4 =>
      some ((1 : Int32), σ4)))
set_option maxHeartbeats 4000000 in
set_option maxRecDepth 20000 in
theorem ct_X0_bringBack {k1 : Nat} {σ : Mem} {r : (Int32 × Mem)} (hk1 : k1 < 17) (hF : F_X0_bringBack k1 σ = some r) : Ct yX0_bringBack cX0_bringBack 3 (some .boolean) 3 82 (fun ad zz => [.ref (ad 3), .ref (ad (80 + k1))]) σ (fun ad => (some (.int r.1))) r.2 := by
  refine Ct_of (by decide +kernel) (lv := fun ad zz => [(0, .ref (ad 3)), (1, .ref (ad (80 + k1)))]) (fun _ _ => rfl) (fun _ _ => Nat.le_of_ble_eq_true rfl) (fun p l e s m args below meth c D T ad zz C hr hlk => ?_)
  rw [F_X0_bringBack] at hF
  refine V_aload_n C 0 dX0_bringBack_0 rfl ?_
  refine gf_X0_16 C dX0_bringBack_1 ?_
  refine V_if_le C 20 dX0_bringBack_4 (by decide) hF (fun hF => ?_) (fun hF => ?_)
  · refine V_null C dX0_bringBack_20 ?_
    refine V_astore_nN C (lv' := [(2, .null), (0, .ref (ad 3)), (1, .ref (ad (80 + k1)))]) dX0_bringBack_21 rfl (by decide) rfl ?_
    refine V_aload_nN C 0 dX0_bringBack_22 rfl ?_
    refine V_ifnonnullN C dX0_bringBack_23 ?_
    refine V_iconst C dX0_bringBack_26 (v := (0 : Int32)) (by decide) ?_
    cases hF
    exact V_zret C hr hlk (Or.inl rfl) rfl rfl dX0_bringBack_27
  · refine V_aload_n C 0 dX0_bringBack_7 rfl ?_
    refine V_aload_n C 0 dX0_bringBack_8 rfl ?_
    refine gf_X0_16 C dX0_bringBack_9 ?_
    refine V_iconst C dX0_bringBack_12 (v := (1 : Int32)) (by decide) ?_
    refine V_isub C dX0_bringBack_13 ?_
    obtain ⟨q1, hq1, hF⟩ := bnd hF
    refine cs_X0_23 C (ct_X0_stateAt hq1) rfl ⟨by decide, by decide⟩ (Nat.le_of_ble_eq_true rfl) dX0_bringBack_14 ⟨Nat.le_refl 0, Nat.le_refl 0⟩ ?_
    rcases q1 with _ | k2
    · refine V_goto C 21 dX0_bringBack_17 (by decide) ?_
      refine V_astore_nN C (lv' := [(2, .null), (0, .ref (ad 3)), (1, .ref (ad (80 + k1)))]) dX0_bringBack_21 rfl (by decide) rfl ?_
      refine V_aload_nN C 0 dX0_bringBack_22 rfl ?_
      refine V_ifnonnullN C dX0_bringBack_23 ?_
      refine V_iconst C dX0_bringBack_26 (v := (0 : Int32)) (by decide) ?_
      cases hF
      exact V_zret C hr hlk (Or.inl rfl) rfl rfl dX0_bringBack_27
    · obtain ⟨hk2, hF⟩ := ifK_s (show ifK k2 17 _ = some r from hF)
      refine V_goto C 21 dX0_bringBack_17 (by decide) ?_
      refine V_astore_n C (lv' := [(2, .ref (ad (80 + k2))), (0, .ref (ad 3)), (1, .ref (ad (80 + k1)))]) dX0_bringBack_21 rfl (by decide) rfl ?_
      refine V_aload_n C 0 dX0_bringBack_22 rfl ?_
      refine V_ifnonnullR C 28 dX0_bringBack_23 (by decide) ?_
      refine V_aload_n C 2 dX0_bringBack_28 rfl ?_
      refine V_aload_n C 0 dX0_bringBack_29 rfl ?_
      obtain ⟨σ3, hs3, hF⟩ := bnd hF
      refine cs_X0_27 C hk1 (ct_X5_copyFrom hk1 hk2 hs3) rfl ⟨by decide, by decide⟩ (Nat.le_of_ble_eq_true rfl) dX0_bringBack_30 ⟨Nat.le_refl 0, Nat.le_refl 0⟩ ?_
      refine V_aload_n C 1 dX0_bringBack_33 rfl ?_
      refine V_dup C dX0_bringBack_34 rfl ?_
      refine gf_X0_16 C dX0_bringBack_35 ?_
      refine V_iconst C dX0_bringBack_38 (v := (1 : Int32)) (by decide) ?_
      refine V_isub C dX0_bringBack_39 ?_
      obtain ⟨σ4, hs4, hF⟩ := bnd hF
      refine pf_X0_16 C hs4 dX0_bringBack_40 ?_
      refine V_iconst C dX0_bringBack_43 (v := (1 : Int32)) (by decide) ?_
      cases hF
      exact V_zret C hr hlk (Or.inr rfl) rfl rfl dX0_bringBack_44

def F_X1_oneWins (a1 : Int32) (a2 : Int32) (σ : Mem) : Option Int32 :=
  if 0 < ((((σ.1 9) + ((5 : Int32) * a1)) - (σ.1 10)) - ((5 : Int32) * a2)) then
    some (1 : Int32)
  else
    if ((((σ.1 9) + ((5 : Int32) * a1)) - (σ.1 10)) - ((5 : Int32) * a2)) = 0 then
      if (σ.1 11) = 0 then
        some (0 : Int32)
      else
        some (1 : Int32)
    else
      some (0 : Int32)
set_option maxHeartbeats 4000000 in
set_option maxRecDepth 20000 in
theorem ct_X1_oneWins {a1 : Int32} {a2 : Int32} {σ : Mem} {r : Int32} (hF : F_X1_oneWins a1 a2 σ = some r) : Ct yX1_oneWins cX1_oneWins 4 (some .boolean) 0 0 (fun ad zz => [.ref (ad 8), .int a1, .int a2]) σ (fun ad => (some (.int r))) σ := by
  refine Ct_of (by decide +kernel) (lv := fun ad zz => [(0, .ref (ad 8)), (1, .int a1), (2, .int a2)]) (fun _ _ => rfl) (fun _ _ => Nat.le_of_ble_eq_true rfl) (fun p l e s m args below meth c D T ad zz C hr hlk => ?_)
  rw [F_X1_oneWins] at hF
  refine V_aload_n C 0 dX1_oneWins_0 rfl ?_
  refine gf_X1_9 C dX1_oneWins_1 ?_
  refine V_iconst C dX1_oneWins_4 (v := (5 : Int32)) (by decide) ?_
  refine V_iload_n C 1 dX1_oneWins_5 rfl ?_
  refine V_imul C dX1_oneWins_6 ?_
  refine V_iadd C dX1_oneWins_7 ?_
  refine V_aload_n C 0 dX1_oneWins_8 rfl ?_
  refine gf_X1_15 C dX1_oneWins_9 ?_
  refine V_isub C dX1_oneWins_12 ?_
  refine V_iconst C dX1_oneWins_13 (v := (5 : Int32)) (by decide) ?_
  refine V_iload_n C 2 dX1_oneWins_14 rfl ?_
  refine V_imul C dX1_oneWins_15 ?_
  refine V_isub C dX1_oneWins_16 ?_
  refine V_istore_n C (lv' := [(3, .int ((((σ.1 9) + ((5 : Int32) * a1)) - (σ.1 10)) - ((5 : Int32) * a2))), (0, .ref (ad 8)), (1, .int a1), (2, .int a2)]) dX1_oneWins_17 rfl (by decide) rfl ?_
  refine V_iload_n C 0 dX1_oneWins_18 rfl ?_
  refine V_if_gt C 33 dX1_oneWins_19 (by decide) hF (fun hF => ?_) (fun hF => ?_)
  · refine V_iconst C dX1_oneWins_33 (v := (1 : Int32)) (by decide) ?_
    refine V_goto C 38 dX1_oneWins_34 (by decide) ?_
    cases hF
    exact V_zret C hr hlk (Or.inr rfl) rfl rfl dX1_oneWins_38
  · refine V_iload_n C 0 dX1_oneWins_22 rfl ?_
    refine V_if_ne C 37 dX1_oneWins_23 (by decide) hF (fun hF => ?_) (fun hF => ?_)
    · refine V_iconst C dX1_oneWins_37 (v := (0 : Int32)) (by decide) ?_
      cases hF
      exact V_zret C hr hlk (Or.inl rfl) rfl rfl dX1_oneWins_38
    · refine V_aload_n C 1 dX1_oneWins_26 rfl ?_
      refine gf_X1_18 C dX1_oneWins_27 ?_
      refine V_if_eq C 37 dX1_oneWins_30 (by decide) hF (fun hF => ?_) (fun hF => ?_)
      · refine V_iconst C dX1_oneWins_37 (v := (0 : Int32)) (by decide) ?_
        cases hF
        exact V_zret C hr hlk (Or.inl rfl) rfl rfl dX1_oneWins_38
      · refine V_iconst C dX1_oneWins_33 (v := (1 : Int32)) (by decide) ?_
        refine V_goto C 38 dX1_oneWins_34 (by decide) ?_
        cases hF
        exact V_zret C hr hlk (Or.inr rfl) rfl rfl dX1_oneWins_38

def F_X1_gainOfOne (a1 : Int32) (a2 : Int32) (σ : Mem) : Option Int32 :=
  Option.bind (F_X1_oneWins a1 a2 σ) fun q1 =>
  if q1 = 0 then
    some ((0 : Int32) - a1)
  else
    some ((6 : Int32) - a1)
set_option maxHeartbeats 4000000 in
set_option maxRecDepth 20000 in
theorem ct_X1_gainOfOne {a1 : Int32} {a2 : Int32} {σ : Mem} {r : Int32} (hF : F_X1_gainOfOne a1 a2 σ = some r) : Ct yX1_gainOfOne cX1_gainOfOne 3 (some .int) 1 23 (fun ad zz => [.ref (ad 8), .int a1, .int a2]) σ (fun ad => (some (.int r))) σ := by
  refine Ct_of (by decide +kernel) (lv := fun ad zz => [(0, .ref (ad 8)), (1, .int a1), (2, .int a2)]) (fun _ _ => rfl) (fun _ _ => Nat.le_of_ble_eq_true rfl) (fun p l e s m args below meth c D T ad zz C hr hlk => ?_)
  rw [F_X1_gainOfOne] at hF
  refine V_aload_n C 0 dX1_gainOfOne_0 rfl ?_
  refine V_iload_n C 1 dX1_gainOfOne_1 rfl ?_
  refine V_iload_n C 2 dX1_gainOfOne_2 rfl ?_
  obtain ⟨q1, hq1, hF⟩ := bnd hF
  refine cs_X1_39 C (ct_X1_oneWins hq1) rfl ⟨by decide, by decide⟩ (Nat.le_of_ble_eq_true rfl) dX1_gainOfOne_3 ⟨Nat.le_refl 0, Nat.le_refl 0⟩ ?_
  refine V_if_eq C 14 dX1_gainOfOne_6 (by decide) hF (fun hF => ?_) (fun hF => ?_)
  · refine V_iconst C dX1_gainOfOne_14 (v := (0 : Int32)) (by decide) ?_
    refine V_iload_n C 1 dX1_gainOfOne_15 rfl ?_
    refine V_isub C dX1_gainOfOne_16 ?_
    cases hF
    exact V_iret C hr hlk rfl rfl dX1_gainOfOne_17
  · refine V_bipush C dX1_gainOfOne_9 (v := (6 : Int32)) (by decide) ?_
    refine V_goto C 15 dX1_gainOfOne_11 (by decide) ?_
    refine V_iload_n C 1 dX1_gainOfOne_15 rfl ?_
    refine V_isub C dX1_gainOfOne_16 ?_
    cases hF
    exact V_iret C hr hlk rfl rfl dX1_gainOfOne_17

def F_X1_gainOfOther (a1 : Int32) (a2 : Int32) (σ : Mem) : Option Int32 :=
  Option.bind (F_X1_oneWins a1 a2 σ) fun q1 =>
  if q1 = 0 then
    some ((6 : Int32) - a2)
  else
    some ((0 : Int32) - a2)
set_option maxHeartbeats 4000000 in
set_option maxRecDepth 20000 in
theorem ct_X1_gainOfOther {a1 : Int32} {a2 : Int32} {σ : Mem} {r : Int32} (hF : F_X1_gainOfOther a1 a2 σ = some r) : Ct yX1_gainOfOther cX1_gainOfOther 3 (some .int) 1 23 (fun ad zz => [.ref (ad 8), .int a1, .int a2]) σ (fun ad => (some (.int r))) σ := by
  refine Ct_of (by decide +kernel) (lv := fun ad zz => [(0, .ref (ad 8)), (1, .int a1), (2, .int a2)]) (fun _ _ => rfl) (fun _ _ => Nat.le_of_ble_eq_true rfl) (fun p l e s m args below meth c D T ad zz C hr hlk => ?_)
  rw [F_X1_gainOfOther] at hF
  refine V_aload_n C 0 dX1_gainOfOther_0 rfl ?_
  refine V_iload_n C 1 dX1_gainOfOther_1 rfl ?_
  refine V_iload_n C 2 dX1_gainOfOther_2 rfl ?_
  obtain ⟨q1, hq1, hF⟩ := bnd hF
  refine cs_X1_39 C (ct_X1_oneWins hq1) rfl ⟨by decide, by decide⟩ (Nat.le_of_ble_eq_true rfl) dX1_gainOfOther_3 ⟨Nat.le_refl 0, Nat.le_refl 0⟩ ?_
  refine V_if_eq C 13 dX1_gainOfOther_6 (by decide) hF (fun hF => ?_) (fun hF => ?_)
  · refine V_bipush C dX1_gainOfOther_13 (v := (6 : Int32)) (by decide) ?_
    refine V_iload_n C 2 dX1_gainOfOther_15 rfl ?_
    refine V_isub C dX1_gainOfOther_16 ?_
    cases hF
    exact V_iret C hr hlk rfl rfl dX1_gainOfOther_17
  · refine V_iconst C dX1_gainOfOther_9 (v := (0 : Int32)) (by decide) ?_
    refine V_goto C 15 dX1_gainOfOther_10 (by decide) ?_
    refine V_iload_n C 2 dX1_gainOfOther_15 rfl ?_
    refine V_isub C dX1_gainOfOther_16 ?_
    cases hF
    exact V_iret C hr hlk rfl rfl dX1_gainOfOther_17

def F_X1_isRest_b2 (σ : Mem) : Nat → Int32 → Int32 → Int32 → Option Int32
  | 0, _, _, _ => none
  | n + 1, x1, x2, x3 =>
    if (5 : Int32) < x3 then
      some (1 : Int32)
    else
      Option.bind (F_X1_gainOfOne x3 x2 σ) fun q1 =>
      Option.bind (F_X1_gainOfOne x1 x2 σ) fun q2 =>
      if q2 < q1 then
        some (0 : Int32)
      else
        Option.bind (F_X1_gainOfOther x1 x3 σ) fun q3 =>
        Option.bind (F_X1_gainOfOther x1 x2 σ) fun q4 =>
        if q3 ≤ q4 then
          (F_X1_isRest_b2 σ n) x1 x2 (x3 + 1)
        else
          some (0 : Int32)
def F_X1_isRest (a1 : Int32) (a2 : Int32) (σ : Mem) : Option Int32 :=
  F_X1_isRest_b2 σ 4000 a1 a2 (0 : Int32)
set_option maxHeartbeats 4000000 in
set_option maxRecDepth 20000 in
theorem w_X1_isRest_b2 {p : Program} {l : Launch} {e : Env} {s : State} {m : MethodId} {args : Array Value} {below : List Frame} {meth : Method} {c : Code} {D : va_G} {T : Nat → ClassId} {ad zz : Nat → Nat} (C : Cx p s m c cX1_isRest 4 RX1 (fA ad) D T ad zz) (hr : meth.sig.returnType = (some .boolean)) (hlk : meth.locks = false) {σ : Mem} {r : Int32}  : ∀ (n : Nat), ∀ (x1 : Int32) (x2 : Int32) (x3 : Int32), F_X1_isRest_b2 σ n x1 x2 x3 = some r → V p l e { frames := 2, cells := 0, slots := 0, locals := 45 } s m args below meth c 0 0 (MQ below (qC (some (.int r)) σ D T ad) args s 0 0 (fA ad)) 4 (fA ad) D T ad σ 2 [(0, .ref (ad 8)), (1, .int x1), (2, .int x2), (3, .int x3)] [] := by
  intro n
  induction n with
  | zero =>
    intro x1 x2 x3 hF
    cases (show (none : Option Int32) = some r from hF)
  | succ n ih =>
    intro x1 x2 x3 hF
    rw [F_X1_isRest_b2] at hF
    refine V_iload_n C 3 dX1_isRest_2 rfl ?_
    refine V_iconst C dX1_isRest_3 (v := (5 : Int32)) (by decide) ?_
    refine V_icmp_gt C 45 dX1_isRest_4 (by decide) hF (fun hF => ?_) (fun hF => ?_)
    · refine V_iconst C dX1_isRest_45 (v := (1 : Int32)) (by decide) ?_
      cases hF
      exact V_zret C hr hlk (Or.inr rfl) rfl rfl dX1_isRest_46
    · refine V_aload_n C 0 dX1_isRest_7 rfl ?_
      refine V_iload_n C 3 dX1_isRest_8 rfl ?_
      refine V_iload_n C 2 dX1_isRest_9 rfl ?_
      obtain ⟨q1, hq1, hF⟩ := bnd hF
      refine cs_X1_32 C (ct_X1_gainOfOne hq1) rfl ⟨by decide, by decide⟩ (Nat.le_of_ble_eq_true rfl) dX1_isRest_10 ⟨Nat.le_refl 0, Nat.le_refl 0⟩ ?_
      refine V_aload_n C 0 dX1_isRest_13 rfl ?_
      refine V_iload_n C 1 dX1_isRest_14 rfl ?_
      refine V_iload_n C 2 dX1_isRest_15 rfl ?_
      obtain ⟨q2, hq2, hF⟩ := bnd hF
      refine cs_X1_32 C (ct_X1_gainOfOne hq2) rfl ⟨by decide, by decide⟩ (Nat.le_of_ble_eq_true rfl) dX1_isRest_16 ⟨Nat.le_refl 0, Nat.le_refl 0⟩ ?_
      refine V_icmp_gt C 37 dX1_isRest_19 (by decide) hF (fun hF => ?_) (fun hF => ?_)
      · refine V_iconst C dX1_isRest_37 (v := (0 : Int32)) (by decide) ?_
        cases hF
        exact V_zret C hr hlk (Or.inl rfl) rfl rfl dX1_isRest_38
      · refine V_aload_n C 0 dX1_isRest_22 rfl ?_
        refine V_iload_n C 1 dX1_isRest_23 rfl ?_
        refine V_iload_n C 3 dX1_isRest_24 rfl ?_
        obtain ⟨q3, hq3, hF⟩ := bnd hF
        refine cs_X1_36 C (ct_X1_gainOfOther hq3) rfl ⟨by decide, by decide⟩ (Nat.le_of_ble_eq_true rfl) dX1_isRest_25 ⟨Nat.le_refl 0, Nat.le_refl 0⟩ ?_
        refine V_aload_n C 0 dX1_isRest_28 rfl ?_
        refine V_iload_n C 1 dX1_isRest_29 rfl ?_
        refine V_iload_n C 2 dX1_isRest_30 rfl ?_
        obtain ⟨q4, hq4, hF⟩ := bnd hF
        refine cs_X1_36 C (ct_X1_gainOfOther hq4) rfl ⟨by decide, by decide⟩ (Nat.le_of_ble_eq_true rfl) dX1_isRest_31 ⟨Nat.le_refl 0, Nat.le_refl 0⟩ ?_
        refine V_icmp_le C 39 dX1_isRest_34 (by decide) hF (fun hF => ?_) (fun hF => ?_)
        · refine V_iinc C (v := (x3 + 1)) (lv' := [(3, .int (x3 + 1)), (0, .ref (ad 8)), (1, .int x1), (2, .int x2)]) 3 dX1_isRest_39 rfl rfl (by decide) rfl ?_
          refine V_goto C 2 dX1_isRest_42 (by decide) ?_
          refine V_lv (ks := [1, 2, 3, 0]) rfl ?_
          exact ih x1 x2 (x3 + 1) hF
        · refine V_iconst C dX1_isRest_37 (v := (0 : Int32)) (by decide) ?_
          cases hF
          exact V_zret C hr hlk (Or.inl rfl) rfl rfl dX1_isRest_38
set_option maxHeartbeats 4000000 in
set_option maxRecDepth 20000 in
theorem ct_X1_isRest {a1 : Int32} {a2 : Int32} {σ : Mem} {r : Int32} (hF : F_X1_isRest a1 a2 σ = some r) : Ct yX1_isRest cX1_isRest 4 (some .boolean) 2 45 (fun ad zz => [.ref (ad 8), .int a1, .int a2]) σ (fun ad => (some (.int r))) σ := by
  refine Ct_of (by decide +kernel) (lv := fun ad zz => [(0, .ref (ad 8)), (1, .int a1), (2, .int a2)]) (fun _ _ => rfl) (fun _ _ => Nat.le_of_ble_eq_true rfl) (fun p l e s m args below meth c D T ad zz C hr hlk => ?_)
  rw [F_X1_isRest] at hF
  refine V_iconst C dX1_isRest_0 (v := (0 : Int32)) (by decide) ?_
  refine V_istore_n C (lv' := [(3, .int (0 : Int32)), (0, .ref (ad 8)), (1, .int a1), (2, .int a2)]) dX1_isRest_1 rfl (by decide) rfl ?_
  refine V_lv (ks := [1, 2, 3, 0]) rfl ?_
  exact w_X1_isRest_b2 C hr hlk 4000 a1 a2 (0 : Int32) hF

def F_X1_findRests_b38 (kL29 : Int32 → Mem → Option Mem) : Nat → Int32 → Int32 → Mem → Option Mem
  | 0, _, _, _ => none
  | n + 1, x4, x5, σ =>
    if (5 : Int32) < x5 then
      kL29 (x4 + 1) σ
    else
      Option.bind (F_X1_isRest x4 x5 σ) fun q7 =>
      if q7 = 0 then
        (F_X1_findRests_b38 kL29 n) x4 (x5 + 1) σ
      else
        if (σ.1 12) = 0 then
          Option.bind (stI σ 13 (((10 : Int32) * x4) + x5)) fun σ10 =>
          Option.bind (stI σ10 12 ((σ10.1 12) + (1 : Int32))) fun σ11 =>
          (F_X1_findRests_b38 kL29 n) x4 (x5 + 1) σ11
        else
          Option.bind (stI σ 13 (σ.1 13)) fun σ8 =>
          Option.bind (stI σ8 12 ((σ8.1 12) + (1 : Int32))) fun σ9 =>
          (F_X1_findRests_b38 kL29 n) x4 (x5 + 1) σ9
def F_X1_findRests_b29  : Nat → Int32 → Mem → Option Mem
  | 0, _, _ => none
  | n + 1, x4, σ =>
    if (5 : Int32) < x4 then
      some σ
    else
      F_X1_findRests_b38 (F_X1_findRests_b29 n) 4000 x4 (0 : Int32) σ
def F_X1_findRests (a1 : Int32) (a2 : Int32) (a3 : Int32) (σ : Mem) : Option Mem :=
  Option.bind (stI σ 9 a1) fun σ1 =>
  Option.bind (stI σ1 10 a2) fun σ2 =>
  Option.bind (bz a3) fun b3 =>
  Option.bind (stI σ2 11 a3) fun σ4 =>
  Option.bind (stI σ4 12 (0 : Int32)) fun σ5 =>
  Option.bind (stI σ5 13 (-9 : Int32)) fun σ6 =>
  F_X1_findRests_b29 4000 (0 : Int32) σ6
set_option maxHeartbeats 4000000 in
set_option maxRecDepth 20000 in
theorem w_X1_findRests_b38 {p : Program} {l : Launch} {e : Env} {s : State} {m : MethodId} {args : Array Value} {below : List Frame} {meth : Method} {c : Code} {D : va_G} {T : Nat → ClassId} {ad zz : Nat → Nat} (C : Cx p s m c cX1_findRests 6 RX1 (fA ad) D T ad zz) (hr : meth.sig.returnType = none) (hlk : meth.locks = false) {r : Mem} (kL29 : Int32 → Mem → Option Mem) (hL29 : ∀ (x4 : Int32) (σ : Mem), kL29 x4 σ = some r → V p l e { frames := 3, cells := 0, slots := 0, locals := 68 } s m args below meth c 0 0 (MQ below (qC none r D T ad) args s 0 0 (fA ad)) 6 (fA ad) D T ad σ 29 [(0, .ref (ad 8)), (4, .int x4)] []) : ∀ (n : Nat), ∀ (x4 : Int32) (x5 : Int32) (σ : Mem), F_X1_findRests_b38 kL29 n x4 x5 σ = some r → V p l e { frames := 3, cells := 0, slots := 0, locals := 68 } s m args below meth c 0 0 (MQ below (qC none r D T ad) args s 0 0 (fA ad)) 6 (fA ad) D T ad σ 38 [(0, .ref (ad 8)), (4, .int x4), (5, .int x5)] [] := by
  intro n
  induction n with
  | zero =>
    intro x4 x5 σ hF
    cases (show (none : Option Mem) = some r from hF)
  | succ n ih =>
    intro x4 x5 σ hF
    rw [F_X1_findRests_b38] at hF
    refine V_iload C 2 dX1_findRests_38 rfl ?_
    refine V_iconst C dX1_findRests_40 (v := (5 : Int32)) (by decide) ?_
    refine V_icmp_gt C 97 dX1_findRests_41 (by decide) hF (fun hF => ?_) (fun hF => ?_)
    · refine V_iinc C (v := (x4 + 1)) (lv' := [(4, .int (x4 + 1)), (0, .ref (ad 8)), (5, .int x5)]) 1 dX1_findRests_97 rfl rfl (by decide) rfl ?_
      refine V_goto C 29 dX1_findRests_100 (by decide) ?_
      refine V_lv (ks := [1, 0]) rfl ?_
      exact hL29 (x4 + 1) σ hF
    · refine V_aload_n C 0 dX1_findRests_44 rfl ?_
      refine V_iload C 1 dX1_findRests_45 rfl ?_
      refine V_iload C 2 dX1_findRests_47 rfl ?_
      obtain ⟨q7, hq7, hF⟩ := bnd hF
      refine cs_X1_28 C (ct_X1_isRest hq7) rfl ⟨by decide, by decide⟩ (Nat.le_of_ble_eq_true rfl) dX1_findRests_49 ⟨Nat.le_refl 0, Nat.le_refl 0⟩ ?_
      refine V_if_eq C 91 dX1_findRests_52 (by decide) hF (fun hF => ?_) (fun hF => ?_)
      · refine V_iinc C (v := (x5 + 1)) (lv' := [(5, .int (x5 + 1)), (0, .ref (ad 8)), (4, .int x4)]) 2 dX1_findRests_91 rfl rfl (by decide) rfl ?_
        refine V_goto C 38 dX1_findRests_94 (by decide) ?_
        refine V_lv (ks := [1, 2, 0]) rfl ?_
        exact ih x4 (x5 + 1) σ hF
      · refine V_aload_n C 0 dX1_findRests_55 rfl ?_
        refine V_aload_n C 0 dX1_findRests_56 rfl ?_
        refine gf_X1_22 C dX1_findRests_57 ?_
        refine V_if_ne C 74 dX1_findRests_60 (by decide) hF (fun hF => ?_) (fun hF => ?_)
        · refine V_aload_n C 0 dX1_findRests_74 rfl ?_
          refine gf_X1_25 C dX1_findRests_75 ?_
          obtain ⟨σ8, hs8, hF⟩ := bnd hF
          refine pf_X1_25 C hs8 dX1_findRests_78 ?_
          refine V_aload_n C 0 dX1_findRests_81 rfl ?_
          refine V_dup C dX1_findRests_82 rfl ?_
          refine gf_X1_22 C dX1_findRests_83 ?_
          refine V_iconst C dX1_findRests_86 (v := (1 : Int32)) (by decide) ?_
          refine V_iadd C dX1_findRests_87 ?_
          obtain ⟨σ9, hs9, hF⟩ := bnd hF
          refine pf_X1_22 C hs9 dX1_findRests_88 ?_
          refine V_iinc C (v := (x5 + 1)) (lv' := [(5, .int (x5 + 1)), (0, .ref (ad 8)), (4, .int x4)]) 2 dX1_findRests_91 rfl rfl (by decide) rfl ?_
          refine V_goto C 38 dX1_findRests_94 (by decide) ?_
          refine V_lv (ks := [1, 2, 0]) rfl ?_
          exact ih x4 (x5 + 1) σ9 hF
        · refine V_bipush C dX1_findRests_63 (v := (10 : Int32)) (by decide) ?_
          refine V_iload C 1 dX1_findRests_65 rfl ?_
          refine V_imul C dX1_findRests_67 ?_
          refine V_iload C 2 dX1_findRests_68 rfl ?_
          refine V_iadd C dX1_findRests_70 ?_
          refine V_goto C 78 dX1_findRests_71 (by decide) ?_
          obtain ⟨σ10, hs10, hF⟩ := bnd hF
          refine pf_X1_25 C hs10 dX1_findRests_78 ?_
          refine V_aload_n C 0 dX1_findRests_81 rfl ?_
          refine V_dup C dX1_findRests_82 rfl ?_
          refine gf_X1_22 C dX1_findRests_83 ?_
          refine V_iconst C dX1_findRests_86 (v := (1 : Int32)) (by decide) ?_
          refine V_iadd C dX1_findRests_87 ?_
          obtain ⟨σ11, hs11, hF⟩ := bnd hF
          refine pf_X1_22 C hs11 dX1_findRests_88 ?_
          refine V_iinc C (v := (x5 + 1)) (lv' := [(5, .int (x5 + 1)), (0, .ref (ad 8)), (4, .int x4)]) 2 dX1_findRests_91 rfl rfl (by decide) rfl ?_
          refine V_goto C 38 dX1_findRests_94 (by decide) ?_
          refine V_lv (ks := [1, 2, 0]) rfl ?_
          exact ih x4 (x5 + 1) σ11 hF
set_option maxHeartbeats 4000000 in
set_option maxRecDepth 20000 in
theorem w_X1_findRests_b29 {p : Program} {l : Launch} {e : Env} {s : State} {m : MethodId} {args : Array Value} {below : List Frame} {meth : Method} {c : Code} {D : va_G} {T : Nat → ClassId} {ad zz : Nat → Nat} (C : Cx p s m c cX1_findRests 6 RX1 (fA ad) D T ad zz) (hr : meth.sig.returnType = none) (hlk : meth.locks = false) {r : Mem}  : ∀ (n : Nat), ∀ (x4 : Int32) (σ : Mem), F_X1_findRests_b29  n x4 σ = some r → V p l e { frames := 3, cells := 0, slots := 0, locals := 68 } s m args below meth c 0 0 (MQ below (qC none r D T ad) args s 0 0 (fA ad)) 6 (fA ad) D T ad σ 29 [(0, .ref (ad 8)), (4, .int x4)] [] := by
  intro n
  induction n with
  | zero =>
    intro x4 σ hF
    cases (show (none : Option Mem) = some r from hF)
  | succ n ih =>
    intro x4 σ hF
    rw [F_X1_findRests_b29] at hF
    refine V_iload C 1 dX1_findRests_29 rfl ?_
    refine V_iconst C dX1_findRests_31 (v := (5 : Int32)) (by decide) ?_
    refine V_icmp_gt C 103 dX1_findRests_32 (by decide) hF (fun hF => ?_) (fun hF => ?_)
    · cases hF
      exact V_vret C hr hlk rfl rfl dX1_findRests_103
    · refine V_iconst C dX1_findRests_35 (v := (0 : Int32)) (by decide) ?_
      refine V_istore C (lv' := [(5, .int (0 : Int32)), (0, .ref (ad 8)), (4, .int x4)]) dX1_findRests_36 (by decide) rfl ?_
      refine V_lv (ks := [1, 2, 0]) rfl ?_
      exact w_X1_findRests_b38 C hr hlk (F_X1_findRests_b29 n) ih 4000 x4 (0 : Int32) σ hF
set_option maxHeartbeats 4000000 in
set_option maxRecDepth 20000 in
theorem ct_X1_findRests {a1 : Int32} {a2 : Int32} {a3 : Int32} {σ : Mem} {r : Mem} (hF : F_X1_findRests a1 a2 a3 σ = some r) : Ct yX1_findRests cX1_findRests 6 none 3 68 (fun ad zz => [.ref (ad 8), .int a1, .int a2, .int a3]) σ (fun ad => none) r := by
  refine Ct_of (by decide +kernel) (lv := fun ad zz => [(0, .ref (ad 8)), (1, .int a1), (2, .int a2), (3, .int a3)]) (fun _ _ => rfl) (fun _ _ => Nat.le_of_ble_eq_true rfl) (fun p l e s m args below meth c D T ad zz C hr hlk => ?_)
  rw [F_X1_findRests] at hF
  refine V_aload_n C 0 dX1_findRests_0 rfl ?_
  refine V_iload_n C 1 dX1_findRests_1 rfl ?_
  obtain ⟨σ1, hs1, hF⟩ := bnd hF
  refine pf_X1_9 C hs1 dX1_findRests_2 ?_
  refine V_aload_n C 0 dX1_findRests_5 rfl ?_
  refine V_iload_n C 2 dX1_findRests_6 rfl ?_
  obtain ⟨σ2, hs2, hF⟩ := bnd hF
  refine pf_X1_15 C hs2 dX1_findRests_7 ?_
  refine V_aload_n C 0 dX1_findRests_10 rfl ?_
  refine V_iload_n C 3 dX1_findRests_11 rfl ?_
  obtain ⟨b3, hb3, hF⟩ := bnd hF
  obtain ⟨σ4, hs4, hF⟩ := bnd hF
  refine pf_X1_18 C hs4 (bz_s hb3).1 dX1_findRests_12 ?_
  refine V_aload_n C 0 dX1_findRests_15 rfl ?_
  refine V_iconst C dX1_findRests_16 (v := (0 : Int32)) (by decide) ?_
  obtain ⟨σ5, hs5, hF⟩ := bnd hF
  refine pf_X1_22 C hs5 dX1_findRests_17 ?_
  refine V_aload_n C 0 dX1_findRests_20 rfl ?_
  refine V_bipush C dX1_findRests_21 (v := (-9 : Int32)) (by decide) ?_
  obtain ⟨σ6, hs6, hF⟩ := bnd hF
  refine pf_X1_25 C hs6 dX1_findRests_23 ?_
  refine V_iconst C dX1_findRests_26 (v := (0 : Int32)) (by decide) ?_
  refine V_istore C (lv' := [(4, .int (0 : Int32)), (0, .ref (ad 8)), (1, .int a1), (2, .int a2), (3, .int a3)]) dX1_findRests_27 (by decide) rfl ?_
  refine V_lv (ks := [1, 0]) rfl ?_
  exact w_X1_findRests_b29 C hr hlk 4000 (0 : Int32) σ6 hF

def F_X10_put (n1 : Nat) (a2 : Int32) (a3 : Int32) (σ : Mem) : Option Mem :=
  if a2 < 0 then
    some σ
  else
    if (nI (alen n1)) ≤ a2 then
      some σ
    else
      Option.bind (wrA σ n1 a2 a3) fun σ1 =>
      some σ1
set_option maxHeartbeats 4000000 in
set_option maxRecDepth 20000 in
theorem ct_X10_put {n1 : Nat} {a2 : Int32} {a3 : Int32} {σ : Mem} {r : Mem} (hn1 : n1 < 67) (hF : F_X10_put n1 a2 a3 σ = some r) : Ct yX10_put cX10_put 3 none 0 0 (fun ad zz => [.ref (ad (12 + n1)), .int a2, .int a3]) σ (fun ad => none) r := by
  refine Ct_of (by decide +kernel) (lv := fun ad zz => [(0, .ref (ad (12 + n1))), (1, .int a2), (2, .int a3)]) (fun _ _ => rfl) (fun _ _ => Nat.le_of_ble_eq_true rfl) (fun p l e s m args below meth c D T ad zz C hr hlk => ?_)
  rw [F_X10_put] at hF
  refine V_iload_n C 1 dX10_put_0 rfl ?_
  refine V_if_lt C 14 dX10_put_1 (by decide) hF (fun hF => ?_) (fun hF => ?_)
  · cases hF
    exact V_vret C hr hlk rfl rfl dX10_put_14
  · refine V_iload_n C 1 dX10_put_4 rfl ?_
    refine V_aload_n C 0 dX10_put_5 rfl ?_
    refine V_alen C hn1 dX10_put_6 ?_
    refine V_icmp_ge C 14 dX10_put_7 (by decide) hF (fun hF => ?_) (fun hF => ?_)
    · cases hF
      exact V_vret C hr hlk rfl rfl dX10_put_14
    · refine V_aload_n C 0 dX10_put_10 rfl ?_
      refine V_iload_n C 1 dX10_put_11 rfl ?_
      refine V_iload_n C 2 dX10_put_12 rfl ?_
      obtain ⟨σ1, hs1, hF⟩ := bnd hF
      refine V_iast C hn1 hs1 dX10_put_13 ?_
      cases hF
      exact V_vret C hr hlk rfl rfl dX10_put_14

def F_X2_add (a1 : Int32) (a2 : Int32) (σ : Mem) : Option (Int32 × Mem) :=
  if (σ.1 5) < (6 : Int32) then
    Option.bind (F_X10_put 10 (σ.1 5) a1 σ) fun σ1 =>
    Option.bind (F_X10_put 11 (σ1.1 5) a2 σ1) fun σ2 =>
    Option.bind (stI σ2 5 ((σ2.1 5) + (1 : Int32))) fun σ3 =>
    some ((1 : Int32), σ3)
  else
    some ((0 : Int32), σ)
set_option maxHeartbeats 4000000 in
set_option maxRecDepth 20000 in
theorem ct_X2_add {a1 : Int32} {a2 : Int32} {σ : Mem} {r : (Int32 × Mem)} (hF : F_X2_add a1 a2 σ = some r) : Ct yX2_add cX2_add 3 (some .boolean) 1 22 (fun ad zz => [.ref (ad 4), .int a1, .int a2]) σ (fun ad => (some (.int r.1))) r.2 := by
  refine Ct_of (by decide +kernel) (lv := fun ad zz => [(0, .ref (ad 4)), (1, .int a1), (2, .int a2)]) (fun _ _ => rfl) (fun _ _ => Nat.le_of_ble_eq_true rfl) (fun p l e s m args below meth c D T ad zz C hr hlk => ?_)
  rw [F_X2_add] at hF
  refine V_aload_n C 0 dX2_add_0 rfl ?_
  refine gf_X2_18 C dX2_add_1 ?_
  refine V_bipush C dX2_add_4 (v := (6 : Int32)) (by decide) ?_
  refine V_icmp_lt C 11 dX2_add_6 (by decide) hF (fun hF => ?_) (fun hF => ?_)
  · refine V_aload_n C 0 dX2_add_11 rfl ?_
    refine gf_X2_11 C dX2_add_12 ?_
    refine V_aload_n C 0 dX2_add_15 rfl ?_
    refine gf_X2_18 C dX2_add_16 ?_
    refine V_iload_n C 1 dX2_add_19 rfl ?_
    obtain ⟨σ1, hs1, hF⟩ := bnd hF
    refine cs_X2_22 C (ct_X10_put (by decide) hs1) rfl ⟨by decide, by decide⟩ (Nat.le_of_ble_eq_true rfl) dX2_add_20 ⟨Nat.le_refl 0, Nat.le_refl 0⟩ ?_
    refine V_aload_n C 0 dX2_add_23 rfl ?_
    refine gf_X2_15 C dX2_add_24 ?_
    refine V_aload_n C 0 dX2_add_27 rfl ?_
    refine gf_X2_18 C dX2_add_28 ?_
    refine V_iload_n C 2 dX2_add_31 rfl ?_
    obtain ⟨σ2, hs2, hF⟩ := bnd hF
    refine cs_X2_22 C (ct_X10_put (by decide) hs2) rfl ⟨by decide, by decide⟩ (Nat.le_of_ble_eq_true rfl) dX2_add_32 ⟨Nat.le_refl 0, Nat.le_refl 0⟩ ?_
    refine V_aload_n C 0 dX2_add_35 rfl ?_
    refine V_dup C dX2_add_36 rfl ?_
    refine gf_X2_18 C dX2_add_37 ?_
    refine V_iconst C dX2_add_40 (v := (1 : Int32)) (by decide) ?_
    refine V_iadd C dX2_add_41 ?_
    obtain ⟨σ3, hs3, hF⟩ := bnd hF
    refine pf_X2_18 C hs3 dX2_add_42 ?_
    refine V_iconst C dX2_add_45 (v := (1 : Int32)) (by decide) ?_
    cases hF
    exact V_zret C hr hlk (Or.inr rfl) rfl rfl dX2_add_46
  · refine V_iconst C dX2_add_9 (v := (0 : Int32)) (by decide) ?_
    cases hF
    exact V_zret C hr hlk (Or.inl rfl) rfl rfl dX2_add_10

def F_X10_at (n1 : Nat) (a2 : Int32) (σ : Mem) : Option Int32 :=
  if a2 < 0 then
    some (0 : Int32)
  else
    if (nI (alen n1)) ≤ a2 then
      some (0 : Int32)
    else
      Option.bind (rdA σ n1 a2) fun v1 =>
      some v1
set_option maxHeartbeats 4000000 in
set_option maxRecDepth 20000 in
theorem ct_X10_at {n1 : Nat} {a2 : Int32} {σ : Mem} {r : Int32} (hn1 : n1 < 67) (hF : F_X10_at n1 a2 σ = some r) : Ct yX10_at cX10_at 2 (some .int) 0 0 (fun ad zz => [.ref (ad (12 + n1)), .int a2]) σ (fun ad => (some (.int r))) σ := by
  refine Ct_of (by decide +kernel) (lv := fun ad zz => [(0, .ref (ad (12 + n1))), (1, .int a2)]) (fun _ _ => rfl) (fun _ _ => Nat.le_of_ble_eq_true rfl) (fun p l e s m args below meth c D T ad zz C hr hlk => ?_)
  rw [F_X10_at] at hF
  refine V_iload_n C 1 dX10_at_0 rfl ?_
  refine V_if_lt C 16 dX10_at_1 (by decide) hF (fun hF => ?_) (fun hF => ?_)
  · refine V_iconst C dX10_at_16 (v := (0 : Int32)) (by decide) ?_
    cases hF
    exact V_iret C hr hlk rfl rfl dX10_at_17
  · refine V_iload_n C 1 dX10_at_4 rfl ?_
    refine V_aload_n C 0 dX10_at_5 rfl ?_
    refine V_alen C hn1 dX10_at_6 ?_
    refine V_icmp_ge C 16 dX10_at_7 (by decide) hF (fun hF => ?_) (fun hF => ?_)
    · refine V_iconst C dX10_at_16 (v := (0 : Int32)) (by decide) ?_
      cases hF
      exact V_iret C hr hlk rfl rfl dX10_at_17
    · refine V_aload_n C 0 dX10_at_10 rfl ?_
      refine V_iload_n C 1 dX10_at_11 rfl ?_
      obtain ⟨v1, hv1, hF⟩ := bnd hF
      refine V_iald C hn1 hv1 dX10_at_12 ?_
      refine V_goto C 17 dX10_at_13 (by decide) ?_
      cases hF
      exact V_iret C hr hlk rfl rfl dX10_at_17

def F_X3_hasRider (a1 : Int32) (σ : Mem) : Option Int32 :=
  if a1 < 0 then
    some (0 : Int32)
  else
    if (σ.1 2) ≤ a1 then
      some (0 : Int32)
    else
      some (1 : Int32)
set_option maxHeartbeats 4000000 in
set_option maxRecDepth 20000 in
theorem ct_X3_hasRider {a1 : Int32} {σ : Mem} {r : Int32} (hF : F_X3_hasRider a1 σ = some r) : Ct yX3_hasRider cX3_hasRider 2 (some .boolean) 0 0 (fun ad zz => [.ref (ad 2), .int a1]) σ (fun ad => (some (.int r))) σ := by
  refine Ct_of (by decide +kernel) (lv := fun ad zz => [(0, .ref (ad 2)), (1, .int a1)]) (fun _ _ => rfl) (fun _ _ => Nat.le_of_ble_eq_true rfl) (fun p l e s m args below meth c D T ad zz C hr hlk => ?_)
  rw [F_X3_hasRider] at hF
  refine V_iload_n C 1 dX3_hasRider_0 rfl ?_
  refine V_if_lt C 16 dX3_hasRider_1 (by decide) hF (fun hF => ?_) (fun hF => ?_)
  · refine V_iconst C dX3_hasRider_16 (v := (0 : Int32)) (by decide) ?_
    cases hF
    exact V_zret C hr hlk (Or.inl rfl) rfl rfl dX3_hasRider_17
  · refine V_iload_n C 1 dX3_hasRider_4 rfl ?_
    refine V_aload_n C 0 dX3_hasRider_5 rfl ?_
    refine gf_X3_43 C dX3_hasRider_6 ?_
    refine V_icmp_ge C 16 dX3_hasRider_9 (by decide) hF (fun hF => ?_) (fun hF => ?_)
    · refine V_iconst C dX3_hasRider_16 (v := (0 : Int32)) (by decide) ?_
      cases hF
      exact V_zret C hr hlk (Or.inl rfl) rfl rfl dX3_hasRider_17
    · refine V_iconst C dX3_hasRider_12 (v := (1 : Int32)) (by decide) ?_
      refine V_goto C 17 dX3_hasRider_13 (by decide) ?_
      cases hF
      exact V_zret C hr hlk (Or.inr rfl) rfl rfl dX3_hasRider_17

def F_X3_worthByTruth (a1 : Int32) (a2 : Int32) (a3 : Int32) (a4 : Int32) (σ : Mem) : Option Int32 :=
  Option.bind (F_X10_at 6 ((3 : Int32) * a1) σ) fun q1 =>
  Option.bind (F_X10_at 6 (((3 : Int32) * a1) + (1 : Int32)) σ) fun q2 =>
  Option.bind (F_X10_at 6 (((3 : Int32) * a1) + (2 : Int32)) σ) fun q3 =>
  some (((a2 * q1) + (a3 * q2)) + (a4 * q3))
set_option maxHeartbeats 4000000 in
set_option maxRecDepth 20000 in
theorem ct_X3_worthByTruth {a1 : Int32} {a2 : Int32} {a3 : Int32} {a4 : Int32} {σ : Mem} {r : Int32} (hF : F_X3_worthByTruth a1 a2 a3 a4 σ = some r) : Ct yX3_worthByTruth cX3_worthByTruth 6 (some .int) 1 21 (fun ad zz => [.ref (ad 2), .int a1, .int a2, .int a3, .int a4]) σ (fun ad => (some (.int r))) σ := by
  refine Ct_of (by decide +kernel) (lv := fun ad zz => [(0, .ref (ad 2)), (1, .int a1), (2, .int a2), (3, .int a3), (4, .int a4)]) (fun _ _ => rfl) (fun _ _ => Nat.le_of_ble_eq_true rfl) (fun p l e s m args below meth c D T ad zz C hr hlk => ?_)
  rw [F_X3_worthByTruth] at hF
  refine V_iconst C dX3_worthByTruth_0 (v := (3 : Int32)) (by decide) ?_
  refine V_iload_n C 1 dX3_worthByTruth_1 rfl ?_
  refine V_imul C dX3_worthByTruth_2 ?_
  refine V_istore C (lv' := [(5, .int ((3 : Int32) * a1)), (0, .ref (ad 2)), (1, .int a1), (2, .int a2), (3, .int a3), (4, .int a4)]) dX3_worthByTruth_3 (by decide) rfl ?_
  refine V_iload_n C 3 dX3_worthByTruth_5 rfl ?_
  refine V_aload_n C 1 dX3_worthByTruth_6 rfl ?_
  refine gf_X3_27 C dX3_worthByTruth_7 ?_
  refine V_iload C 0 dX3_worthByTruth_10 rfl ?_
  obtain ⟨q1, hq1, hF⟩ := bnd hF
  refine cs_X3_81 C (ct_X10_at (by decide) hq1) rfl ⟨by decide, by decide⟩ (Nat.le_of_ble_eq_true rfl) dX3_worthByTruth_12 ⟨Nat.le_refl 0, Nat.le_refl 0⟩ ?_
  refine V_imul C dX3_worthByTruth_15 ?_
  refine V_iload_n C 4 dX3_worthByTruth_16 rfl ?_
  refine V_aload_n C 1 dX3_worthByTruth_17 rfl ?_
  refine gf_X3_27 C dX3_worthByTruth_18 ?_
  refine V_iload C 0 dX3_worthByTruth_21 rfl ?_
  refine V_iconst C dX3_worthByTruth_23 (v := (1 : Int32)) (by decide) ?_
  refine V_iadd C dX3_worthByTruth_24 ?_
  obtain ⟨q2, hq2, hF⟩ := bnd hF
  refine cs_X3_81 C (ct_X10_at (by decide) hq2) rfl ⟨by decide, by decide⟩ (Nat.le_of_ble_eq_true rfl) dX3_worthByTruth_25 ⟨Nat.le_refl 0, Nat.le_refl 0⟩ ?_
  refine V_imul C dX3_worthByTruth_28 ?_
  refine V_iadd C dX3_worthByTruth_29 ?_
  refine V_iload C 5 dX3_worthByTruth_30 rfl ?_
  refine V_aload_n C 1 dX3_worthByTruth_32 rfl ?_
  refine gf_X3_27 C dX3_worthByTruth_33 ?_
  refine V_iload C 0 dX3_worthByTruth_36 rfl ?_
  refine V_iconst C dX3_worthByTruth_38 (v := (2 : Int32)) (by decide) ?_
  refine V_iadd C dX3_worthByTruth_39 ?_
  obtain ⟨q3, hq3, hF⟩ := bnd hF
  refine cs_X3_81 C (ct_X10_at (by decide) hq3) rfl ⟨by decide, by decide⟩ (Nat.le_of_ble_eq_true rfl) dX3_worthByTruth_40 ⟨Nat.le_refl 0, Nat.le_refl 0⟩ ?_
  refine V_imul C dX3_worthByTruth_43 ?_
  refine V_iadd C dX3_worthByTruth_44 ?_
  cases hF
  exact V_iret C hr hlk rfl rfl dX3_worthByTruth_45

def F_X2_likingBits_b6 (σ : Mem) : Nat → Int32 → Int32 → Int64 → Int32 → Option Int64
  | 0, _, _, _, _ => none
  | n + 1, x2, x3, x4, x6 =>
    if (64 : Int32) ≤ x6 then
      some x4
    else
      Option.bind (F_X3_worthByTruth x2 (x6 / (16 : Int32)) ((x6 / (4 : Int32)) - (x6 / (4 : Int32)) / (4 : Int32) * (4 : Int32)) (x6 - x6 / (4 : Int32) * (4 : Int32)) σ) fun q1 =>
      Option.bind (F_X3_worthByTruth x3 (x6 / (16 : Int32)) ((x6 / (4 : Int32)) - (x6 / (4 : Int32)) / (4 : Int32) * (4 : Int32)) (x6 - x6 / (4 : Int32) * (4 : Int32)) σ) fun q2 =>
      if 0 < (q1 - q2) then
        (F_X2_likingBits_b6 σ n) x2 x3 (x4 ||| ((1 : Int64) <<< ((x6).toInt64 &&& 63))) (x6 + 1)
      else
        if (q1 - q2) = 0 then
          if x3 ≤ x2 then
            (F_X2_likingBits_b6 σ n) x2 x3 x4 (x6 + 1)
          else
            (F_X2_likingBits_b6 σ n) x2 x3 (x4 ||| ((1 : Int64) <<< ((x6).toInt64 &&& 63))) (x6 + 1)
        else
          (F_X2_likingBits_b6 σ n) x2 x3 x4 (x6 + 1)
def F_X2_likingBits (a2 : Int32) (a3 : Int32) (σ : Mem) : Option Int64 :=
  F_X2_likingBits_b6 σ 4000 a2 a3 (0 : Int64) (0 : Int32)
set_option maxHeartbeats 4000000 in
set_option maxRecDepth 20000 in
theorem w_X2_likingBits_b6 {p : Program} {l : Launch} {e : Env} {s : State} {m : MethodId} {args : Array Value} {below : List Frame} {meth : Method} {c : Code} {D : va_G} {T : Nat → ClassId} {ad zz : Nat → Nat} (C : Cx p s m c cX2_likingBits 8 RX2 (fA ad) D T ad zz) (hr : meth.sig.returnType = (some .long)) (hlk : meth.locks = false) {σ : Mem} {r : Int64}  : ∀ (n : Nat), ∀ (x2 : Int32) (x3 : Int32) (x4 : Int64) (x6 : Int32), F_X2_likingBits_b6 σ n x2 x3 x4 x6 = some r → V p l e { frames := 2, cells := 0, slots := 0, locals := 46 } s m args below meth c 0 0 (MQ below (qC (some (.long r)) σ D T ad) args s 0 0 (fA ad)) 8 (fA ad) D T ad σ 6 [(1, .ref (ad 2)), (2, .int x2), (3, .int x3), (4, .long x4), (6, .int x6)] [] := by
  intro n
  induction n with
  | zero =>
    intro x2 x3 x4 x6 hF
    cases (show (none : Option Int64) = some r from hF)
  | succ n ih =>
    intro x2 x3 x4 x6 hF
    rw [F_X2_likingBits_b6] at hF
    refine V_iload C 4 dX2_likingBits_6 rfl ?_
    refine V_bipush C dX2_likingBits_8 (v := (64 : Int32)) (by decide) ?_
    refine V_icmp_ge C 86 dX2_likingBits_10 (by decide) hF (fun hF => ?_) (fun hF => ?_)
    · refine V_lload C 3 dX2_likingBits_86 rfl ?_
      cases hF
      exact V_lret C hr hlk rfl rfl dX2_likingBits_88
    · refine V_aload_n C 0 dX2_likingBits_13 rfl ?_
      refine V_iload_n C 1 dX2_likingBits_14 rfl ?_
      refine V_iload C 4 dX2_likingBits_15 rfl ?_
      refine V_bipush C dX2_likingBits_17 (v := (16 : Int32)) (by decide) ?_
      refine V_idivc C dX2_likingBits_19 (by decide) ?_
      refine V_iload C 4 dX2_likingBits_20 rfl ?_
      refine V_iconst C dX2_likingBits_22 (v := (4 : Int32)) (by decide) ?_
      refine V_idivc C dX2_likingBits_23 (by decide) ?_
      refine V_iconst C dX2_likingBits_24 (v := (4 : Int32)) (by decide) ?_
      refine V_iremc C dX2_likingBits_25 (by decide) ?_
      refine V_iload C 4 dX2_likingBits_26 rfl ?_
      refine V_iconst C dX2_likingBits_28 (v := (4 : Int32)) (by decide) ?_
      refine V_iremc C dX2_likingBits_29 (by decide) ?_
      obtain ⟨q1, hq1, hF⟩ := bnd hF
      refine cs_X2_42 C (ct_X3_worthByTruth hq1) rfl ⟨by decide, by decide⟩ (Nat.le_of_ble_eq_true rfl) dX2_likingBits_30 ⟨Nat.le_refl 0, Nat.le_refl 0⟩ ?_
      refine V_aload_n C 0 dX2_likingBits_33 rfl ?_
      refine V_iload_n C 2 dX2_likingBits_34 rfl ?_
      refine V_iload C 4 dX2_likingBits_35 rfl ?_
      refine V_bipush C dX2_likingBits_37 (v := (16 : Int32)) (by decide) ?_
      refine V_idivc C dX2_likingBits_39 (by decide) ?_
      refine V_iload C 4 dX2_likingBits_40 rfl ?_
      refine V_iconst C dX2_likingBits_42 (v := (4 : Int32)) (by decide) ?_
      refine V_idivc C dX2_likingBits_43 (by decide) ?_
      refine V_iconst C dX2_likingBits_44 (v := (4 : Int32)) (by decide) ?_
      refine V_iremc C dX2_likingBits_45 (by decide) ?_
      refine V_iload C 4 dX2_likingBits_46 rfl ?_
      refine V_iconst C dX2_likingBits_48 (v := (4 : Int32)) (by decide) ?_
      refine V_iremc C dX2_likingBits_49 (by decide) ?_
      obtain ⟨q2, hq2, hF⟩ := bnd hF
      refine cs_X2_42 C (ct_X3_worthByTruth hq2) rfl ⟨by decide, by decide⟩ (Nat.le_of_ble_eq_true rfl) dX2_likingBits_50 ⟨Nat.le_refl 0, Nat.le_refl 0⟩ ?_
      refine V_isub C dX2_likingBits_53 ?_
      refine V_istore C (lv' := [(7, .int (q1 - q2)), (1, .ref (ad 2)), (2, .int x2), (3, .int x3), (4, .long x4), (6, .int x6)]) dX2_likingBits_54 (by decide) rfl ?_
      refine V_iload C 0 dX2_likingBits_56 rfl ?_
      refine V_if_gt C 71 dX2_likingBits_58 (by decide) hF (fun hF => ?_) (fun hF => ?_)
      · refine V_lload C 4 dX2_likingBits_71 rfl ?_
        refine V_lconst C dX2_likingBits_73 (v := (1 : Int64)) (by decide) ?_
        refine V_iload C 5 dX2_likingBits_74 rfl ?_
        refine V_lshl C dX2_likingBits_76 ?_
        refine V_lor C dX2_likingBits_77 ?_
        refine V_lstore C (lv' := [(4, .long (x4 ||| ((1 : Int64) <<< ((x6).toInt64 &&& 63)))), (7, .int (q1 - q2)), (1, .ref (ad 2)), (2, .int x2), (3, .int x3), (6, .int x6)]) dX2_likingBits_78 (by decide) rfl ?_
        refine V_iinc C (v := (x6 + 1)) (lv' := [(6, .int (x6 + 1)), (4, .long (x4 ||| ((1 : Int64) <<< ((x6).toInt64 &&& 63)))), (7, .int (q1 - q2)), (1, .ref (ad 2)), (2, .int x2), (3, .int x3)]) 5 dX2_likingBits_80 rfl rfl (by decide) rfl ?_
        refine V_goto C 6 dX2_likingBits_83 (by decide) ?_
        refine V_lv (ks := [3, 4, 5, 1, 0]) rfl ?_
        exact ih x2 x3 (x4 ||| ((1 : Int64) <<< ((x6).toInt64 &&& 63))) (x6 + 1) hF
      · refine V_iload C 0 dX2_likingBits_61 rfl ?_
        refine V_if_ne C 80 dX2_likingBits_63 (by decide) hF (fun hF => ?_) (fun hF => ?_)
        · refine V_iinc C (v := (x6 + 1)) (lv' := [(6, .int (x6 + 1)), (7, .int (q1 - q2)), (1, .ref (ad 2)), (2, .int x2), (3, .int x3), (4, .long x4)]) 5 dX2_likingBits_80 rfl rfl (by decide) rfl ?_
          refine V_goto C 6 dX2_likingBits_83 (by decide) ?_
          refine V_lv (ks := [2, 3, 4, 5, 0]) rfl ?_
          exact ih x2 x3 x4 (x6 + 1) hF
        · refine V_iload_n C 2 dX2_likingBits_66 rfl ?_
          refine V_iload_n C 3 dX2_likingBits_67 rfl ?_
          refine V_icmp_ge C 80 dX2_likingBits_68 (by decide) hF (fun hF => ?_) (fun hF => ?_)
          · refine V_iinc C (v := (x6 + 1)) (lv' := [(6, .int (x6 + 1)), (7, .int (q1 - q2)), (1, .ref (ad 2)), (2, .int x2), (3, .int x3), (4, .long x4)]) 5 dX2_likingBits_80 rfl rfl (by decide) rfl ?_
            refine V_goto C 6 dX2_likingBits_83 (by decide) ?_
            refine V_lv (ks := [2, 3, 4, 5, 0]) rfl ?_
            exact ih x2 x3 x4 (x6 + 1) hF
          · refine V_lload C 4 dX2_likingBits_71 rfl ?_
            refine V_lconst C dX2_likingBits_73 (v := (1 : Int64)) (by decide) ?_
            refine V_iload C 5 dX2_likingBits_74 rfl ?_
            refine V_lshl C dX2_likingBits_76 ?_
            refine V_lor C dX2_likingBits_77 ?_
            refine V_lstore C (lv' := [(4, .long (x4 ||| ((1 : Int64) <<< ((x6).toInt64 &&& 63)))), (7, .int (q1 - q2)), (1, .ref (ad 2)), (2, .int x2), (3, .int x3), (6, .int x6)]) dX2_likingBits_78 (by decide) rfl ?_
            refine V_iinc C (v := (x6 + 1)) (lv' := [(6, .int (x6 + 1)), (4, .long (x4 ||| ((1 : Int64) <<< ((x6).toInt64 &&& 63)))), (7, .int (q1 - q2)), (1, .ref (ad 2)), (2, .int x2), (3, .int x3)]) 5 dX2_likingBits_80 rfl rfl (by decide) rfl ?_
            refine V_goto C 6 dX2_likingBits_83 (by decide) ?_
            refine V_lv (ks := [3, 4, 5, 1, 0]) rfl ?_
            exact ih x2 x3 (x4 ||| ((1 : Int64) <<< ((x6).toInt64 &&& 63))) (x6 + 1) hF
set_option maxHeartbeats 4000000 in
set_option maxRecDepth 20000 in
theorem ct_X2_likingBits {a2 : Int32} {a3 : Int32} {σ : Mem} {r : Int64} (hF : F_X2_likingBits a2 a3 σ = some r) : Ct yX2_likingBits cX2_likingBits 8 (some .long) 2 46 (fun ad zz => [.ref (ad 4), .ref (ad 2), .int a2, .int a3]) σ (fun ad => (some (.long r))) σ := by
  refine Ct_of (by decide +kernel) (lv := fun ad zz => [(0, .ref (ad 4)), (1, .ref (ad 2)), (2, .int a2), (3, .int a3)]) (fun _ _ => rfl) (fun _ _ => Nat.le_of_ble_eq_true rfl) (fun p l e s m args below meth c D T ad zz C hr hlk => ?_)
  rw [F_X2_likingBits] at hF
  refine V_lconst C dX2_likingBits_0 (v := (0 : Int64)) (by decide) ?_
  refine V_lstore C (lv' := [(4, .long (0 : Int64)), (0, .ref (ad 4)), (1, .ref (ad 2)), (2, .int a2), (3, .int a3)]) dX2_likingBits_1 (by decide) rfl ?_
  refine V_iconst C dX2_likingBits_3 (v := (0 : Int32)) (by decide) ?_
  refine V_istore C (lv' := [(6, .int (0 : Int32)), (4, .long (0 : Int64)), (0, .ref (ad 4)), (1, .ref (ad 2)), (2, .int a2), (3, .int a3)]) dX2_likingBits_4 (by decide) rfl ?_
  refine V_lv (ks := [3, 4, 5, 1, 0]) rfl ?_
  exact w_X2_likingBits_b6 C hr hlk 4000 a2 a3 (0 : Int64) (0 : Int32) hF

def F_X2_learntBits_b7 (σ : Mem) : Nat → Int64 → Int32 → Option Int64
  | 0, _, _ => none
  | n + 1, x2, x4 =>
    if (σ.1 5) ≤ x4 then
      some x2
    else
      Option.bind (F_X10_at 10 x4 σ) fun q1 =>
      Option.bind (F_X10_at 11 x4 σ) fun q2 =>
      Option.bind (F_X3_hasRider q1 σ) fun q3 =>
      if q3 = 0 then
        (F_X2_learntBits_b7 σ n) x2 (x4 + 1)
      else
        Option.bind (F_X3_hasRider q2 σ) fun q4 =>
        if q4 = 0 then
          (F_X2_learntBits_b7 σ n) x2 (x4 + 1)
        else
          Option.bind (F_X2_likingBits q1 q2 σ) fun q5 =>
          (F_X2_learntBits_b7 σ n) (x2 &&& q5) (x4 + 1)
def F_X2_learntBits (σ : Mem) : Option Int64 :=
  F_X2_learntBits_b7 σ 4000 (-1 : Int64) (0 : Int32)
set_option maxHeartbeats 4000000 in
set_option maxRecDepth 20000 in
theorem w_X2_learntBits_b7 {p : Program} {l : Launch} {e : Env} {s : State} {m : MethodId} {args : Array Value} {below : List Frame} {meth : Method} {c : Code} {D : va_G} {T : Nat → ClassId} {ad zz : Nat → Nat} (C : Cx p s m c cX2_learntBits 7 RX2 (fA ad) D T ad zz) (hr : meth.sig.returnType = (some .long)) (hlk : meth.locks = false) {σ : Mem} {r : Int64}  : ∀ (n : Nat), ∀ (x2 : Int64) (x4 : Int32), F_X2_learntBits_b7 σ n x2 x4 = some r → V p l e { frames := 3, cells := 0, slots := 0, locals := 73 } s m args below meth c 0 0 (MQ below (qC (some (.long r)) σ D T ad) args s 0 0 (fA ad)) 7 (fA ad) D T ad σ 7 [(0, .ref (ad 4)), (1, .ref (ad 2)), (2, .long x2), (4, .int x4)] [] := by
  intro n
  induction n with
  | zero =>
    intro x2 x4 hF
    cases (show (none : Option Int64) = some r from hF)
  | succ n ih =>
    intro x2 x4 hF
    rw [F_X2_learntBits_b7] at hF
    refine V_iload C 3 dX2_learntBits_7 rfl ?_
    refine V_aload_n C 0 dX2_learntBits_9 rfl ?_
    refine gf_X2_18 C dX2_learntBits_10 ?_
    refine V_icmp_ge C 74 dX2_learntBits_13 (by decide) hF (fun hF => ?_) (fun hF => ?_)
    · refine V_lload_n C 2 dX2_learntBits_74 rfl ?_
      cases hF
      exact V_lret C hr hlk rfl rfl dX2_learntBits_75
    · refine V_aload_n C 0 dX2_learntBits_16 rfl ?_
      refine gf_X2_11 C dX2_learntBits_17 ?_
      refine V_iload C 3 dX2_learntBits_20 rfl ?_
      obtain ⟨q1, hq1, hF⟩ := bnd hF
      refine cs_X2_28 C (ct_X10_at (by decide) hq1) rfl ⟨by decide, by decide⟩ (Nat.le_of_ble_eq_true rfl) dX2_learntBits_22 ⟨Nat.le_refl 0, Nat.le_refl 0⟩ ?_
      refine V_istore C (lv' := [(5, .int q1), (0, .ref (ad 4)), (1, .ref (ad 2)), (2, .long x2), (4, .int x4)]) dX2_learntBits_25 (by decide) rfl ?_
      refine V_aload_n C 1 dX2_learntBits_27 rfl ?_
      refine gf_X2_15 C dX2_learntBits_28 ?_
      refine V_iload C 4 dX2_learntBits_31 rfl ?_
      obtain ⟨q2, hq2, hF⟩ := bnd hF
      refine cs_X2_28 C (ct_X10_at (by decide) hq2) rfl ⟨by decide, by decide⟩ (Nat.le_of_ble_eq_true rfl) dX2_learntBits_33 ⟨Nat.le_refl 0, Nat.le_refl 0⟩ ?_
      refine V_istore C (lv' := [(6, .int q2), (5, .int q1), (0, .ref (ad 4)), (1, .ref (ad 2)), (2, .long x2), (4, .int x4)]) dX2_learntBits_36 (by decide) rfl ?_
      refine V_aload_n C 3 dX2_learntBits_38 rfl ?_
      refine V_iload C 1 dX2_learntBits_39 rfl ?_
      obtain ⟨q3, hq3, hF⟩ := bnd hF
      refine cs_X2_32 C (ct_X3_hasRider hq3) rfl ⟨by decide, by decide⟩ (Nat.le_of_ble_eq_true rfl) dX2_learntBits_41 ⟨Nat.le_refl 0, Nat.le_refl 0⟩ ?_
      refine V_if_eq C 68 dX2_learntBits_44 (by decide) hF (fun hF => ?_) (fun hF => ?_)
      · refine V_iinc C (v := (x4 + 1)) (lv' := [(4, .int (x4 + 1)), (6, .int q2), (5, .int q1), (0, .ref (ad 4)), (1, .ref (ad 2)), (2, .long x2)]) 5 dX2_learntBits_68 rfl rfl (by decide) rfl ?_
        refine V_goto C 7 dX2_learntBits_71 (by decide) ?_
        refine V_lv (ks := [3, 4, 5, 0]) rfl ?_
        exact ih x2 (x4 + 1) hF
      · refine V_aload_n C 3 dX2_learntBits_47 rfl ?_
        refine V_iload C 0 dX2_learntBits_48 rfl ?_
        obtain ⟨q4, hq4, hF⟩ := bnd hF
        refine cs_X2_32 C (ct_X3_hasRider hq4) rfl ⟨by decide, by decide⟩ (Nat.le_of_ble_eq_true rfl) dX2_learntBits_50 ⟨Nat.le_refl 0, Nat.le_refl 0⟩ ?_
        refine V_if_eq C 68 dX2_learntBits_53 (by decide) hF (fun hF => ?_) (fun hF => ?_)
        · refine V_iinc C (v := (x4 + 1)) (lv' := [(4, .int (x4 + 1)), (6, .int q2), (5, .int q1), (0, .ref (ad 4)), (1, .ref (ad 2)), (2, .long x2)]) 5 dX2_learntBits_68 rfl rfl (by decide) rfl ?_
          refine V_goto C 7 dX2_learntBits_71 (by decide) ?_
          refine V_lv (ks := [3, 4, 5, 0]) rfl ?_
          exact ih x2 (x4 + 1) hF
        · refine V_lload_n C 4 dX2_learntBits_56 rfl ?_
          refine V_aload_n C 2 dX2_learntBits_57 rfl ?_
          refine V_aload_n C 3 dX2_learntBits_58 rfl ?_
          refine V_iload C 1 dX2_learntBits_59 rfl ?_
          refine V_iload C 0 dX2_learntBits_61 rfl ?_
          obtain ⟨q5, hq5, hF⟩ := bnd hF
          refine cs_X2_38 C (ct_X2_likingBits hq5) rfl ⟨by decide, by decide⟩ (Nat.le_of_ble_eq_true rfl) dX2_learntBits_63 ⟨Nat.le_refl 0, Nat.le_refl 0⟩ ?_
          refine V_land C dX2_learntBits_66 ?_
          refine V_lstore_n C (lv' := [(2, .long (x2 &&& q5)), (6, .int q2), (5, .int q1), (0, .ref (ad 4)), (1, .ref (ad 2)), (4, .int x4)]) dX2_learntBits_67 rfl (by decide) rfl ?_
          refine V_iinc C (v := (x4 + 1)) (lv' := [(4, .int (x4 + 1)), (2, .long (x2 &&& q5)), (6, .int q2), (5, .int q1), (0, .ref (ad 4)), (1, .ref (ad 2))]) 5 dX2_learntBits_68 rfl rfl (by decide) rfl ?_
          refine V_goto C 7 dX2_learntBits_71 (by decide) ?_
          refine V_lv (ks := [4, 5, 1, 0]) rfl ?_
          exact ih (x2 &&& q5) (x4 + 1) hF
set_option maxHeartbeats 4000000 in
set_option maxRecDepth 20000 in
theorem ct_X2_learntBits {σ : Mem} {r : Int64} (hF : F_X2_learntBits σ = some r) : Ct yX2_learntBits cX2_learntBits 7 (some .long) 3 73 (fun ad zz => [.ref (ad 4), .ref (ad 2)]) σ (fun ad => (some (.long r))) σ := by
  refine Ct_of (by decide +kernel) (lv := fun ad zz => [(0, .ref (ad 4)), (1, .ref (ad 2))]) (fun _ _ => rfl) (fun _ _ => Nat.le_of_ble_eq_true rfl) (fun p l e s m args below meth c D T ad zz C hr hlk => ?_)
  rw [F_X2_learntBits] at hF
  refine V_ldc2 C dX2_learntBits_0 (v := (-1 : Int64)) (TB_in 798 (by decide +kernel) (by decide +kernel)) ?_
  refine V_lstore_n C (lv' := [(2, .long (-1 : Int64)), (0, .ref (ad 4)), (1, .ref (ad 2))]) dX2_learntBits_3 rfl (by decide) rfl ?_
  refine V_iconst C dX2_learntBits_4 (v := (0 : Int32)) (by decide) ?_
  refine V_istore C (lv' := [(4, .int (0 : Int32)), (2, .long (-1 : Int64)), (0, .ref (ad 4)), (1, .ref (ad 2))]) dX2_learntBits_5 (by decide) rfl ?_
  refine V_lv (ks := [2, 3, 1, 0]) rfl ?_
  exact w_X2_learntBits_b7 C hr hlk 4000 (-1 : Int64) (0 : Int32) hF

def F_X2_leastFigures_b2 (σ : Mem) : Nat → Int64 → Int32 → Option Int32
  | 0, _, _ => none
  | n + 1, x0, x2 =>
    if (64 : Int32) ≤ x2 then
      some (-9 : Int32)
    else
      if (lg_cmp (((x0).toUInt64 >>> ((x2).toInt64.toUInt64 &&& Int64.toUInt64 63)).toInt64 &&& (1 : Int64)) (1 : Int64)) = 0 then
        some ((((100 : Int32) * (x2 / (16 : Int32))) + ((10 : Int32) * ((x2 / (4 : Int32)) - (x2 / (4 : Int32)) / (4 : Int32) * (4 : Int32)))) + (x2 - x2 / (4 : Int32) * (4 : Int32)))
      else
        (F_X2_leastFigures_b2 σ n) x0 (x2 + 1)
def F_X2_leastFigures (a1 : Int64) (σ : Mem) : Option Int32 :=
  F_X2_leastFigures_b2 σ 4000 a1 (0 : Int32)
set_option maxHeartbeats 4000000 in
set_option maxRecDepth 20000 in
theorem w_X2_leastFigures_b2 {p : Program} {l : Launch} {e : Env} {s : State} {m : MethodId} {args : Array Value} {below : List Frame} {meth : Method} {c : Code} {D : va_G} {T : Nat → ClassId} {ad zz : Nat → Nat} (C : Cx p s m c cX2_leastFigures 3 RX2 (fA ad) D T ad zz) (hr : meth.sig.returnType = (some .int)) (hlk : meth.locks = false) {σ : Mem} {r : Int32}  : ∀ (n : Nat), ∀ (x0 : Int64) (x2 : Int32), F_X2_leastFigures_b2 σ n x0 x2 = some r → V p l e { frames := 0, cells := 0, slots := 0, locals := 0 } s m args below meth c 0 0 (MQ below (qC (some (.int r)) σ D T ad) args s 0 0 (fA ad)) 3 (fA ad) D T ad σ 2 [(0, .long x0), (2, .int x2)] [] := by
  intro n
  induction n with
  | zero =>
    intro x0 x2 hF
    cases (show (none : Option Int32) = some r from hF)
  | succ n ih =>
    intro x0 x2 hF
    rw [F_X2_leastFigures_b2] at hF
    refine V_iload_n C 1 dX2_leastFigures_2 rfl ?_
    refine V_bipush C dX2_leastFigures_3 (v := (64 : Int32)) (by decide) ?_
    refine V_icmp_ge C 45 dX2_leastFigures_5 (by decide) hF (fun hF => ?_) (fun hF => ?_)
    · refine V_bipush C dX2_leastFigures_45 (v := (-9 : Int32)) (by decide) ?_
      cases hF
      exact V_iret C hr hlk rfl rfl dX2_leastFigures_47
    · refine V_lload_n C 0 dX2_leastFigures_8 rfl ?_
      refine V_iload_n C 1 dX2_leastFigures_9 rfl ?_
      refine V_lushr C dX2_leastFigures_10 ?_
      refine V_lconst C dX2_leastFigures_11 (v := (1 : Int64)) (by decide) ?_
      refine V_land C dX2_leastFigures_12 ?_
      refine V_lconst C dX2_leastFigures_13 (v := (1 : Int64)) (by decide) ?_
      refine V_lcmp C dX2_leastFigures_14 ?_
      refine V_if_ne C 39 dX2_leastFigures_15 (by decide) hF (fun hF => ?_) (fun hF => ?_)
      · refine V_iinc C (v := (x2 + 1)) (lv' := [(2, .int (x2 + 1)), (0, .long x0)]) 1 dX2_leastFigures_39 rfl rfl (by decide) rfl ?_
        refine V_goto C 2 dX2_leastFigures_42 (by decide) ?_
        refine V_lv (ks := [1, 0]) rfl ?_
        exact ih x0 (x2 + 1) hF
      · refine V_bipush C dX2_leastFigures_18 (v := (100 : Int32)) (by decide) ?_
        refine V_iload_n C 1 dX2_leastFigures_20 rfl ?_
        refine V_bipush C dX2_leastFigures_21 (v := (16 : Int32)) (by decide) ?_
        refine V_idivc C dX2_leastFigures_23 (by decide) ?_
        refine V_imul C dX2_leastFigures_24 ?_
        refine V_bipush C dX2_leastFigures_25 (v := (10 : Int32)) (by decide) ?_
        refine V_iload_n C 1 dX2_leastFigures_27 rfl ?_
        refine V_iconst C dX2_leastFigures_28 (v := (4 : Int32)) (by decide) ?_
        refine V_idivc C dX2_leastFigures_29 (by decide) ?_
        refine V_iconst C dX2_leastFigures_30 (v := (4 : Int32)) (by decide) ?_
        refine V_iremc C dX2_leastFigures_31 (by decide) ?_
        refine V_imul C dX2_leastFigures_32 ?_
        refine V_iadd C dX2_leastFigures_33 ?_
        refine V_iload_n C 1 dX2_leastFigures_34 rfl ?_
        refine V_iconst C dX2_leastFigures_35 (v := (4 : Int32)) (by decide) ?_
        refine V_iremc C dX2_leastFigures_36 (by decide) ?_
        refine V_iadd C dX2_leastFigures_37 ?_
        cases hF
        exact V_iret C hr hlk rfl rfl dX2_leastFigures_38
set_option maxHeartbeats 4000000 in
set_option maxRecDepth 20000 in
theorem ct_X2_leastFigures {a1 : Int64} {σ : Mem} {r : Int32} (hF : F_X2_leastFigures a1 σ = some r) : Ct yX2_leastFigures cX2_leastFigures 3 (some .int) 0 0 (fun ad zz => [.long a1]) σ (fun ad => (some (.int r))) σ := by
  refine Ct_of (by decide +kernel) (lv := fun ad zz => [(0, .long a1)]) (fun _ _ => rfl) (fun _ _ => Nat.le_of_ble_eq_true rfl) (fun p l e s m args below meth c D T ad zz C hr hlk => ?_)
  rw [F_X2_leastFigures] at hF
  refine V_iconst C dX2_leastFigures_0 (v := (0 : Int32)) (by decide) ?_
  refine V_istore_n C (lv' := [(2, .int (0 : Int32)), (0, .long a1)]) dX2_leastFigures_1 rfl (by decide) rfl ?_
  refine V_lv (ks := [1, 0]) rfl ?_
  exact w_X2_leastFigures_b2 C hr hlk 4000 a1 (0 : Int32) hF

def F_X3_hasHorse (a1 : Int32) (σ : Mem) : Option Int32 :=
  if a1 < 0 then
    some (0 : Int32)
  else
    if (σ.1 1) ≤ a1 then
      some (0 : Int32)
    else
      some (1 : Int32)
set_option maxHeartbeats 4000000 in
set_option maxRecDepth 20000 in
theorem ct_X3_hasHorse {a1 : Int32} {σ : Mem} {r : Int32} (hF : F_X3_hasHorse a1 σ = some r) : Ct yX3_hasHorse cX3_hasHorse 2 (some .boolean) 0 0 (fun ad zz => [.ref (ad 2), .int a1]) σ (fun ad => (some (.int r))) σ := by
  refine Ct_of (by decide +kernel) (lv := fun ad zz => [(0, .ref (ad 2)), (1, .int a1)]) (fun _ _ => rfl) (fun _ _ => Nat.le_of_ble_eq_true rfl) (fun p l e s m args below meth c D T ad zz C hr hlk => ?_)
  rw [F_X3_hasHorse] at hF
  refine V_iload_n C 1 dX3_hasHorse_0 rfl ?_
  refine V_if_lt C 16 dX3_hasHorse_1 (by decide) hF (fun hF => ?_) (fun hF => ?_)
  · refine V_iconst C dX3_hasHorse_16 (v := (0 : Int32)) (by decide) ?_
    cases hF
    exact V_zret C hr hlk (Or.inl rfl) rfl rfl dX3_hasHorse_17
  · refine V_iload_n C 1 dX3_hasHorse_4 rfl ?_
    refine V_aload_n C 0 dX3_hasHorse_5 rfl ?_
    refine gf_X3_39 C dX3_hasHorse_6 ?_
    refine V_icmp_ge C 16 dX3_hasHorse_9 (by decide) hF (fun hF => ?_) (fun hF => ?_)
    · refine V_iconst C dX3_hasHorse_16 (v := (0 : Int32)) (by decide) ?_
      cases hF
      exact V_zret C hr hlk (Or.inl rfl) rfl rfl dX3_hasHorse_17
    · refine V_iconst C dX3_hasHorse_12 (v := (1 : Int32)) (by decide) ?_
      refine V_goto C 17 dX3_hasHorse_13 (by decide) ?_
      cases hF
      exact V_zret C hr hlk (Or.inr rfl) rfl rfl dX3_hasHorse_17

def F_X3_allRiders (σ : Mem) : Option Int32 :=
  some (((1 : Int32) <<< ((σ.1 2) &&& 31)) - (1 : Int32))
set_option maxHeartbeats 4000000 in
set_option maxRecDepth 20000 in
theorem ct_X3_allRiders {σ : Mem} {r : Int32} (hF : F_X3_allRiders σ = some r) : Ct yX3_allRiders cX3_allRiders 1 (some .int) 0 0 (fun ad zz => [.ref (ad 2)]) σ (fun ad => (some (.int r))) σ := by
  refine Ct_of (by decide +kernel) (lv := fun ad zz => [(0, .ref (ad 2))]) (fun _ _ => rfl) (fun _ _ => Nat.le_of_ble_eq_true rfl) (fun p l e s m args below meth c D T ad zz C hr hlk => ?_)
  rw [F_X3_allRiders] at hF
  refine V_iconst C dX3_allRiders_0 (v := (1 : Int32)) (by decide) ?_
  refine V_aload_n C 0 dX3_allRiders_1 rfl ?_
  refine gf_X3_43 C dX3_allRiders_2 ?_
  refine V_ishl C dX3_allRiders_5 ?_
  refine V_iconst C dX3_allRiders_6 (v := (1 : Int32)) (by decide) ?_
  refine V_isub C dX3_allRiders_7 ?_
  cases hF
  exact V_iret C hr hlk rfl rfl dX3_allRiders_8
