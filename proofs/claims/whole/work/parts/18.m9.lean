-- walks: X10_days X10_keep X10_again X11_in X11_isIn X11_many X11_noHorse X11_noRider X11_write X11_wipe X11_figure X11_readHorse X11_readRider X11_readPart X11_readFair X11_fault
def F_X10_days_b76  : Nat → Int32 → Int32 → Int32 → Int32 → Mem → Option (Int32 × Mem)
  | 0, _, _, _, _, _ => none
  | n + 1, x1, x2, x3, x4, σ =>
    if x1 ≤ x4 then
      Option.bind (F_X7_takenBits 20 σ) fun q3 =>
      some (q3, σ)
    else
      Option.bind (stJ σ 0 (((σ.2.2 0) * (6364136223846793005 : Int64)) + (1442695040888963407 : Int64))) fun σ4 =>
      Option.bind (rmJ ((((σ4.2.2 0)).toUInt64 >>> (((33 : Int32)).toInt64.toUInt64 &&& Int64.toUInt64 63)).toInt64) ((x2).toInt64)) fun v5 =>
      Option.bind (dvI ((v5).toInt32) x3) fun v6 =>
      Option.bind (F_X7_horseOf 20 v6 σ4) fun q7 =>
      if q7 = (-9 : Int32) then
        Option.bind (rmI ((v5).toInt32) x3) fun v8 =>
        Option.bind (F_X7_leadTo 20 v6 v8 σ4) fun q9 =>
        (F_X10_days_b76 n) x1 x2 x3 (x4 + 1) q9.2
      else
        (F_X10_days_b76 n) x1 x2 x3 (x4 + 1) σ4
def F_X10_days (a1 : Int32) (σ : Mem) : Option (Int32 × Mem) :=
  if a1 < (1 : Int32) then
    some ((-2 : Int32), σ)
  else
    if a1 ≤ (40 : Int32) then
      if 0 < ((σ.1 2) * (σ.1 1)) then
        Option.bind (F_X9_weigh 0 σ) fun σ1 =>
        Option.bind (F_X7_copyFrom 20 0 σ1) fun σ2 =>
        F_X10_days_b76 4000 a1 ((σ.1 2) * (σ.1 1)) (if (1 : Int32) < (σ.1 1) then (σ.1 1) else (1 : Int32)) (0 : Int32) σ2
      else
        some ((0 : Int32), σ)
    else
      some ((-2 : Int32), σ)
set_option maxHeartbeats 4000000 in
set_option maxRecDepth 20000 in
theorem w_X10_days_b76 {p : Program} {l : Launch} {e : Env} {s : State} {m : MethodId} {args : Array Value} {below : List Frame} {meth : Method} {c : Code} {D : va_G} {T : Nat → ClassId} {ad zz : Nat → Nat} (C : Cx p s m c cX10_days 7 RX10 (fA ad) D T ad zz) (hr : meth.sig.returnType = (some .int)) (hlk : meth.locks = false) {r : (Int32 × Mem)}  : ∀ (n : Nat), ∀ (x1 : Int32) (x2 : Int32) (x3 : Int32) (x4 : Int32) (σ : Mem), F_X10_days_b76  n x1 x2 x3 x4 σ = some r → V p l e { frames := 4, cells := 0, slots := 0, locals := 94 } s m args below meth c 0 0 (MQ below (qC (some (.int r.1)) r.2 D T ad) args s 0 0 (fA ad)) 7 (fA ad) D T ad σ 76 [(0, .ref (ad 0)), (1, .int x1), (2, .int x2), (3, .int x3), (4, .int x4)] [] := by
  intro n
  induction n with
  | zero =>
    intro x1 x2 x3 x4 σ hF
    cases (show (none : Option (Int32 × Mem)) = some r from hF)
  | succ n ih =>
    intro x1 x2 x3 x4 σ hF
    rw [F_X10_days_b76] at hF
    refine V_iload C 4 dX10_days_76 rfl ?_
    refine V_iload_n C 1 dX10_days_78 rfl ?_
    refine V_icmp_ge C 155 dX10_days_79 (by decide) hF (fun hF => ?_) (fun hF => ?_)
    · refine V_aload_n C 0 dX10_days_155 rfl ?_
      refine gf_X10_83 C dX10_days_156 ?_
      obtain ⟨q3, hq3, hF⟩ := bnd hF
      refine cs_X10_125 C (by decide) (ct_X7_takenBits (by decide) hq3) rfl ⟨by decide, by decide⟩ (Nat.le_of_ble_eq_true rfl) dX10_days_159 ⟨Nat.le_refl 0, Nat.le_refl 0⟩ ?_
      cases hF
      exact V_iret C hr hlk rfl rfl dX10_days_162
    · refine V_aload_n C 0 dX10_days_82 rfl ?_
      refine V_aload_n C 0 dX10_days_83 rfl ?_
      refine gf_X10_87 C dX10_days_84 ?_
      refine V_ldc2 C dX10_days_87 (v := (6364136223846793005 : Int64)) (TB_in 881 (by decide +kernel) (by decide +kernel)) ?_
      refine V_lmul C dX10_days_90 ?_
      refine V_ldc2 C dX10_days_91 (v := (1442695040888963407 : Int64)) (TB_in 882 (by decide +kernel) (by decide +kernel)) ?_
      refine V_ladd C dX10_days_94 ?_
      obtain ⟨σ4, hs4, hF⟩ := bnd hF
      refine pf_X10_87 C hs4 dX10_days_95 ?_
      refine V_aload_n C 0 dX10_days_98 rfl ?_
      refine gf_X10_87 C dX10_days_99 ?_
      refine V_bipush C dX10_days_102 (v := (33 : Int32)) (by decide) ?_
      refine V_lushr C dX10_days_104 ?_
      refine V_iload_n C 2 dX10_days_105 rfl ?_
      refine V_i2l C dX10_days_106 ?_
      obtain ⟨v5, hv5, hF⟩ := bnd hF
      refine V_lrem C hv5 dX10_days_107 ?_
      refine V_l2i C dX10_days_108 ?_
      refine V_istore C (lv' := [(5, .int (v5).toInt32), (0, .ref (ad 0)), (1, .int x1), (2, .int x2), (3, .int x3), (4, .int x4)]) dX10_days_109 (by decide) rfl ?_
      refine V_iload C 0 dX10_days_111 rfl ?_
      refine V_iload_n C 4 dX10_days_113 rfl ?_
      obtain ⟨v6, hv6, hF⟩ := bnd hF
      refine V_idiv C hv6 dX10_days_114 ?_
      refine V_istore C (lv' := [(6, .int v6), (5, .int (v5).toInt32), (0, .ref (ad 0)), (1, .int x1), (2, .int x2), (3, .int x3), (4, .int x4)]) dX10_days_115 (by decide) rfl ?_
      refine V_aload_n C 2 dX10_days_117 rfl ?_
      refine gf_X10_83 C dX10_days_118 ?_
      refine V_iload C 0 dX10_days_121 rfl ?_
      obtain ⟨q7, hq7, hF⟩ := bnd hF
      refine cs_X10_177 C (by decide) (ct_X7_horseOf (by decide) hq7) rfl ⟨by decide, by decide⟩ (Nat.le_of_ble_eq_true rfl) dX10_days_123 ⟨Nat.le_refl 0, Nat.le_refl 0⟩ ?_
      refine V_bipush C dX10_days_126 (v := (-9 : Int32)) (by decide) ?_
      refine V_icmp_ne C 149 dX10_days_128 (by decide) hF (fun hF => ?_) (fun hF => ?_)
      · refine V_iinc C (v := (x4 + 1)) (lv' := [(4, .int (x4 + 1)), (6, .int v6), (5, .int (v5).toInt32), (0, .ref (ad 0)), (1, .int x1), (2, .int x2), (3, .int x3)]) 6 dX10_days_149 rfl rfl (by decide) rfl ?_
        refine V_goto C 76 dX10_days_152 (by decide) ?_
        refine V_lv (ks := [3, 4, 5, 6, 0]) rfl ?_
        exact ih x1 x2 x3 (x4 + 1) σ4 hF
      · refine V_aload_n C 2 dX10_days_131 rfl ?_
        refine gf_X10_83 C dX10_days_132 ?_
        refine V_iload C 0 dX10_days_135 rfl ?_
        refine V_iload C 1 dX10_days_137 rfl ?_
        refine V_iload_n C 5 dX10_days_139 rfl ?_
        obtain ⟨v8, hv8, hF⟩ := bnd hF
        refine V_irem C hv8 dX10_days_140 ?_
        refine V_aload_n C 2 dX10_days_141 rfl ?_
        refine gf_X10_53 C dX10_days_142 ?_
        obtain ⟨q9, hq9, hF⟩ := bnd hF
        refine cs_X10_194 C (by decide) (ct_X7_leadTo (by decide) hq9) rfl ⟨by decide, by decide⟩ (Nat.le_of_ble_eq_true rfl) dX10_days_145 ⟨Nat.le_refl 0, Nat.le_refl 0⟩ ?_
        refine V_pop C dX10_days_148 rfl ?_
        refine V_iinc C (v := (x4 + 1)) (lv' := [(4, .int (x4 + 1)), (6, .int v6), (5, .int (v5).toInt32), (0, .ref (ad 0)), (1, .int x1), (2, .int x2), (3, .int x3)]) 6 dX10_days_149 rfl rfl (by decide) rfl ?_
        refine V_goto C 76 dX10_days_152 (by decide) ?_
        refine V_lv (ks := [3, 4, 5, 6, 0]) rfl ?_
        exact ih x1 x2 x3 (x4 + 1) q9.2 hF
set_option maxHeartbeats 4000000 in
set_option maxRecDepth 20000 in
theorem ct_X10_days {a1 : Int32} {σ : Mem} {r : (Int32 × Mem)} (hF : F_X10_days a1 σ = some r) : Ct yX10_days cX10_days 7 (some .int) 4 94 (fun ad zz => [.ref (ad 0), .int a1]) σ (fun ad => (some (.int r.1))) r.2 := by
  refine Ct_of (by decide +kernel) (lv := fun ad zz => [(0, .ref (ad 0)), (1, .int a1)]) (fun _ _ => rfl) (fun _ _ => Nat.le_of_ble_eq_true rfl) (fun p l e s m args below meth c D T ad zz C hr hlk => ?_)
  rw [F_X10_days] at hF
  refine V_iload_n C 1 dX10_days_0 rfl ?_
  refine V_iconst C dX10_days_1 (v := (1 : Int32)) (by decide) ?_
  refine V_icmp_lt C 11 dX10_days_2 (by decide) hF (fun hF => ?_) (fun hF => ?_)
  · refine V_bipush C dX10_days_11 (v := (-2 : Int32)) (by decide) ?_
    cases hF
    exact V_iret C hr hlk rfl rfl dX10_days_13
  · refine V_iload_n C 1 dX10_days_5 rfl ?_
    refine V_bipush C dX10_days_6 (v := (40 : Int32)) (by decide) ?_
    refine V_icmp_le C 14 dX10_days_8 (by decide) hF (fun hF => ?_) (fun hF => ?_)
    · refine V_aload_n C 0 dX10_days_14 rfl ?_
      refine gf_X10_19 C dX10_days_15 ?_
      refine gf_X10_119 C dX10_days_18 ?_
      refine V_aload_n C 0 dX10_days_21 rfl ?_
      refine gf_X10_19 C dX10_days_22 ?_
      refine gf_X10_116 C dX10_days_25 ?_
      refine V_imul C dX10_days_28 ?_
      refine V_istore_n C (lv' := [(2, .int ((σ.1 2) * (σ.1 1))), (0, .ref (ad 0)), (1, .int a1)]) dX10_days_29 rfl (by decide) rfl ?_
      refine V_iload_n C 0 dX10_days_30 rfl ?_
      refine V_if_gt C 36 dX10_days_31 (by decide) hF (fun hF => ?_) (fun hF => ?_)
      · refine V_iconst C dX10_days_36 (v := (1 : Int32)) (by decide) ?_
        refine V_aload_n C 1 dX10_days_37 rfl ?_
        refine gf_X10_19 C dX10_days_38 ?_
        refine gf_X10_116 C dX10_days_41 ?_
        refine cs_X10_290 C ⟨by decide, Nat.le_of_ble_eq_true rfl⟩ ⟨Nat.le_refl 0, Nat.le_refl 0⟩ dX10_days_44 ?_
        refine V_istore_n C (lv' := [(3, .int (if (1 : Int32) < (σ.1 1) then (σ.1 1) else (1 : Int32))), (2, .int ((σ.1 2) * (σ.1 1))), (0, .ref (ad 0)), (1, .int a1)]) dX10_days_47 rfl (by decide) rfl ?_
        refine V_aload_n C 2 dX10_days_48 rfl ?_
        refine gf_X10_53 C dX10_days_49 ?_
        refine V_aload_n C 2 dX10_days_52 rfl ?_
        refine gf_X10_26 C dX10_days_53 ?_
        obtain ⟨σ1, hs1, hF⟩ := bnd hF
        refine cs_X10_184 C (ct_X9_weigh (by decide) hs1) rfl ⟨by decide, by decide⟩ (Nat.le_of_ble_eq_true rfl) dX10_days_56 ⟨Nat.le_refl 0, Nat.le_refl 0⟩ ?_
        refine V_aload_n C 2 dX10_days_59 rfl ?_
        refine gf_X10_83 C dX10_days_60 ?_
        refine V_aload_n C 2 dX10_days_63 rfl ?_
        refine gf_X10_26 C dX10_days_64 ?_
        refine gf_X10_122 C (by decide) dX10_days_67 ?_
        obtain ⟨σ2, hs2, hF⟩ := bnd hF
        refine cs_X10_317 C (by decide) (ct_X7_copyFrom (by decide) (by decide) hs2) rfl ⟨by decide, by decide⟩ (Nat.le_of_ble_eq_true rfl) dX10_days_70 ⟨Nat.le_refl 0, Nat.le_refl 0⟩ ?_
        refine V_iconst C dX10_days_73 (v := (0 : Int32)) (by decide) ?_
        refine V_istore C (lv' := [(4, .int (0 : Int32)), (3, .int (if (1 : Int32) < (σ.1 1) then (σ.1 1) else (1 : Int32))), (2, .int ((σ.1 2) * (σ.1 1))), (0, .ref (ad 0)), (1, .int a1)]) dX10_days_74 (by decide) rfl ?_
        refine V_lv (ks := [3, 4, 2, 1, 0]) rfl ?_
        exact w_X10_days_b76 C hr hlk 4000 a1 ((σ.1 2) * (σ.1 1)) (if (1 : Int32) < (σ.1 1) then (σ.1 1) else (1 : Int32)) (0 : Int32) σ2 hF
      · refine V_iconst C dX10_days_34 (v := (0 : Int32)) (by decide) ?_
        cases hF
        exact V_iret C hr hlk rfl rfl dX10_days_35
    · refine V_bipush C dX10_days_11 (v := (-2 : Int32)) (by decide) ?_
      cases hF
      exact V_iret C hr hlk rfl rfl dX10_days_13

def F_X10_keep (a1 : Int32) (σ : Mem) : Option (Int32 × Mem) :=
  Option.bind (F_X10_slotOf a1 σ) fun q1 =>
  oc q1
    (some ((-1 : Int32), σ))
    (fun k2 => ifK k2 17
    (Option.bind (F_X5_copyFrom k2 0 σ) fun σ3 =>
    Option.bind (stI σ3 (60 + k2) (1 : Int32)) fun σ4 =>
    Option.bind (F_X7_takenBits 0 σ4) fun q5 =>
    Option.bind (F_J6_bitCount_0f7a4 q5 σ4) fun q6 =>
    some (q6, σ4)))
set_option maxHeartbeats 4000000 in
set_option maxRecDepth 20000 in
theorem ct_X10_keep {a1 : Int32} {σ : Mem} {r : (Int32 × Mem)} (hF : F_X10_keep a1 σ = some r) : Ct yX10_keep cX10_keep 3 (some .int) 3 82 (fun ad zz => [.ref (ad 0), .int a1]) σ (fun ad => (some (.int r.1))) r.2 := by
  refine Ct_of (by decide +kernel) (lv := fun ad zz => [(0, .ref (ad 0)), (1, .int a1)]) (fun _ _ => rfl) (fun _ _ => Nat.le_of_ble_eq_true rfl) (fun p l e s m args below meth c D T ad zz C hr hlk => ?_)
  rw [F_X10_keep] at hF
  refine V_aload_n C 0 dX10_keep_0 rfl ?_
  refine V_iload_n C 1 dX10_keep_1 rfl ?_
  obtain ⟨q1, hq1, hF⟩ := bnd hF
  refine cs_X10_325 C (ct_X10_slotOf hq1) rfl ⟨by decide, by decide⟩ (Nat.le_of_ble_eq_true rfl) dX10_keep_2 ⟨Nat.le_refl 0, Nat.le_refl 0⟩ ?_
  rcases q1 with _ | k2
  · refine V_astore_nN C (lv' := [(2, .null), (0, .ref (ad 0)), (1, .int a1)]) dX10_keep_5 rfl (by decide) rfl ?_
    refine V_aload_nN C 0 dX10_keep_6 rfl ?_
    refine V_ifnonnullN C dX10_keep_7 ?_
    refine V_iconst C dX10_keep_10 (v := (-1 : Int32)) (by decide) ?_
    cases hF
    exact V_iret C hr hlk rfl rfl dX10_keep_11
  · obtain ⟨hk2, hF⟩ := ifK_s (show ifK k2 17 _ = some r from hF)
    refine V_astore_n C (lv' := [(2, .ref (ad (80 + k2))), (0, .ref (ad 0)), (1, .int a1)]) dX10_keep_5 rfl (by decide) rfl ?_
    refine V_aload_n C 0 dX10_keep_6 rfl ?_
    refine V_ifnonnullR C 12 dX10_keep_7 (by decide) ?_
    refine V_aload_n C 0 dX10_keep_12 rfl ?_
    refine V_aload_n C 1 dX10_keep_13 rfl ?_
    refine gf_X10_26 C dX10_keep_14 ?_
    obtain ⟨σ3, hs3, hF⟩ := bnd hF
    refine cs_X10_329 C hk2 (ct_X5_copyFrom hk2 (by decide) hs3) rfl ⟨by decide, by decide⟩ (Nat.le_of_ble_eq_true rfl) dX10_keep_17 ⟨Nat.le_refl 0, Nat.le_refl 0⟩ ?_
    refine V_aload_n C 0 dX10_keep_20 rfl ?_
    refine V_iconst C dX10_keep_21 (v := (1 : Int32)) (by decide) ?_
    obtain ⟨σ4, hs4, hF⟩ := bnd hF
    refine pf_X10_331 C hk2 hs4 (Or.inr rfl) dX10_keep_22 ?_
    refine V_aload_n C 1 dX10_keep_25 rfl ?_
    refine gf_X10_26 C dX10_keep_26 ?_
    refine gf_X10_122 C (by decide) dX10_keep_29 ?_
    obtain ⟨q5, hq5, hF⟩ := bnd hF
    refine cs_X10_125 C (by decide) (ct_X7_takenBits (by decide) hq5) rfl ⟨by decide, by decide⟩ (Nat.le_of_ble_eq_true rfl) dX10_keep_32 ⟨Nat.le_refl 0, Nat.le_refl 0⟩ ?_
    obtain ⟨q6, hq6, hF⟩ := bnd hF
    refine cs_X10_335 C (ct_J6_bitCount_0f7a4 hq6) rfl ⟨by decide, by decide⟩ (Nat.le_of_ble_eq_true rfl) dX10_keep_35 ⟨Nat.le_refl 0, Nat.le_refl 0⟩ ?_
    cases hF
    exact V_iret C hr hlk rfl rfl dX10_keep_38

def F_X10_again (a1 : Int32) (σ : Mem) : Option (Int32 × Mem) :=
  Option.bind (F_X10_slotOf a1 σ) fun q1 =>
  oc q1
    (some ((-1 : Int32), σ))
    (fun k2 => ifK k2 17
    (if (σ.1 (60 + k2)) = 0 then
      some ((-3 : Int32), σ)
    else
      Option.bind (F_X5_copyFrom 0 k2 σ) fun σ3 =>
      Option.bind (stI σ3 4 (0 : Int32)) fun σ4 =>
      Option.bind (F_X7_takenBits 0 σ4) fun q5 =>
      Option.bind (F_J6_bitCount_0f7a4 q5 σ4) fun q6 =>
      some (q6, σ4)))
set_option maxHeartbeats 4000000 in
set_option maxRecDepth 20000 in
theorem ct_X10_again {a1 : Int32} {σ : Mem} {r : (Int32 × Mem)} (hF : F_X10_again a1 σ = some r) : Ct yX10_again cX10_again 3 (some .int) 3 82 (fun ad zz => [.ref (ad 0), .int a1]) σ (fun ad => (some (.int r.1))) r.2 := by
  refine Ct_of (by decide +kernel) (lv := fun ad zz => [(0, .ref (ad 0)), (1, .int a1)]) (fun _ _ => rfl) (fun _ _ => Nat.le_of_ble_eq_true rfl) (fun p l e s m args below meth c D T ad zz C hr hlk => ?_)
  rw [F_X10_again] at hF
  refine V_aload_n C 0 dX10_again_0 rfl ?_
  refine V_iload_n C 1 dX10_again_1 rfl ?_
  obtain ⟨q1, hq1, hF⟩ := bnd hF
  refine cs_X10_325 C (ct_X10_slotOf hq1) rfl ⟨by decide, by decide⟩ (Nat.le_of_ble_eq_true rfl) dX10_again_2 ⟨Nat.le_refl 0, Nat.le_refl 0⟩ ?_
  rcases q1 with _ | k2
  · refine V_astore_nN C (lv' := [(2, .null), (0, .ref (ad 0)), (1, .int a1)]) dX10_again_5 rfl (by decide) rfl ?_
    refine V_aload_nN C 0 dX10_again_6 rfl ?_
    refine V_ifnonnullN C dX10_again_7 ?_
    refine V_iconst C dX10_again_10 (v := (-1 : Int32)) (by decide) ?_
    cases hF
    exact V_iret C hr hlk rfl rfl dX10_again_11
  · obtain ⟨hk2, hF⟩ := ifK_s (show ifK k2 17 _ = some r from hF)
    refine V_astore_n C (lv' := [(2, .ref (ad (80 + k2))), (0, .ref (ad 0)), (1, .int a1)]) dX10_again_5 rfl (by decide) rfl ?_
    refine V_aload_n C 0 dX10_again_6 rfl ?_
    refine V_ifnonnullR C 12 dX10_again_7 (by decide) ?_
    refine V_aload_n C 0 dX10_again_12 rfl ?_
    refine gf_X10_331 C hk2 dX10_again_13 ?_
    refine V_if_ne C 22 dX10_again_16 (by decide) hF (fun hF => ?_) (fun hF => ?_)
    · refine V_aload_n C 1 dX10_again_22 rfl ?_
      refine gf_X10_26 C dX10_again_23 ?_
      refine V_aload_n C 0 dX10_again_26 rfl ?_
      obtain ⟨σ3, hs3, hF⟩ := bnd hF
      refine cs_X10_329 C (by decide) (ct_X5_copyFrom (by decide) hk2 hs3) rfl ⟨by decide, by decide⟩ (Nat.le_of_ble_eq_true rfl) dX10_again_27 ⟨Nat.le_refl 0, Nat.le_refl 0⟩ ?_
      refine V_aload_n C 1 dX10_again_30 rfl ?_
      refine gf_X10_33 C dX10_again_31 ?_
      refine V_iconst C dX10_again_34 (v := (0 : Int32)) (by decide) ?_
      obtain ⟨σ4, hs4, hF⟩ := bnd hF
      refine pf_X10_110 C hs4 dX10_again_35 ?_
      refine V_aload_n C 1 dX10_again_38 rfl ?_
      refine gf_X10_26 C dX10_again_39 ?_
      refine gf_X10_122 C (by decide) dX10_again_42 ?_
      obtain ⟨q5, hq5, hF⟩ := bnd hF
      refine cs_X10_125 C (by decide) (ct_X7_takenBits (by decide) hq5) rfl ⟨by decide, by decide⟩ (Nat.le_of_ble_eq_true rfl) dX10_again_45 ⟨Nat.le_refl 0, Nat.le_refl 0⟩ ?_
      obtain ⟨q6, hq6, hF⟩ := bnd hF
      refine cs_X10_335 C (ct_J6_bitCount_0f7a4 hq6) rfl ⟨by decide, by decide⟩ (Nat.le_of_ble_eq_true rfl) dX10_again_48 ⟨Nat.le_refl 0, Nat.le_refl 0⟩ ?_
      cases hF
      exact V_iret C hr hlk rfl rfl dX10_again_51
    · refine V_bipush C dX10_again_19 (v := (-3 : Int32)) (by decide) ?_
      cases hF
      exact V_iret C hr hlk rfl rfl dX10_again_21

def F_X11_in (a1 : Int64) (a2 : Int64) (a3 : Int64) (σ : Mem) : Option Int32 :=
  if (lg_cmp a1 a2) < 0 then
    some (0 : Int32)
  else
    if 0 < (lg_cmp a1 a3) then
      some (0 : Int32)
    else
      some (1 : Int32)
set_option maxHeartbeats 4000000 in
set_option maxRecDepth 20000 in
theorem ct_X11_in {a1 : Int64} {a2 : Int64} {a3 : Int64} {σ : Mem} {r : Int32} (hF : F_X11_in a1 a2 a3 σ = some r) : Ct yX11_in cX11_in 6 (some .boolean) 0 0 (fun ad zz => [.long a1, .long a2, .long a3]) σ (fun ad => (some (.int r))) σ := by
  refine Ct_of (by decide +kernel) (lv := fun ad zz => [(0, .long a1), (2, .long a2), (4, .long a3)]) (fun _ _ => rfl) (fun _ _ => Nat.le_of_ble_eq_true rfl) (fun p l e s m args below meth c D T ad zz C hr hlk => ?_)
  rw [F_X11_in] at hF
  refine V_lload_n C 0 dX11_in_0 rfl ?_
  refine V_lload_n C 1 dX11_in_1 rfl ?_
  refine V_lcmp C dX11_in_2 ?_
  refine V_if_lt C 17 dX11_in_3 (by decide) hF (fun hF => ?_) (fun hF => ?_)
  · refine V_iconst C dX11_in_17 (v := (0 : Int32)) (by decide) ?_
    cases hF
    exact V_zret C hr hlk (Or.inl rfl) rfl rfl dX11_in_18
  · refine V_lload_n C 0 dX11_in_6 rfl ?_
    refine V_lload C 2 dX11_in_7 rfl ?_
    refine V_lcmp C dX11_in_9 ?_
    refine V_if_gt C 17 dX11_in_10 (by decide) hF (fun hF => ?_) (fun hF => ?_)
    · refine V_iconst C dX11_in_17 (v := (0 : Int32)) (by decide) ?_
      cases hF
      exact V_zret C hr hlk (Or.inl rfl) rfl rfl dX11_in_18
    · refine V_iconst C dX11_in_13 (v := (1 : Int32)) (by decide) ?_
      refine V_goto C 18 dX11_in_14 (by decide) ?_
      cases hF
      exact V_zret C hr hlk (Or.inr rfl) rfl rfl dX11_in_18

def F_X11_isIn (a1 : Int32) (a2 : Int32) (σ : Mem) : Option Int32 :=
  if ((a1 >>> (a2 &&& 31)) &&& (1 : Int32)) = (1 : Int32) then
    some (1 : Int32)
  else
    some (0 : Int32)
set_option maxHeartbeats 4000000 in
set_option maxRecDepth 20000 in
theorem ct_X11_isIn {a1 : Int32} {a2 : Int32} {σ : Mem} {r : Int32} (hF : F_X11_isIn a1 a2 σ = some r) : Ct yX11_isIn cX11_isIn 2 (some .boolean) 0 0 (fun ad zz => [.int a1, .int a2]) σ (fun ad => (some (.int r))) σ := by
  refine Ct_of (by decide +kernel) (lv := fun ad zz => [(0, .int a1), (1, .int a2)]) (fun _ _ => rfl) (fun _ _ => Nat.le_of_ble_eq_true rfl) (fun p l e s m args below meth c D T ad zz C hr hlk => ?_)
  rw [F_X11_isIn] at hF
  refine V_iload_n C 0 dX11_isIn_0 rfl ?_
  refine V_iload_n C 1 dX11_isIn_1 rfl ?_
  refine V_ishr C dX11_isIn_2 ?_
  refine V_iconst C dX11_isIn_3 (v := (1 : Int32)) (by decide) ?_
  refine V_iand C dX11_isIn_4 ?_
  refine V_iconst C dX11_isIn_5 (v := (1 : Int32)) (by decide) ?_
  refine V_icmp_ne C 13 dX11_isIn_6 (by decide) hF (fun hF => ?_) (fun hF => ?_)
  · refine V_iconst C dX11_isIn_13 (v := (0 : Int32)) (by decide) ?_
    cases hF
    exact V_zret C hr hlk (Or.inl rfl) rfl rfl dX11_isIn_14
  · refine V_iconst C dX11_isIn_9 (v := (1 : Int32)) (by decide) ?_
    refine V_goto C 14 dX11_isIn_10 (by decide) ?_
    cases hF
    exact V_zret C hr hlk (Or.inr rfl) rfl rfl dX11_isIn_14

def F_X11_many_b4 (σ : Mem) : Nat → Int32 → Int32 → Int32 → Option Int32
  | 0, _, _, _ => none
  | n + 1, x0, x1, x2 =>
    if (5 : Int32) ≤ x2 then
      some x1
    else
      (F_X11_many_b4 σ n) x0 (x1 + ((x0 >>> (x2 &&& 31)) &&& (1 : Int32))) (x2 + 1)
def F_X11_many (a1 : Int32) (σ : Mem) : Option Int32 :=
  F_X11_many_b4 σ 4000 a1 (0 : Int32) (0 : Int32)
set_option maxHeartbeats 4000000 in
set_option maxRecDepth 20000 in
theorem w_X11_many_b4 {p : Program} {l : Launch} {e : Env} {s : State} {m : MethodId} {args : Array Value} {below : List Frame} {meth : Method} {c : Code} {D : va_G} {T : Nat → ClassId} {ad zz : Nat → Nat} (C : Cx p s m c cX11_many 3 RX11 (fA ad) D T ad zz) (hr : meth.sig.returnType = (some .int)) (hlk : meth.locks = false) {σ : Mem} {r : Int32}  : ∀ (n : Nat), ∀ (x0 : Int32) (x1 : Int32) (x2 : Int32), F_X11_many_b4 σ n x0 x1 x2 = some r → V p l e { frames := 0, cells := 0, slots := 0, locals := 0 } s m args below meth c 0 0 (MQ below (qC (some (.int r)) σ D T ad) args s 0 0 (fA ad)) 3 (fA ad) D T ad σ 4 [(0, .int x0), (1, .int x1), (2, .int x2)] [] := by
  intro n
  induction n with
  | zero =>
    intro x0 x1 x2 hF
    cases (show (none : Option Int32) = some r from hF)
  | succ n ih =>
    intro x0 x1 x2 hF
    rw [F_X11_many_b4] at hF
    refine V_iload_n C 2 dX11_many_4 rfl ?_
    refine V_iconst C dX11_many_5 (v := (5 : Int32)) (by decide) ?_
    refine V_icmp_ge C 23 dX11_many_6 (by decide) hF (fun hF => ?_) (fun hF => ?_)
    · refine V_iload_n C 1 dX11_many_23 rfl ?_
      cases hF
      exact V_iret C hr hlk rfl rfl dX11_many_24
    · refine V_iload_n C 1 dX11_many_9 rfl ?_
      refine V_iload_n C 0 dX11_many_10 rfl ?_
      refine V_iload_n C 2 dX11_many_11 rfl ?_
      refine V_ishr C dX11_many_12 ?_
      refine V_iconst C dX11_many_13 (v := (1 : Int32)) (by decide) ?_
      refine V_iand C dX11_many_14 ?_
      refine V_iadd C dX11_many_15 ?_
      refine V_istore_n C (lv' := [(1, .int (x1 + ((x0 >>> (x2 &&& 31)) &&& (1 : Int32)))), (0, .int x0), (2, .int x2)]) dX11_many_16 rfl (by decide) rfl ?_
      refine V_iinc C (v := (x2 + 1)) (lv' := [(2, .int (x2 + 1)), (1, .int (x1 + ((x0 >>> (x2 &&& 31)) &&& (1 : Int32)))), (0, .int x0)]) 2 dX11_many_17 rfl rfl (by decide) rfl ?_
      refine V_goto C 4 dX11_many_20 (by decide) ?_
      refine V_lv (ks := [2, 1, 0]) rfl ?_
      exact ih x0 (x1 + ((x0 >>> (x2 &&& 31)) &&& (1 : Int32))) (x2 + 1) hF
set_option maxHeartbeats 4000000 in
set_option maxRecDepth 20000 in
theorem ct_X11_many {a1 : Int32} {σ : Mem} {r : Int32} (hF : F_X11_many a1 σ = some r) : Ct yX11_many cX11_many 3 (some .int) 0 0 (fun ad zz => [.int a1]) σ (fun ad => (some (.int r))) σ := by
  refine Ct_of (by decide +kernel) (lv := fun ad zz => [(0, .int a1)]) (fun _ _ => rfl) (fun _ _ => Nat.le_of_ble_eq_true rfl) (fun p l e s m args below meth c D T ad zz C hr hlk => ?_)
  rw [F_X11_many] at hF
  refine V_iconst C dX11_many_0 (v := (0 : Int32)) (by decide) ?_
  refine V_istore_n C (lv' := [(1, .int (0 : Int32)), (0, .int a1)]) dX11_many_1 rfl (by decide) rfl ?_
  refine V_iconst C dX11_many_2 (v := (0 : Int32)) (by decide) ?_
  refine V_istore_n C (lv' := [(2, .int (0 : Int32)), (1, .int (0 : Int32)), (0, .int a1)]) dX11_many_3 rfl (by decide) rfl ?_
  refine V_lv (ks := [2, 1, 0]) rfl ?_
  exact w_X11_many_b4 C hr hlk 4000 a1 (0 : Int32) (0 : Int32) hF

def F_X11_noHorse (a1 : Int32) (σ : Mem) : Option Int32 :=
  Option.bind (F_X11_in ((a1).toInt64) (0 : Int64) ((((σ.1 23) - (1 : Int32))).toInt64) σ) fun q1 =>
  if q1 = 0 then
    some (1 : Int32)
  else
    some (0 : Int32)
set_option maxHeartbeats 4000000 in
set_option maxRecDepth 20000 in
theorem ct_X11_noHorse {a1 : Int32} {σ : Mem} {r : Int32} (hF : F_X11_noHorse a1 σ = some r) : Ct yX11_noHorse cX11_noHorse 2 (some .boolean) 1 25 (fun ad zz => [.ref (ad 11), .int a1]) σ (fun ad => (some (.int r))) σ := by
  refine Ct_of (by decide +kernel) (lv := fun ad zz => [(0, .ref (ad 11)), (1, .int a1)]) (fun _ _ => rfl) (fun _ _ => Nat.le_of_ble_eq_true rfl) (fun p l e s m args below meth c D T ad zz C hr hlk => ?_)
  rw [F_X11_noHorse] at hF
  refine V_iload_n C 1 dX11_noHorse_0 rfl ?_
  refine V_i2l C dX11_noHorse_1 ?_
  refine V_lconst C dX11_noHorse_2 (v := (0 : Int64)) (by decide) ?_
  refine V_aload_n C 0 dX11_noHorse_3 rfl ?_
  refine gf_X11_60 C dX11_noHorse_4 ?_
  refine V_iconst C dX11_noHorse_7 (v := (1 : Int32)) (by decide) ?_
  refine V_isub C dX11_noHorse_8 ?_
  refine V_i2l C dX11_noHorse_9 ?_
  obtain ⟨q1, hq1, hF⟩ := bnd hF
  refine cs_X11_63 C (ct_X11_in hq1) rfl ⟨by decide, by decide⟩ (Nat.le_of_ble_eq_true rfl) dX11_noHorse_10 ⟨Nat.le_refl 0, Nat.le_refl 0⟩ ?_
  refine V_if_ne C 20 dX11_noHorse_13 (by decide) hF (fun hF => ?_) (fun hF => ?_)
  · refine V_iconst C dX11_noHorse_20 (v := (0 : Int32)) (by decide) ?_
    cases hF
    exact V_zret C hr hlk (Or.inl rfl) rfl rfl dX11_noHorse_21
  · refine V_iconst C dX11_noHorse_16 (v := (1 : Int32)) (by decide) ?_
    refine V_goto C 21 dX11_noHorse_17 (by decide) ?_
    cases hF
    exact V_zret C hr hlk (Or.inr rfl) rfl rfl dX11_noHorse_21

def F_X11_noRider (a1 : Int32) (σ : Mem) : Option Int32 :=
  Option.bind (F_X11_in ((a1).toInt64) (0 : Int64) ((((σ.1 24) - (1 : Int32))).toInt64) σ) fun q1 =>
  if q1 = 0 then
    some (1 : Int32)
  else
    some (0 : Int32)
set_option maxHeartbeats 4000000 in
set_option maxRecDepth 20000 in
theorem ct_X11_noRider {a1 : Int32} {σ : Mem} {r : Int32} (hF : F_X11_noRider a1 σ = some r) : Ct yX11_noRider cX11_noRider 2 (some .boolean) 1 25 (fun ad zz => [.ref (ad 11), .int a1]) σ (fun ad => (some (.int r))) σ := by
  refine Ct_of (by decide +kernel) (lv := fun ad zz => [(0, .ref (ad 11)), (1, .int a1)]) (fun _ _ => rfl) (fun _ _ => Nat.le_of_ble_eq_true rfl) (fun p l e s m args below meth c D T ad zz C hr hlk => ?_)
  rw [F_X11_noRider] at hF
  refine V_iload_n C 1 dX11_noRider_0 rfl ?_
  refine V_i2l C dX11_noRider_1 ?_
  refine V_lconst C dX11_noRider_2 (v := (0 : Int64)) (by decide) ?_
  refine V_aload_n C 0 dX11_noRider_3 rfl ?_
  refine gf_X11_67 C dX11_noRider_4 ?_
  refine V_iconst C dX11_noRider_7 (v := (1 : Int32)) (by decide) ?_
  refine V_isub C dX11_noRider_8 ?_
  refine V_i2l C dX11_noRider_9 ?_
  obtain ⟨q1, hq1, hF⟩ := bnd hF
  refine cs_X11_63 C (ct_X11_in hq1) rfl ⟨by decide, by decide⟩ (Nat.le_of_ble_eq_true rfl) dX11_noRider_10 ⟨Nat.le_refl 0, Nat.le_refl 0⟩ ?_
  refine V_if_ne C 20 dX11_noRider_13 (by decide) hF (fun hF => ?_) (fun hF => ?_)
  · refine V_iconst C dX11_noRider_20 (v := (0 : Int32)) (by decide) ?_
    cases hF
    exact V_zret C hr hlk (Or.inl rfl) rfl rfl dX11_noRider_21
  · refine V_iconst C dX11_noRider_16 (v := (1 : Int32)) (by decide) ?_
    refine V_goto C 21 dX11_noRider_17 (by decide) ?_
    cases hF
    exact V_zret C hr hlk (Or.inr rfl) rfl rfl dX11_noRider_21

def F_X11_write (a1 : Int32) (σ : Mem) : Option (Int32 × Mem) :=
  Option.bind (stI σ 20 (0 : Int32)) fun σ1 =>
  Option.bind (F_X11_in ((a1).toInt64) (0 : Int64) (255 : Int64) σ1) fun q2 =>
  if q2 = 0 then
    some ((-2 : Int32), σ1)
  else
    if (σ1.1 21) = (64 : Int32) then
      some ((-4 : Int32), σ1)
    else
      Option.bind (wrA σ1 53 (σ1.1 21) a1) fun σ3 =>
      Option.bind (stI σ3 21 ((σ3.1 21) + (1 : Int32))) fun σ4 =>
      some ((σ4.1 21), σ4)
set_option maxHeartbeats 4000000 in
set_option maxRecDepth 20000 in
theorem ct_X11_write {a1 : Int32} {σ : Mem} {r : (Int32 × Mem)} (hF : F_X11_write a1 σ = some r) : Ct yX11_write cX11_write 2 (some .int) 1 25 (fun ad zz => [.ref (ad 11), .int a1]) σ (fun ad => (some (.int r.1))) r.2 := by
  refine Ct_of (by decide +kernel) (lv := fun ad zz => [(0, .ref (ad 11)), (1, .int a1)]) (fun _ _ => rfl) (fun _ _ => Nat.le_of_ble_eq_true rfl) (fun p l e s m args below meth c D T ad zz C hr hlk => ?_)
  rw [F_X11_write] at hF
  refine V_aload_n C 0 dX11_write_0 rfl ?_
  refine V_iconst C dX11_write_1 (v := (0 : Int32)) (by decide) ?_
  obtain ⟨σ1, hs1, hF⟩ := bnd hF
  refine pf_X11_56 C hs1 dX11_write_2 ?_
  refine V_iload_n C 1 dX11_write_5 rfl ?_
  refine V_i2l C dX11_write_6 ?_
  refine V_lconst C dX11_write_7 (v := (0 : Int64)) (by decide) ?_
  refine V_ldc2 C dX11_write_8 (v := (255 : Int64)) (TB_in 985 (by decide +kernel) (by decide +kernel)) ?_
  obtain ⟨q2, hq2, hF⟩ := bnd hF
  refine cs_X11_63 C (ct_X11_in hq2) rfl ⟨by decide, by decide⟩ (Nat.le_of_ble_eq_true rfl) dX11_write_11 ⟨Nat.le_refl 0, Nat.le_refl 0⟩ ?_
  refine V_if_ne C 20 dX11_write_14 (by decide) hF (fun hF => ?_) (fun hF => ?_)
  · refine V_aload_n C 0 dX11_write_20 rfl ?_
    refine gf_X11_72 C dX11_write_21 ?_
    refine V_bipush C dX11_write_24 (v := (64 : Int32)) (by decide) ?_
    refine V_icmp_ne C 32 dX11_write_26 (by decide) hF (fun hF => ?_) (fun hF => ?_)
    · refine V_aload_n C 0 dX11_write_32 rfl ?_
      refine gf_X11_7 C dX11_write_33 ?_
      refine V_aload_n C 0 dX11_write_36 rfl ?_
      refine gf_X11_72 C dX11_write_37 ?_
      refine V_iload_n C 1 dX11_write_40 rfl ?_
      obtain ⟨σ3, hs3, hF⟩ := bnd hF
      refine V_iast C (by decide) hs3 dX11_write_41 ?_
      refine V_aload_n C 0 dX11_write_42 rfl ?_
      refine V_dup C dX11_write_43 rfl ?_
      refine gf_X11_72 C dX11_write_44 ?_
      refine V_iconst C dX11_write_47 (v := (1 : Int32)) (by decide) ?_
      refine V_iadd C dX11_write_48 ?_
      obtain ⟨σ4, hs4, hF⟩ := bnd hF
      refine pf_X11_72 C hs4 dX11_write_49 ?_
      refine V_aload_n C 0 dX11_write_52 rfl ?_
      refine gf_X11_72 C dX11_write_53 ?_
      cases hF
      exact V_iret C hr hlk rfl rfl dX11_write_56
    · refine V_bipush C dX11_write_29 (v := (-4 : Int32)) (by decide) ?_
      cases hF
      exact V_iret C hr hlk rfl rfl dX11_write_31
  · refine V_bipush C dX11_write_17 (v := (-2 : Int32)) (by decide) ?_
    cases hF
    exact V_iret C hr hlk rfl rfl dX11_write_19

def F_X11_wipe (σ : Mem) : Option (Int32 × Mem) :=
  Option.bind (stI σ 20 (0 : Int32)) fun σ1 =>
  Option.bind (stI σ1 21 (0 : Int32)) fun σ2 =>
  some ((σ1.1 21), σ2)
set_option maxHeartbeats 4000000 in
set_option maxRecDepth 20000 in
theorem ct_X11_wipe {σ : Mem} {r : (Int32 × Mem)} (hF : F_X11_wipe σ = some r) : Ct yX11_wipe cX11_wipe 2 (some .int) 0 0 (fun ad zz => [.ref (ad 11)]) σ (fun ad => (some (.int r.1))) r.2 := by
  refine Ct_of (by decide +kernel) (lv := fun ad zz => [(0, .ref (ad 11))]) (fun _ _ => rfl) (fun _ _ => Nat.le_of_ble_eq_true rfl) (fun p l e s m args below meth c D T ad zz C hr hlk => ?_)
  rw [F_X11_wipe] at hF
  refine V_aload_n C 0 dX11_wipe_0 rfl ?_
  refine V_iconst C dX11_wipe_1 (v := (0 : Int32)) (by decide) ?_
  obtain ⟨σ1, hs1, hF⟩ := bnd hF
  refine pf_X11_56 C hs1 dX11_wipe_2 ?_
  refine V_aload_n C 0 dX11_wipe_5 rfl ?_
  refine gf_X11_72 C dX11_wipe_6 ?_
  refine V_istore_n C (lv' := [(1, .int (σ1.1 21)), (0, .ref (ad 11))]) dX11_wipe_9 rfl (by decide) rfl ?_
  refine V_aload_n C 1 dX11_wipe_10 rfl ?_
  refine V_iconst C dX11_wipe_11 (v := (0 : Int32)) (by decide) ?_
  obtain ⟨σ2, hs2, hF⟩ := bnd hF
  refine pf_X11_72 C hs2 dX11_wipe_12 ?_
  refine V_iload_n C 0 dX11_wipe_15 rfl ?_
  cases hF
  exact V_iret C hr hlk rfl rfl dX11_wipe_16

def F_X11_figure (a1 : Int32) (a2 : Int32) (σ : Mem) : Option (Int32 × Mem) :=
  if (σ.1 22) = (σ.1 21) then
    some ((-9 : Int32), σ)
  else
    Option.bind (rdA σ 53 (σ.1 22)) fun v1 =>
    Option.bind (F_X11_in (((v1 - (48 : Int32))).toInt64) ((a1).toInt64) ((a2).toInt64) σ) fun q2 =>
    if q2 = 0 then
      some ((-9 : Int32), σ)
    else
      Option.bind (stI σ 22 ((σ.1 22) + (1 : Int32))) fun σ3 =>
      Option.bind (rdA σ3 53 ((σ3.1 22) - (1 : Int32))) fun v4 =>
      some ((v4 - (48 : Int32)), σ3)
set_option maxHeartbeats 4000000 in
set_option maxRecDepth 20000 in
theorem ct_X11_figure {a1 : Int32} {a2 : Int32} {σ : Mem} {r : (Int32 × Mem)} (hF : F_X11_figure a1 a2 σ = some r) : Ct yX11_figure cX11_figure 3 (some .int) 1 25 (fun ad zz => [.ref (ad 11), .int a1, .int a2]) σ (fun ad => (some (.int r.1))) r.2 := by
  refine Ct_of (by decide +kernel) (lv := fun ad zz => [(0, .ref (ad 11)), (1, .int a1), (2, .int a2)]) (fun _ _ => rfl) (fun _ _ => Nat.le_of_ble_eq_true rfl) (fun p l e s m args below meth c D T ad zz C hr hlk => ?_)
  rw [F_X11_figure] at hF
  refine V_aload_n C 0 dX11_figure_0 rfl ?_
  refine gf_X11_75 C dX11_figure_1 ?_
  refine V_aload_n C 0 dX11_figure_4 rfl ?_
  refine gf_X11_72 C dX11_figure_5 ?_
  refine V_icmp_eq C 34 dX11_figure_8 (by decide) hF (fun hF => ?_) (fun hF => ?_)
  · refine V_bipush C dX11_figure_34 (v := (-9 : Int32)) (by decide) ?_
    cases hF
    exact V_iret C hr hlk rfl rfl dX11_figure_36
  · refine V_aload_n C 0 dX11_figure_11 rfl ?_
    refine gf_X11_7 C dX11_figure_12 ?_
    refine V_aload_n C 0 dX11_figure_15 rfl ?_
    refine gf_X11_75 C dX11_figure_16 ?_
    obtain ⟨v1, hv1, hF⟩ := bnd hF
    refine V_iald C (by decide) hv1 dX11_figure_19 ?_
    refine V_bipush C dX11_figure_20 (v := (48 : Int32)) (by decide) ?_
    refine V_isub C dX11_figure_22 ?_
    refine V_i2l C dX11_figure_23 ?_
    refine V_iload_n C 1 dX11_figure_24 rfl ?_
    refine V_i2l C dX11_figure_25 ?_
    refine V_iload_n C 2 dX11_figure_26 rfl ?_
    refine V_i2l C dX11_figure_27 ?_
    obtain ⟨q2, hq2, hF⟩ := bnd hF
    refine cs_X11_63 C (ct_X11_in hq2) rfl ⟨by decide, by decide⟩ (Nat.le_of_ble_eq_true rfl) dX11_figure_28 ⟨Nat.le_refl 0, Nat.le_refl 0⟩ ?_
    refine V_if_ne C 37 dX11_figure_31 (by decide) hF (fun hF => ?_) (fun hF => ?_)
    · refine V_aload_n C 0 dX11_figure_37 rfl ?_
      refine V_dup C dX11_figure_38 rfl ?_
      refine gf_X11_75 C dX11_figure_39 ?_
      refine V_iconst C dX11_figure_42 (v := (1 : Int32)) (by decide) ?_
      refine V_iadd C dX11_figure_43 ?_
      obtain ⟨σ3, hs3, hF⟩ := bnd hF
      refine pf_X11_75 C hs3 dX11_figure_44 ?_
      refine V_aload_n C 0 dX11_figure_47 rfl ?_
      refine gf_X11_7 C dX11_figure_48 ?_
      refine V_aload_n C 0 dX11_figure_51 rfl ?_
      refine gf_X11_75 C dX11_figure_52 ?_
      refine V_iconst C dX11_figure_55 (v := (1 : Int32)) (by decide) ?_
      refine V_isub C dX11_figure_56 ?_
      obtain ⟨v4, hv4, hF⟩ := bnd hF
      refine V_iald C (by decide) hv4 dX11_figure_57 ?_
      refine V_bipush C dX11_figure_58 (v := (48 : Int32)) (by decide) ?_
      refine V_isub C dX11_figure_60 ?_
      cases hF
      exact V_iret C hr hlk rfl rfl dX11_figure_61
    · refine V_bipush C dX11_figure_34 (v := (-9 : Int32)) (by decide) ?_
      cases hF
      exact V_iret C hr hlk rfl rfl dX11_figure_36

def F_X11_readHorse_b94 (kL12 : Int32 → Int32 → Int32 → Mem → Option (Int32 × Mem)) (x1 : Int32) (x2 : Int32) (x3 : Int32) (y0 : Int32) (σ : Mem) : Option (Int32 × Mem) :=
  if y0 = (-9 : Int32) then
    some ((0 : Int32), σ)
  else
    if (6 : Int32) ≤ x3 then
      Option.bind (wrA σ 56 (x1 + (6 : Int32)) (((10 : Int32) * x2) + y0)) fun σ3 =>
      kL12 x1 y0 (x3 + 1) σ3
    else
      Option.bind (wrA σ 56 (x1 + x3) y0) fun σ4 =>
      kL12 x1 x2 (x3 + 1) σ4
def F_X11_readHorse_b12  : Nat → Int32 → Int32 → Int32 → Mem → Option (Int32 × Mem)
  | 0, _, _, _, _ => none
  | n + 1, x1, x2, x3, σ =>
    if (8 : Int32) ≤ x3 then
      Option.bind (stI σ 25 ((σ.1 25) + (1 : Int32))) fun σ1 =>
      some ((1 : Int32), σ1)
    else
      if x3 = 0 then
        Option.bind (F_X11_figure (1 : Int32) (3 : Int32) σ) fun q9 =>
        F_X11_readHorse_b94 (F_X11_readHorse_b12 n) x1 x2 x3 q9.1 q9.2
      else
        if (4 : Int32) ≤ x3 then
          if (6 : Int32) ≤ x3 then
            if x3 = (6 : Int32) then
              Option.bind (F_X11_figure (0 : Int32) (8 : Int32) σ) fun q6 =>
              F_X11_readHorse_b94 (F_X11_readHorse_b12 n) x1 x2 x3 q6.1 q6.2
            else
              if x2 = (8 : Int32) then
                Option.bind (F_X11_figure (0 : Int32) (1 : Int32) σ) fun q5 =>
                F_X11_readHorse_b94 (F_X11_readHorse_b12 n) x1 x2 x3 q5.1 q5.2
              else
                Option.bind (F_X11_figure (0 : Int32) (9 : Int32) σ) fun q2 =>
                F_X11_readHorse_b94 (F_X11_readHorse_b12 n) x1 x2 x3 q2.1 q2.2
          else
            Option.bind (F_X11_figure (0 : Int32) (9 : Int32) σ) fun q7 =>
            F_X11_readHorse_b94 (F_X11_readHorse_b12 n) x1 x2 x3 q7.1 q7.2
        else
          Option.bind (F_X11_figure (0 : Int32) (3 : Int32) σ) fun q8 =>
          F_X11_readHorse_b94 (F_X11_readHorse_b12 n) x1 x2 x3 q8.1 q8.2
def F_X11_readHorse (σ : Mem) : Option (Int32 × Mem) :=
  F_X11_readHorse_b12 4000 ((7 : Int32) * (σ.1 25)) (0 : Int32) (0 : Int32) σ
set_option maxHeartbeats 4000000 in
set_option maxRecDepth 20000 in
theorem w_X11_readHorse_b94 {p : Program} {l : Launch} {e : Env} {s : State} {m : MethodId} {args : Array Value} {below : List Frame} {meth : Method} {c : Code} {D : va_G} {T : Nat → ClassId} {ad zz : Nat → Nat} (C : Cx p s m c cX11_readHorse 5 RX11 (fA ad) D T ad zz) (hr : meth.sig.returnType = (some .boolean)) (hlk : meth.locks = false) {r : (Int32 × Mem)} (kL12 : Int32 → Int32 → Int32 → Mem → Option (Int32 × Mem)) (hL12 : ∀ (x1 : Int32) (x2 : Int32) (x3 : Int32) (σ : Mem), kL12 x1 x2 x3 σ = some r → V p l e { frames := 2, cells := 0, slots := 0, locals := 47 } s m args below meth c 0 0 (MQ below (qC (some (.int r.1)) r.2 D T ad) args s 0 0 (fA ad)) 5 (fA ad) D T ad σ 12 [(0, .ref (ad 11)), (1, .int x1), (2, .int x2), (3, .int x3)] []) (x1 : Int32) (x2 : Int32) (x3 : Int32) (y0 : Int32) (σ : Mem) (hF : F_X11_readHorse_b94 kL12 x1 x2 x3 y0 σ = some r) : V p l e { frames := 2, cells := 0, slots := 0, locals := 47 } s m args below meth c 0 0 (MQ below (qC (some (.int r.1)) r.2 D T ad) args s 0 0 (fA ad)) 5 (fA ad) D T ad σ 94 [(0, .ref (ad 11)), (1, .int x1), (2, .int x2), (3, .int x3)] [.int y0] := by
  rw [F_X11_readHorse_b94] at hF
  refine V_istore C (lv' := [(4, .int y0), (0, .ref (ad 11)), (1, .int x1), (2, .int x2), (3, .int x3)]) dX11_readHorse_94 (by decide) rfl ?_
  refine V_iload C 0 dX11_readHorse_96 rfl ?_
  refine V_bipush C dX11_readHorse_98 (v := (-9 : Int32)) (by decide) ?_
  refine V_icmp_ne C 105 dX11_readHorse_100 (by decide) hF (fun hF => ?_) (fun hF => ?_)
  · refine V_iload_n C 4 dX11_readHorse_105 rfl ?_
    refine V_bipush C dX11_readHorse_106 (v := (6 : Int32)) (by decide) ?_
    refine V_icmp_ge C 124 dX11_readHorse_108 (by decide) hF (fun hF => ?_) (fun hF => ?_)
    · refine V_aload_n C 1 dX11_readHorse_124 rfl ?_
      refine gf_X11_19 C dX11_readHorse_125 ?_
      refine V_iload_n C 2 dX11_readHorse_128 rfl ?_
      refine V_bipush C dX11_readHorse_129 (v := (6 : Int32)) (by decide) ?_
      refine V_iadd C dX11_readHorse_131 ?_
      refine V_bipush C dX11_readHorse_132 (v := (10 : Int32)) (by decide) ?_
      refine V_iload_n C 3 dX11_readHorse_134 rfl ?_
      refine V_imul C dX11_readHorse_135 ?_
      refine V_iload C 0 dX11_readHorse_136 rfl ?_
      refine V_iadd C dX11_readHorse_138 ?_
      obtain ⟨σ3, hs3, hF⟩ := bnd hF
      refine V_iast C (by decide) hs3 dX11_readHorse_139 ?_
      refine V_iload C 0 dX11_readHorse_140 rfl ?_
      refine V_istore_n C (lv' := [(2, .int y0), (4, .int y0), (0, .ref (ad 11)), (1, .int x1), (3, .int x3)]) dX11_readHorse_142 rfl (by decide) rfl ?_
      refine V_iinc C (v := (x3 + 1)) (lv' := [(3, .int (x3 + 1)), (2, .int y0), (4, .int y0), (0, .ref (ad 11)), (1, .int x1)]) 4 dX11_readHorse_143 rfl rfl (by decide) rfl ?_
      refine V_goto C 12 dX11_readHorse_146 (by decide) ?_
      refine V_lv (ks := [3, 4, 1, 0]) rfl ?_
      exact hL12 x1 y0 (x3 + 1) σ3 hF
    · refine V_aload_n C 1 dX11_readHorse_111 rfl ?_
      refine gf_X11_19 C dX11_readHorse_112 ?_
      refine V_iload_n C 2 dX11_readHorse_115 rfl ?_
      refine V_iload_n C 4 dX11_readHorse_116 rfl ?_
      refine V_iadd C dX11_readHorse_117 ?_
      refine V_iload C 0 dX11_readHorse_118 rfl ?_
      obtain ⟨σ4, hs4, hF⟩ := bnd hF
      refine V_iast C (by decide) hs4 dX11_readHorse_120 ?_
      refine V_goto C 143 dX11_readHorse_121 (by decide) ?_
      refine V_iinc C (v := (x3 + 1)) (lv' := [(3, .int (x3 + 1)), (4, .int y0), (0, .ref (ad 11)), (1, .int x1), (2, .int x2)]) 4 dX11_readHorse_143 rfl rfl (by decide) rfl ?_
      refine V_goto C 12 dX11_readHorse_146 (by decide) ?_
      refine V_lv (ks := [2, 3, 4, 0]) rfl ?_
      exact hL12 x1 x2 (x3 + 1) σ4 hF
  · refine V_iconst C dX11_readHorse_103 (v := (0 : Int32)) (by decide) ?_
    cases hF
    exact V_zret C hr hlk (Or.inl rfl) rfl rfl dX11_readHorse_104
set_option maxHeartbeats 4000000 in
set_option maxRecDepth 20000 in
theorem w_X11_readHorse_b12 {p : Program} {l : Launch} {e : Env} {s : State} {m : MethodId} {args : Array Value} {below : List Frame} {meth : Method} {c : Code} {D : va_G} {T : Nat → ClassId} {ad zz : Nat → Nat} (C : Cx p s m c cX11_readHorse 5 RX11 (fA ad) D T ad zz) (hr : meth.sig.returnType = (some .boolean)) (hlk : meth.locks = false) {r : (Int32 × Mem)}  : ∀ (n : Nat), ∀ (x1 : Int32) (x2 : Int32) (x3 : Int32) (σ : Mem), F_X11_readHorse_b12  n x1 x2 x3 σ = some r → V p l e { frames := 2, cells := 0, slots := 0, locals := 47 } s m args below meth c 0 0 (MQ below (qC (some (.int r.1)) r.2 D T ad) args s 0 0 (fA ad)) 5 (fA ad) D T ad σ 12 [(0, .ref (ad 11)), (1, .int x1), (2, .int x2), (3, .int x3)] [] := by
  intro n
  induction n with
  | zero =>
    intro x1 x2 x3 σ hF
    cases (show (none : Option (Int32 × Mem)) = some r from hF)
  | succ n ih =>
    intro x1 x2 x3 σ hF
    rw [F_X11_readHorse_b12] at hF
    refine V_iload_n C 3 dX11_readHorse_12 rfl ?_
    refine V_bipush C dX11_readHorse_13 (v := (8 : Int32)) (by decide) ?_
    refine V_icmp_ge C 149 dX11_readHorse_15 (by decide) hF (fun hF => ?_) (fun hF => ?_)
    · refine V_aload_n C 0 dX11_readHorse_149 rfl ?_
      refine V_dup C dX11_readHorse_150 rfl ?_
      refine gf_X11_78 C dX11_readHorse_151 ?_
      refine V_iconst C dX11_readHorse_154 (v := (1 : Int32)) (by decide) ?_
      refine V_iadd C dX11_readHorse_155 ?_
      obtain ⟨σ1, hs1, hF⟩ := bnd hF
      refine pf_X11_78 C hs1 dX11_readHorse_156 ?_
      refine V_iconst C dX11_readHorse_159 (v := (1 : Int32)) (by decide) ?_
      cases hF
      exact V_zret C hr hlk (Or.inr rfl) rfl rfl dX11_readHorse_160
    · refine V_iload_n C 3 dX11_readHorse_18 rfl ?_
      refine V_if_ne C 31 dX11_readHorse_19 (by decide) hF (fun hF => ?_) (fun hF => ?_)
      · refine V_iload_n C 3 dX11_readHorse_31 rfl ?_
        refine V_iconst C dX11_readHorse_32 (v := (4 : Int32)) (by decide) ?_
        refine V_icmp_ge C 45 dX11_readHorse_33 (by decide) hF (fun hF => ?_) (fun hF => ?_)
        · refine V_iload_n C 3 dX11_readHorse_45 rfl ?_
          refine V_bipush C dX11_readHorse_46 (v := (6 : Int32)) (by decide) ?_
          refine V_icmp_ge C 61 dX11_readHorse_48 (by decide) hF (fun hF => ?_) (fun hF => ?_)
          · refine V_iload_n C 3 dX11_readHorse_61 rfl ?_
            refine V_bipush C dX11_readHorse_62 (v := (6 : Int32)) (by decide) ?_
            refine V_icmp_ne C 77 dX11_readHorse_64 (by decide) hF (fun hF => ?_) (fun hF => ?_)
            · refine V_aload_n C 0 dX11_readHorse_77 rfl ?_
              refine V_iconst C dX11_readHorse_78 (v := (0 : Int32)) (by decide) ?_
              refine V_iload_n C 2 dX11_readHorse_79 rfl ?_
              refine V_bipush C dX11_readHorse_80 (v := (8 : Int32)) (by decide) ?_
              refine V_icmp_ne C 89 dX11_readHorse_82 (by decide) hF (fun hF => ?_) (fun hF => ?_)
              · refine V_bipush C dX11_readHorse_89 (v := (9 : Int32)) (by decide) ?_
                obtain ⟨q2, hq2, hF⟩ := bnd hF
                refine cs_X11_81 C (ct_X11_figure hq2) rfl ⟨by decide, by decide⟩ (Nat.le_of_ble_eq_true rfl) dX11_readHorse_91 ⟨Nat.le_refl 0, Nat.le_refl 0⟩ ?_
                exact w_X11_readHorse_b94 C hr hlk (F_X11_readHorse_b12 n) ih x1 x2 x3 q2.1 q2.2 hF
              · refine V_iconst C dX11_readHorse_85 (v := (1 : Int32)) (by decide) ?_
                refine V_goto C 91 dX11_readHorse_86 (by decide) ?_
                obtain ⟨q5, hq5, hF⟩ := bnd hF
                refine cs_X11_81 C (ct_X11_figure hq5) rfl ⟨by decide, by decide⟩ (Nat.le_of_ble_eq_true rfl) dX11_readHorse_91 ⟨Nat.le_refl 0, Nat.le_refl 0⟩ ?_
                exact w_X11_readHorse_b94 C hr hlk (F_X11_readHorse_b12 n) ih x1 x2 x3 q5.1 q5.2 hF
            · refine V_aload_n C 0 dX11_readHorse_67 rfl ?_
              refine V_iconst C dX11_readHorse_68 (v := (0 : Int32)) (by decide) ?_
              refine V_bipush C dX11_readHorse_69 (v := (8 : Int32)) (by decide) ?_
              obtain ⟨q6, hq6, hF⟩ := bnd hF
              refine cs_X11_81 C (ct_X11_figure hq6) rfl ⟨by decide, by decide⟩ (Nat.le_of_ble_eq_true rfl) dX11_readHorse_71 ⟨Nat.le_refl 0, Nat.le_refl 0⟩ ?_
              refine V_goto C 94 dX11_readHorse_74 (by decide) ?_
              exact w_X11_readHorse_b94 C hr hlk (F_X11_readHorse_b12 n) ih x1 x2 x3 q6.1 q6.2 hF
          · refine V_aload_n C 0 dX11_readHorse_51 rfl ?_
            refine V_iconst C dX11_readHorse_52 (v := (0 : Int32)) (by decide) ?_
            refine V_bipush C dX11_readHorse_53 (v := (9 : Int32)) (by decide) ?_
            obtain ⟨q7, hq7, hF⟩ := bnd hF
            refine cs_X11_81 C (ct_X11_figure hq7) rfl ⟨by decide, by decide⟩ (Nat.le_of_ble_eq_true rfl) dX11_readHorse_55 ⟨Nat.le_refl 0, Nat.le_refl 0⟩ ?_
            refine V_goto C 94 dX11_readHorse_58 (by decide) ?_
            exact w_X11_readHorse_b94 C hr hlk (F_X11_readHorse_b12 n) ih x1 x2 x3 q7.1 q7.2 hF
        · refine V_aload_n C 0 dX11_readHorse_36 rfl ?_
          refine V_iconst C dX11_readHorse_37 (v := (0 : Int32)) (by decide) ?_
          refine V_iconst C dX11_readHorse_38 (v := (3 : Int32)) (by decide) ?_
          obtain ⟨q8, hq8, hF⟩ := bnd hF
          refine cs_X11_81 C (ct_X11_figure hq8) rfl ⟨by decide, by decide⟩ (Nat.le_of_ble_eq_true rfl) dX11_readHorse_39 ⟨Nat.le_refl 0, Nat.le_refl 0⟩ ?_
          refine V_goto C 94 dX11_readHorse_42 (by decide) ?_
          exact w_X11_readHorse_b94 C hr hlk (F_X11_readHorse_b12 n) ih x1 x2 x3 q8.1 q8.2 hF
      · refine V_aload_n C 0 dX11_readHorse_22 rfl ?_
        refine V_iconst C dX11_readHorse_23 (v := (1 : Int32)) (by decide) ?_
        refine V_iconst C dX11_readHorse_24 (v := (3 : Int32)) (by decide) ?_
        obtain ⟨q9, hq9, hF⟩ := bnd hF
        refine cs_X11_81 C (ct_X11_figure hq9) rfl ⟨by decide, by decide⟩ (Nat.le_of_ble_eq_true rfl) dX11_readHorse_25 ⟨Nat.le_refl 0, Nat.le_refl 0⟩ ?_
        refine V_goto C 94 dX11_readHorse_28 (by decide) ?_
        exact w_X11_readHorse_b94 C hr hlk (F_X11_readHorse_b12 n) ih x1 x2 x3 q9.1 q9.2 hF
set_option maxHeartbeats 4000000 in
set_option maxRecDepth 20000 in
theorem ct_X11_readHorse {σ : Mem} {r : (Int32 × Mem)} (hF : F_X11_readHorse σ = some r) : Ct yX11_readHorse cX11_readHorse 5 (some .boolean) 2 47 (fun ad zz => [.ref (ad 11)]) σ (fun ad => (some (.int r.1))) r.2 := by
  refine Ct_of (by decide +kernel) (lv := fun ad zz => [(0, .ref (ad 11))]) (fun _ _ => rfl) (fun _ _ => Nat.le_of_ble_eq_true rfl) (fun p l e s m args below meth c D T ad zz C hr hlk => ?_)
  rw [F_X11_readHorse] at hF
  refine V_bipush C dX11_readHorse_0 (v := (7 : Int32)) (by decide) ?_
  refine V_aload_n C 0 dX11_readHorse_2 rfl ?_
  refine gf_X11_78 C dX11_readHorse_3 ?_
  refine V_imul C dX11_readHorse_6 ?_
  refine V_istore_n C (lv' := [(1, .int ((7 : Int32) * (σ.1 25))), (0, .ref (ad 11))]) dX11_readHorse_7 rfl (by decide) rfl ?_
  refine V_iconst C dX11_readHorse_8 (v := (0 : Int32)) (by decide) ?_
  refine V_istore_n C (lv' := [(2, .int (0 : Int32)), (1, .int ((7 : Int32) * (σ.1 25))), (0, .ref (ad 11))]) dX11_readHorse_9 rfl (by decide) rfl ?_
  refine V_iconst C dX11_readHorse_10 (v := (0 : Int32)) (by decide) ?_
  refine V_istore_n C (lv' := [(3, .int (0 : Int32)), (2, .int (0 : Int32)), (1, .int ((7 : Int32) * (σ.1 25))), (0, .ref (ad 11))]) dX11_readHorse_11 rfl (by decide) rfl ?_
  refine V_lv (ks := [3, 2, 1, 0]) rfl ?_
  exact w_X11_readHorse_b12 C hr hlk 4000 ((7 : Int32) * (σ.1 25)) (0 : Int32) (0 : Int32) σ hF

def F_X11_readRider_b2  : Nat → Int32 → Mem → Option (Int32 × Mem)
  | 0, _, _ => none
  | n + 1, x1, σ =>
    if (4 : Int32) ≤ x1 then
      Option.bind (stI σ 26 ((σ.1 26) + (1 : Int32))) fun σ1 =>
      some ((1 : Int32), σ1)
    else
      if (3 : Int32) ≤ x1 then
        Option.bind (F_X11_figure (0 : Int32) (3 : Int32) σ) fun q2 =>
        if q2.1 = (-9 : Int32) then
          some ((0 : Int32), q2.2)
        else
          Option.bind (wrA q2.2 57 (((4 : Int32) * (q2.2.1 26)) + x1) q2.1) fun σ3 =>
          (F_X11_readRider_b2 n) (x1 + 1) σ3
      else
        Option.bind (F_X11_figure (0 : Int32) (9 : Int32) σ) fun q4 =>
        if q4.1 = (-9 : Int32) then
          some ((0 : Int32), q4.2)
        else
          Option.bind (wrA q4.2 57 (((4 : Int32) * (q4.2.1 26)) + x1) q4.1) fun σ5 =>
          (F_X11_readRider_b2 n) (x1 + 1) σ5
def F_X11_readRider (σ : Mem) : Option (Int32 × Mem) :=
  F_X11_readRider_b2 4000 (0 : Int32) σ
set_option maxHeartbeats 4000000 in
set_option maxRecDepth 20000 in
theorem w_X11_readRider_b2 {p : Program} {l : Launch} {e : Env} {s : State} {m : MethodId} {args : Array Value} {below : List Frame} {meth : Method} {c : Code} {D : va_G} {T : Nat → ClassId} {ad zz : Nat → Nat} (C : Cx p s m c cX11_readRider 3 RX11 (fA ad) D T ad zz) (hr : meth.sig.returnType = (some .boolean)) (hlk : meth.locks = false) {r : (Int32 × Mem)}  : ∀ (n : Nat), ∀ (x1 : Int32) (σ : Mem), F_X11_readRider_b2  n x1 σ = some r → V p l e { frames := 2, cells := 0, slots := 0, locals := 47 } s m args below meth c 0 0 (MQ below (qC (some (.int r.1)) r.2 D T ad) args s 0 0 (fA ad)) 3 (fA ad) D T ad σ 2 [(0, .ref (ad 11)), (1, .int x1)] [] := by
  intro n
  induction n with
  | zero =>
    intro x1 σ hF
    cases (show (none : Option (Int32 × Mem)) = some r from hF)
  | succ n ih =>
    intro x1 σ hF
    rw [F_X11_readRider_b2] at hF
    refine V_iload_n C 1 dX11_readRider_2 rfl ?_
    refine V_iconst C dX11_readRider_3 (v := (4 : Int32)) (by decide) ?_
    refine V_icmp_ge C 57 dX11_readRider_4 (by decide) hF (fun hF => ?_) (fun hF => ?_)
    · refine V_aload_n C 0 dX11_readRider_57 rfl ?_
      refine V_dup C dX11_readRider_58 rfl ?_
      refine gf_X11_85 C dX11_readRider_59 ?_
      refine V_iconst C dX11_readRider_62 (v := (1 : Int32)) (by decide) ?_
      refine V_iadd C dX11_readRider_63 ?_
      obtain ⟨σ1, hs1, hF⟩ := bnd hF
      refine pf_X11_85 C hs1 dX11_readRider_64 ?_
      refine V_iconst C dX11_readRider_67 (v := (1 : Int32)) (by decide) ?_
      cases hF
      exact V_zret C hr hlk (Or.inr rfl) rfl rfl dX11_readRider_68
    · refine V_iload_n C 1 dX11_readRider_7 rfl ?_
      refine V_iconst C dX11_readRider_8 (v := (3 : Int32)) (by decide) ?_
      refine V_icmp_ge C 22 dX11_readRider_9 (by decide) hF (fun hF => ?_) (fun hF => ?_)
      · refine V_aload_n C 0 dX11_readRider_22 rfl ?_
        refine V_iconst C dX11_readRider_23 (v := (0 : Int32)) (by decide) ?_
        refine V_iconst C dX11_readRider_24 (v := (3 : Int32)) (by decide) ?_
        obtain ⟨q2, hq2, hF⟩ := bnd hF
        refine cs_X11_81 C (ct_X11_figure hq2) rfl ⟨by decide, by decide⟩ (Nat.le_of_ble_eq_true rfl) dX11_readRider_25 ⟨Nat.le_refl 0, Nat.le_refl 0⟩ ?_
        refine V_istore_n C (lv' := [(2, .int q2.1), (0, .ref (ad 11)), (1, .int x1)]) dX11_readRider_28 rfl (by decide) rfl ?_
        refine V_iload_n C 0 dX11_readRider_29 rfl ?_
        refine V_bipush C dX11_readRider_30 (v := (-9 : Int32)) (by decide) ?_
        refine V_icmp_ne C 37 dX11_readRider_32 (by decide) hF (fun hF => ?_) (fun hF => ?_)
        · refine V_aload_n C 1 dX11_readRider_37 rfl ?_
          refine gf_X11_22 C dX11_readRider_38 ?_
          refine V_iconst C dX11_readRider_41 (v := (4 : Int32)) (by decide) ?_
          refine V_aload_n C 1 dX11_readRider_42 rfl ?_
          refine gf_X11_85 C dX11_readRider_43 ?_
          refine V_imul C dX11_readRider_46 ?_
          refine V_iload_n C 2 dX11_readRider_47 rfl ?_
          refine V_iadd C dX11_readRider_48 ?_
          refine V_iload_n C 0 dX11_readRider_49 rfl ?_
          obtain ⟨σ3, hs3, hF⟩ := bnd hF
          refine V_iast C (by decide) hs3 dX11_readRider_50 ?_
          refine V_iinc C (v := (x1 + 1)) (lv' := [(1, .int (x1 + 1)), (2, .int q2.1), (0, .ref (ad 11))]) 2 dX11_readRider_51 rfl rfl (by decide) rfl ?_
          refine V_goto C 2 dX11_readRider_54 (by decide) ?_
          refine V_lv (ks := [2, 0]) rfl ?_
          exact ih (x1 + 1) σ3 hF
        · refine V_iconst C dX11_readRider_35 (v := (0 : Int32)) (by decide) ?_
          cases hF
          exact V_zret C hr hlk (Or.inl rfl) rfl rfl dX11_readRider_36
      · refine V_aload_n C 0 dX11_readRider_12 rfl ?_
        refine V_iconst C dX11_readRider_13 (v := (0 : Int32)) (by decide) ?_
        refine V_bipush C dX11_readRider_14 (v := (9 : Int32)) (by decide) ?_
        obtain ⟨q4, hq4, hF⟩ := bnd hF
        refine cs_X11_81 C (ct_X11_figure hq4) rfl ⟨by decide, by decide⟩ (Nat.le_of_ble_eq_true rfl) dX11_readRider_16 ⟨Nat.le_refl 0, Nat.le_refl 0⟩ ?_
        refine V_goto C 28 dX11_readRider_19 (by decide) ?_
        refine V_istore_n C (lv' := [(2, .int q4.1), (0, .ref (ad 11)), (1, .int x1)]) dX11_readRider_28 rfl (by decide) rfl ?_
        refine V_iload_n C 0 dX11_readRider_29 rfl ?_
        refine V_bipush C dX11_readRider_30 (v := (-9 : Int32)) (by decide) ?_
        refine V_icmp_ne C 37 dX11_readRider_32 (by decide) hF (fun hF => ?_) (fun hF => ?_)
        · refine V_aload_n C 1 dX11_readRider_37 rfl ?_
          refine gf_X11_22 C dX11_readRider_38 ?_
          refine V_iconst C dX11_readRider_41 (v := (4 : Int32)) (by decide) ?_
          refine V_aload_n C 1 dX11_readRider_42 rfl ?_
          refine gf_X11_85 C dX11_readRider_43 ?_
          refine V_imul C dX11_readRider_46 ?_
          refine V_iload_n C 2 dX11_readRider_47 rfl ?_
          refine V_iadd C dX11_readRider_48 ?_
          refine V_iload_n C 0 dX11_readRider_49 rfl ?_
          obtain ⟨σ5, hs5, hF⟩ := bnd hF
          refine V_iast C (by decide) hs5 dX11_readRider_50 ?_
          refine V_iinc C (v := (x1 + 1)) (lv' := [(1, .int (x1 + 1)), (2, .int q4.1), (0, .ref (ad 11))]) 2 dX11_readRider_51 rfl rfl (by decide) rfl ?_
          refine V_goto C 2 dX11_readRider_54 (by decide) ?_
          refine V_lv (ks := [2, 0]) rfl ?_
          exact ih (x1 + 1) σ5 hF
        · refine V_iconst C dX11_readRider_35 (v := (0 : Int32)) (by decide) ?_
          cases hF
          exact V_zret C hr hlk (Or.inl rfl) rfl rfl dX11_readRider_36
set_option maxHeartbeats 4000000 in
set_option maxRecDepth 20000 in
theorem ct_X11_readRider {σ : Mem} {r : (Int32 × Mem)} (hF : F_X11_readRider σ = some r) : Ct yX11_readRider cX11_readRider 3 (some .boolean) 2 47 (fun ad zz => [.ref (ad 11)]) σ (fun ad => (some (.int r.1))) r.2 := by
  refine Ct_of (by decide +kernel) (lv := fun ad zz => [(0, .ref (ad 11))]) (fun _ _ => rfl) (fun _ _ => Nat.le_of_ble_eq_true rfl) (fun p l e s m args below meth c D T ad zz C hr hlk => ?_)
  rw [F_X11_readRider] at hF
  refine V_iconst C dX11_readRider_0 (v := (0 : Int32)) (by decide) ?_
  refine V_istore_n C (lv' := [(1, .int (0 : Int32)), (0, .ref (ad 11))]) dX11_readRider_1 rfl (by decide) rfl ?_
  refine V_lv (ks := [1, 0]) rfl ?_
  exact w_X11_readRider_b2 C hr hlk 4000 (0 : Int32) σ hF

def F_X11_readPart (σ : Mem) : Option (Int32 × Mem) :=
  Option.bind (rdA σ 53 (σ.1 22)) fun v1 =>
  if v1 = (72 : Int32) then
    if (4 : Int32) ≤ (σ.1 25) then
      if v1 = (82 : Int32) then
        if (5 : Int32) ≤ (σ.1 26) then
          some ((0 : Int32), σ)
        else
          Option.bind (stI σ 22 ((σ.1 22) + (1 : Int32))) fun σ5 =>
          Option.bind (F_X11_readRider σ5) fun q6 =>
          Option.bind (bz q6.1) fun b7 =>
          some (b7, q6.2)
      else
        some ((0 : Int32), σ)
    else
      Option.bind (stI σ 22 ((σ.1 22) + (1 : Int32))) fun σ8 =>
      Option.bind (F_X11_readHorse σ8) fun q9 =>
      Option.bind (bz q9.1) fun b10 =>
      some (b10, q9.2)
  else
    if v1 = (82 : Int32) then
      if (5 : Int32) ≤ (σ.1 26) then
        some ((0 : Int32), σ)
      else
        Option.bind (stI σ 22 ((σ.1 22) + (1 : Int32))) fun σ2 =>
        Option.bind (F_X11_readRider σ2) fun q3 =>
        Option.bind (bz q3.1) fun b4 =>
        some (b4, q3.2)
    else
      some ((0 : Int32), σ)
set_option maxHeartbeats 4000000 in
set_option maxRecDepth 20000 in
theorem ct_X11_readPart {σ : Mem} {r : (Int32 × Mem)} (hF : F_X11_readPart σ = some r) : Ct yX11_readPart cX11_readPart 2 (some .boolean) 3 71 (fun ad zz => [.ref (ad 11)]) σ (fun ad => (some (.int r.1))) r.2 := by
  refine Ct_of (by decide +kernel) (lv := fun ad zz => [(0, .ref (ad 11))]) (fun _ _ => rfl) (fun _ _ => Nat.le_of_ble_eq_true rfl) (fun p l e s m args below meth c D T ad zz C hr hlk => ?_)
  rw [F_X11_readPart] at hF
  refine V_aload_n C 0 dX11_readPart_0 rfl ?_
  refine gf_X11_7 C dX11_readPart_1 ?_
  refine V_aload_n C 0 dX11_readPart_4 rfl ?_
  refine gf_X11_75 C dX11_readPart_5 ?_
  obtain ⟨v1, hv1, hF⟩ := bnd hF
  refine V_iald C (by decide) hv1 dX11_readPart_8 ?_
  refine V_istore_n C (lv' := [(1, .int v1), (0, .ref (ad 11))]) dX11_readPart_9 rfl (by decide) rfl ?_
  refine V_iload_n C 0 dX11_readPart_10 rfl ?_
  refine V_bipush C dX11_readPart_11 (v := (72 : Int32)) (by decide) ?_
  refine V_icmp_ne C 39 dX11_readPart_13 (by decide) hF (fun hF => ?_) (fun hF => ?_)
  · refine V_iload_n C 0 dX11_readPart_39 rfl ?_
    refine V_bipush C dX11_readPart_40 (v := (82 : Int32)) (by decide) ?_
    refine V_icmp_ne C 68 dX11_readPart_42 (by decide) hF (fun hF => ?_) (fun hF => ?_)
    · refine V_iconst C dX11_readPart_68 (v := (0 : Int32)) (by decide) ?_
      cases hF
      exact V_zret C hr hlk (Or.inl rfl) rfl rfl dX11_readPart_69
    · refine V_aload_n C 1 dX11_readPart_45 rfl ?_
      refine gf_X11_85 C dX11_readPart_46 ?_
      refine V_iconst C dX11_readPart_49 (v := (5 : Int32)) (by decide) ?_
      refine V_icmp_ge C 68 dX11_readPart_50 (by decide) hF (fun hF => ?_) (fun hF => ?_)
      · refine V_iconst C dX11_readPart_68 (v := (0 : Int32)) (by decide) ?_
        cases hF
        exact V_zret C hr hlk (Or.inl rfl) rfl rfl dX11_readPart_69
      · refine V_aload_n C 1 dX11_readPart_53 rfl ?_
        refine V_dup C dX11_readPart_54 rfl ?_
        refine gf_X11_75 C dX11_readPart_55 ?_
        refine V_iconst C dX11_readPart_58 (v := (1 : Int32)) (by decide) ?_
        refine V_iadd C dX11_readPart_59 ?_
        obtain ⟨σ2, hs2, hF⟩ := bnd hF
        refine pf_X11_75 C hs2 dX11_readPart_60 ?_
        refine V_aload_n C 1 dX11_readPart_63 rfl ?_
        obtain ⟨q3, hq3, hF⟩ := bnd hF
        refine cs_X11_91 C (ct_X11_readRider hq3) rfl ⟨by decide, by decide⟩ (Nat.le_of_ble_eq_true rfl) dX11_readPart_64 ⟨Nat.le_refl 0, Nat.le_refl 0⟩ ?_
        obtain ⟨b4, hb4, hF⟩ := bnd hF
        obtain ⟨hb9, e9⟩ := bz_s hb4
        subst e9
        cases hF
        exact V_zret C hr hlk hb9 rfl rfl dX11_readPart_67
  · refine V_aload_n C 1 dX11_readPart_16 rfl ?_
    refine gf_X11_78 C dX11_readPart_17 ?_
    refine V_iconst C dX11_readPart_20 (v := (4 : Int32)) (by decide) ?_
    refine V_icmp_ge C 39 dX11_readPart_21 (by decide) hF (fun hF => ?_) (fun hF => ?_)
    · refine V_iload_n C 0 dX11_readPart_39 rfl ?_
      refine V_bipush C dX11_readPart_40 (v := (82 : Int32)) (by decide) ?_
      refine V_icmp_ne C 68 dX11_readPart_42 (by decide) hF (fun hF => ?_) (fun hF => ?_)
      · refine V_iconst C dX11_readPart_68 (v := (0 : Int32)) (by decide) ?_
        cases hF
        exact V_zret C hr hlk (Or.inl rfl) rfl rfl dX11_readPart_69
      · refine V_aload_n C 1 dX11_readPart_45 rfl ?_
        refine gf_X11_85 C dX11_readPart_46 ?_
        refine V_iconst C dX11_readPart_49 (v := (5 : Int32)) (by decide) ?_
        refine V_icmp_ge C 68 dX11_readPart_50 (by decide) hF (fun hF => ?_) (fun hF => ?_)
        · refine V_iconst C dX11_readPart_68 (v := (0 : Int32)) (by decide) ?_
          cases hF
          exact V_zret C hr hlk (Or.inl rfl) rfl rfl dX11_readPart_69
        · refine V_aload_n C 1 dX11_readPart_53 rfl ?_
          refine V_dup C dX11_readPart_54 rfl ?_
          refine gf_X11_75 C dX11_readPart_55 ?_
          refine V_iconst C dX11_readPart_58 (v := (1 : Int32)) (by decide) ?_
          refine V_iadd C dX11_readPart_59 ?_
          obtain ⟨σ5, hs5, hF⟩ := bnd hF
          refine pf_X11_75 C hs5 dX11_readPart_60 ?_
          refine V_aload_n C 1 dX11_readPart_63 rfl ?_
          obtain ⟨q6, hq6, hF⟩ := bnd hF
          refine cs_X11_91 C (ct_X11_readRider hq6) rfl ⟨by decide, by decide⟩ (Nat.le_of_ble_eq_true rfl) dX11_readPart_64 ⟨Nat.le_refl 0, Nat.le_refl 0⟩ ?_
          obtain ⟨b7, hb7, hF⟩ := bnd hF
          obtain ⟨hb9, e9⟩ := bz_s hb7
          subst e9
          cases hF
          exact V_zret C hr hlk hb9 rfl rfl dX11_readPart_67
    · refine V_aload_n C 1 dX11_readPart_24 rfl ?_
      refine V_dup C dX11_readPart_25 rfl ?_
      refine gf_X11_75 C dX11_readPart_26 ?_
      refine V_iconst C dX11_readPart_29 (v := (1 : Int32)) (by decide) ?_
      refine V_iadd C dX11_readPart_30 ?_
      obtain ⟨σ8, hs8, hF⟩ := bnd hF
      refine pf_X11_75 C hs8 dX11_readPart_31 ?_
      refine V_aload_n C 1 dX11_readPart_34 rfl ?_
      obtain ⟨q9, hq9, hF⟩ := bnd hF
      refine cs_X11_88 C (ct_X11_readHorse hq9) rfl ⟨by decide, by decide⟩ (Nat.le_of_ble_eq_true rfl) dX11_readPart_35 ⟨Nat.le_refl 0, Nat.le_refl 0⟩ ?_
      obtain ⟨b10, hb10, hF⟩ := bnd hF
      obtain ⟨hb9, e9⟩ := bz_s hb10
      subst e9
      cases hF
      exact V_zret C hr hlk hb9 rfl rfl dX11_readPart_38

def F_X11_readFair_b40  : Nat → Mem → Option (Int32 × Mem)
  | 0, _ => none
  | n + 1, σ =>
    if (σ.1 21) ≤ (σ.1 22) then
      some ((-9 : Int32), σ)
    else
      Option.bind (F_X11_readPart σ) fun q6 =>
      if q6.1 = 0 then
        some ((q6.2.1 22), q6.2)
      else
        (F_X11_readFair_b40 n) q6.2
def F_X11_readFair (σ : Mem) : Option (Int32 × Mem) :=
  Option.bind (stI σ 22 (0 : Int32)) fun σ1 =>
  Option.bind (stI σ1 25 (0 : Int32)) fun σ2 =>
  Option.bind (stI σ2 26 (0 : Int32)) fun σ3 =>
  if (σ3.1 21) = 0 then
    some ((0 : Int32), σ3)
  else
    Option.bind (rdA σ3 53 (0 : Int32)) fun v4 =>
    if v4 = (70 : Int32) then
      Option.bind (stI σ3 22 (1 : Int32)) fun σ5 =>
      F_X11_readFair_b40 4000 σ5
    else
      some ((0 : Int32), σ3)
set_option maxHeartbeats 4000000 in
set_option maxRecDepth 20000 in
theorem w_X11_readFair_b40 {p : Program} {l : Launch} {e : Env} {s : State} {m : MethodId} {args : Array Value} {below : List Frame} {meth : Method} {c : Code} {D : va_G} {T : Nat → ClassId} {ad zz : Nat → Nat} (C : Cx p s m c cX11_readFair 1 RX11 (fA ad) D T ad zz) (hr : meth.sig.returnType = (some .int)) (hlk : meth.locks = false) {r : (Int32 × Mem)}  : ∀ (n : Nat), ∀ (σ : Mem), F_X11_readFair_b40  n σ = some r → V p l e { frames := 4, cells := 0, slots := 0, locals := 92 } s m args below meth c 0 0 (MQ below (qC (some (.int r.1)) r.2 D T ad) args s 0 0 (fA ad)) 1 (fA ad) D T ad σ 40 [(0, .ref (ad 11))] [] := by
  intro n
  induction n with
  | zero =>
    intro σ hF
    cases (show (none : Option (Int32 × Mem)) = some r from hF)
  | succ n ih =>
    intro σ hF
    rw [F_X11_readFair_b40] at hF
    refine V_aload_n C 0 dX11_readFair_40 rfl ?_
    refine gf_X11_75 C dX11_readFair_41 ?_
    refine V_aload_n C 0 dX11_readFair_44 rfl ?_
    refine gf_X11_72 C dX11_readFair_45 ?_
    refine V_icmp_ge C 63 dX11_readFair_48 (by decide) hF (fun hF => ?_) (fun hF => ?_)
    · refine V_bipush C dX11_readFair_63 (v := (-9 : Int32)) (by decide) ?_
      cases hF
      exact V_iret C hr hlk rfl rfl dX11_readFair_65
    · refine V_aload_n C 0 dX11_readFair_51 rfl ?_
      obtain ⟨q6, hq6, hF⟩ := bnd hF
      refine cs_X11_93 C (ct_X11_readPart hq6) rfl ⟨by decide, by decide⟩ (Nat.le_of_ble_eq_true rfl) dX11_readFair_52 ⟨Nat.le_refl 0, Nat.le_refl 0⟩ ?_
      refine V_if_ne C 40 dX11_readFair_55 (by decide) hF (fun hF => ?_) (fun hF => ?_)
      · exact ih q6.2 hF
      · refine V_aload_n C 0 dX11_readFair_58 rfl ?_
        refine gf_X11_75 C dX11_readFair_59 ?_
        cases hF
        exact V_iret C hr hlk rfl rfl dX11_readFair_62
set_option maxHeartbeats 4000000 in
set_option maxRecDepth 20000 in
theorem ct_X11_readFair {σ : Mem} {r : (Int32 × Mem)} (hF : F_X11_readFair σ = some r) : Ct yX11_readFair cX11_readFair 1 (some .int) 4 92 (fun ad zz => [.ref (ad 11)]) σ (fun ad => (some (.int r.1))) r.2 := by
  refine Ct_of (by decide +kernel) (lv := fun ad zz => [(0, .ref (ad 11))]) (fun _ _ => rfl) (fun _ _ => Nat.le_of_ble_eq_true rfl) (fun p l e s m args below meth c D T ad zz C hr hlk => ?_)
  rw [F_X11_readFair] at hF
  refine V_aload_n C 0 dX11_readFair_0 rfl ?_
  refine V_iconst C dX11_readFair_1 (v := (0 : Int32)) (by decide) ?_
  obtain ⟨σ1, hs1, hF⟩ := bnd hF
  refine pf_X11_75 C hs1 dX11_readFair_2 ?_
  refine V_aload_n C 0 dX11_readFair_5 rfl ?_
  refine V_iconst C dX11_readFair_6 (v := (0 : Int32)) (by decide) ?_
  obtain ⟨σ2, hs2, hF⟩ := bnd hF
  refine pf_X11_78 C hs2 dX11_readFair_7 ?_
  refine V_aload_n C 0 dX11_readFair_10 rfl ?_
  refine V_iconst C dX11_readFair_11 (v := (0 : Int32)) (by decide) ?_
  obtain ⟨σ3, hs3, hF⟩ := bnd hF
  refine pf_X11_85 C hs3 dX11_readFair_12 ?_
  refine V_aload_n C 0 dX11_readFair_15 rfl ?_
  refine gf_X11_72 C dX11_readFair_16 ?_
  refine V_if_eq C 33 dX11_readFair_19 (by decide) hF (fun hF => ?_) (fun hF => ?_)
  · refine V_iconst C dX11_readFair_33 (v := (0 : Int32)) (by decide) ?_
    cases hF
    exact V_iret C hr hlk rfl rfl dX11_readFair_34
  · refine V_aload_n C 0 dX11_readFair_22 rfl ?_
    refine gf_X11_7 C dX11_readFair_23 ?_
    refine V_iconst C dX11_readFair_26 (v := (0 : Int32)) (by decide) ?_
    obtain ⟨v4, hv4, hF⟩ := bnd hF
    refine V_iald C (by decide) hv4 dX11_readFair_27 ?_
    refine V_bipush C dX11_readFair_28 (v := (70 : Int32)) (by decide) ?_
    refine V_icmp_eq C 35 dX11_readFair_30 (by decide) hF (fun hF => ?_) (fun hF => ?_)
    · refine V_aload_n C 0 dX11_readFair_35 rfl ?_
      refine V_iconst C dX11_readFair_36 (v := (1 : Int32)) (by decide) ?_
      obtain ⟨σ5, hs5, hF⟩ := bnd hF
      refine pf_X11_75 C hs5 dX11_readFair_37 ?_
      exact w_X11_readFair_b40 C hr hlk 4000 σ5 hF
    · refine V_iconst C dX11_readFair_33 (v := (0 : Int32)) (by decide) ?_
      cases hF
      exact V_iret C hr hlk rfl rfl dX11_readFair_34

def F_X11_fault (σ : Mem) : Option (Int32 × Mem) :=
  Option.bind (stI σ 20 (0 : Int32)) fun σ1 =>
  Option.bind (F_X11_readFair σ1) fun q2 =>
  some (q2.1, q2.2)
set_option maxHeartbeats 4000000 in
set_option maxRecDepth 20000 in
theorem ct_X11_fault {σ : Mem} {r : (Int32 × Mem)} (hF : F_X11_fault σ = some r) : Ct yX11_fault cX11_fault 1 (some .int) 5 112 (fun ad zz => [.ref (ad 11)]) σ (fun ad => (some (.int r.1))) r.2 := by
  refine Ct_of (by decide +kernel) (lv := fun ad zz => [(0, .ref (ad 11))]) (fun _ _ => rfl) (fun _ _ => Nat.le_of_ble_eq_true rfl) (fun p l e s m args below meth c D T ad zz C hr hlk => ?_)
  rw [F_X11_fault] at hF
  refine V_aload_n C 0 dX11_fault_0 rfl ?_
  refine V_iconst C dX11_fault_1 (v := (0 : Int32)) (by decide) ?_
  obtain ⟨σ1, hs1, hF⟩ := bnd hF
  refine pf_X11_56 C hs1 dX11_fault_2 ?_
  refine V_aload_n C 0 dX11_fault_5 rfl ?_
  obtain ⟨q2, hq2, hF⟩ := bnd hF
  refine cs_X11_96 C (ct_X11_readFair hq2) rfl ⟨by decide, by decide⟩ (Nat.le_of_ble_eq_true rfl) dX11_fault_6 ⟨Nat.le_refl 0, Nat.le_refl 0⟩ ?_
  cases hF
  exact V_iret C hr hlk rfl rfl dX11_fault_9
