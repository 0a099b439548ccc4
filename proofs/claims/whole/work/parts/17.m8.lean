-- walks: X10_next X10_oats X10_couldWear X10_truthTogether X10_saddles X10_greatestDivisor X10_chanceOfSet X10_chance X10_seed
def F_X10_next_b56 (σ : Mem) (kL38 : Int64 → Int32 → Int32 → Int32 → Int32 → Option Int32) : Nat → Int64 → Int32 → Int32 → Int32 → Int32 → Int32 → Option Int32
  | 0, _, _, _, _, _, _ => none
  | n + 1, x1, x3, x4, x5, x6, x7 =>
    if (σ.1 2) ≤ x7 then
      kL38 x1 x3 x4 x5 (x6 + 1)
    else
      Option.bind (F_X2_likingBits x6 x7 σ) fun q3 =>
      Option.bind (F_J13_bitCount_95d88 (x1 &&& q3) σ) fun q4 =>
      if x4 ≤ (if q4 < (x3 - q4) then (x3 - q4) else q4) then
        (F_X10_next_b56 σ kL38 n) x1 x3 x4 x5 x6 (x7 + 1)
      else
        (F_X10_next_b56 σ kL38 n) x1 x3 (if q4 < (x3 - q4) then (x3 - q4) else q4) (((10 : Int32) * x6) + x7) x6 (x7 + 1)
def F_X10_next_b38 (σ : Mem) : Nat → Int64 → Int32 → Int32 → Int32 → Int32 → Option Int32
  | 0, _, _, _, _, _ => none
  | n + 1, x1, x3, x4, x5, x6 =>
    if (σ.1 2) ≤ x6 then
      some x5
    else
      F_X10_next_b56 σ (F_X10_next_b38 σ n) 4000 x1 x3 x4 x5 x6 (x6 + (1 : Int32))
def F_X10_next (σ : Mem) : Option Int32 :=
  Option.bind (F_X2_learntBits σ) fun q1 =>
  if (lg_cmp q1 (0 : Int64)) = 0 then
    some (-9 : Int32)
  else
    Option.bind (F_J13_bitCount_95d88 q1 σ) fun q2 =>
    F_X10_next_b38 σ 4000 q1 q2 (q2 + (1 : Int32)) (-9 : Int32) (0 : Int32)
set_option maxHeartbeats 4000000 in
set_option maxRecDepth 20000 in
theorem w_X10_next_b56 {p : Program} {l : Launch} {e : Env} {s : State} {m : MethodId} {args : Array Value} {below : List Frame} {meth : Method} {c : Code} {D : va_G} {T : Nat → ClassId} {ad zz : Nat → Nat} (C : Cx p s m c cX10_next 10 RX10 (fA ad) D T ad zz) (hr : meth.sig.returnType = (some .int)) (hlk : meth.locks = false) {σ : Mem} {r : Int32} (kL38 : Int64 → Int32 → Int32 → Int32 → Int32 → Option Int32) (hL38 : ∀ (x1 : Int64) (x3 : Int32) (x4 : Int32) (x5 : Int32) (x6 : Int32), kL38 x1 x3 x4 x5 x6 = some r → V p l e { frames := 4, cells := 0, slots := 0, locals := 99 } s m args below meth c 0 0 (MQ below (qC (some (.int r)) σ D T ad) args s 0 0 (fA ad)) 10 (fA ad) D T ad σ 38 [(0, .ref (ad 0)), (1, .long x1), (3, .int x3), (4, .int x4), (5, .int x5), (6, .int x6)] []) : ∀ (n : Nat), ∀ (x1 : Int64) (x3 : Int32) (x4 : Int32) (x5 : Int32) (x6 : Int32) (x7 : Int32), F_X10_next_b56 σ kL38 n x1 x3 x4 x5 x6 x7 = some r → V p l e { frames := 4, cells := 0, slots := 0, locals := 99 } s m args below meth c 0 0 (MQ below (qC (some (.int r)) σ D T ad) args s 0 0 (fA ad)) 10 (fA ad) D T ad σ 56 [(0, .ref (ad 0)), (1, .long x1), (3, .int x3), (4, .int x4), (5, .int x5), (6, .int x6), (7, .int x7)] [] := by
  intro n
  induction n with
  | zero =>
    intro x1 x3 x4 x5 x6 x7 hF
    cases (show (none : Option Int32) = some r from hF)
  | succ n ih =>
    intro x1 x3 x4 x5 x6 x7 hF
    rw [F_X10_next_b56] at hF
    refine V_iload C 6 dX10_next_56 rfl ?_
    refine V_aload_n C 0 dX10_next_58 rfl ?_
    refine gf_X10_19 C dX10_next_59 ?_
    refine gf_X10_119 C dX10_next_62 ?_
    refine V_icmp_ge C 128 dX10_next_65 (by decide) hF (fun hF => ?_) (fun hF => ?_)
    · refine V_iinc C (v := (x6 + 1)) (lv' := [(6, .int (x6 + 1)), (0, .ref (ad 0)), (1, .long x1), (3, .int x3), (4, .int x4), (5, .int x5), (7, .int x7)]) 5 dX10_next_128 rfl rfl (by decide) rfl ?_
      refine V_goto C 38 dX10_next_131 (by decide) ?_
      refine V_lv (ks := [1, 2, 3, 4, 5, 0]) rfl ?_
      exact hL38 x1 x3 x4 x5 (x6 + 1) hF
    · refine V_lload_n C 1 dX10_next_68 rfl ?_
      refine V_aload_n C 0 dX10_next_69 rfl ?_
      refine gf_X10_44 C dX10_next_70 ?_
      refine V_aload_n C 0 dX10_next_73 rfl ?_
      refine gf_X10_19 C dX10_next_74 ?_
      refine V_iload C 5 dX10_next_77 rfl ?_
      refine V_iload C 6 dX10_next_79 rfl ?_
      obtain ⟨q3, hq3, hF⟩ := bnd hF
      refine cs_X10_286 C (ct_X2_likingBits hq3) rfl ⟨by decide, by decide⟩ (Nat.le_of_ble_eq_true rfl) dX10_next_81 ⟨Nat.le_refl 0, Nat.le_refl 0⟩ ?_
      refine V_land C dX10_next_84 ?_
      obtain ⟨q4, hq4, hF⟩ := bnd hF
      refine cs_X10_277 C (ct_J13_bitCount_95d88 hq4) rfl ⟨by decide, by decide⟩ (Nat.le_of_ble_eq_true rfl) dX10_next_85 ⟨Nat.le_refl 0, Nat.le_refl 0⟩ ?_
      refine V_istore C (lv' := [(8, .int q4), (0, .ref (ad 0)), (1, .long x1), (3, .int x3), (4, .int x4), (5, .int x5), (6, .int x6), (7, .int x7)]) dX10_next_88 (by decide) rfl ?_
      refine V_iload C 0 dX10_next_90 rfl ?_
      refine V_iload_n C 3 dX10_next_92 rfl ?_
      refine V_iload C 0 dX10_next_93 rfl ?_
      refine V_isub C dX10_next_95 ?_
      refine cs_X10_290 C ⟨by decide, Nat.le_of_ble_eq_true rfl⟩ ⟨Nat.le_refl 0, Nat.le_refl 0⟩ dX10_next_96 ?_
      refine V_istore C (lv' := [(9, .int (if q4 < (x3 - q4) then (x3 - q4) else q4)), (8, .int q4), (0, .ref (ad 0)), (1, .long x1), (3, .int x3), (4, .int x4), (5, .int x5), (6, .int x6), (7, .int x7)]) dX10_next_99 (by decide) rfl ?_
      refine V_iload C 0 dX10_next_101 rfl ?_
      refine V_iload C 5 dX10_next_103 rfl ?_
      refine V_icmp_ge C 122 dX10_next_105 (by decide) hF (fun hF => ?_) (fun hF => ?_)
      · refine V_iinc C (v := (x7 + 1)) (lv' := [(7, .int (x7 + 1)), (9, .int (if q4 < (x3 - q4) then (x3 - q4) else q4)), (8, .int q4), (0, .ref (ad 0)), (1, .long x1), (3, .int x3), (4, .int x4), (5, .int x5), (6, .int x6)]) 8 dX10_next_122 rfl rfl (by decide) rfl ?_
        refine V_goto C 56 dX10_next_125 (by decide) ?_
        refine V_lv (ks := [3, 4, 5, 6, 7, 8, 0]) rfl ?_
        exact ih x1 x3 x4 x5 x6 (x7 + 1) hF
      · refine V_iload C 0 dX10_next_108 rfl ?_
        refine V_istore C (lv' := [(4, .int (if q4 < (x3 - q4) then (x3 - q4) else q4)), (9, .int (if q4 < (x3 - q4) then (x3 - q4) else q4)), (8, .int q4), (0, .ref (ad 0)), (1, .long x1), (3, .int x3), (5, .int x5), (6, .int x6), (7, .int x7)]) dX10_next_110 (by decide) rfl ?_
        refine V_bipush C dX10_next_112 (v := (10 : Int32)) (by decide) ?_
        refine V_iload C 7 dX10_next_114 rfl ?_
        refine V_imul C dX10_next_116 ?_
        refine V_iload C 8 dX10_next_117 rfl ?_
        refine V_iadd C dX10_next_119 ?_
        refine V_istore C (lv' := [(5, .int (((10 : Int32) * x6) + x7)), (4, .int (if q4 < (x3 - q4) then (x3 - q4) else q4)), (9, .int (if q4 < (x3 - q4) then (x3 - q4) else q4)), (8, .int q4), (0, .ref (ad 0)), (1, .long x1), (3, .int x3), (6, .int x6), (7, .int x7)]) dX10_next_120 (by decide) rfl ?_
        refine V_iinc C (v := (x7 + 1)) (lv' := [(7, .int (x7 + 1)), (5, .int (((10 : Int32) * x6) + x7)), (4, .int (if q4 < (x3 - q4) then (x3 - q4) else q4)), (9, .int (if q4 < (x3 - q4) then (x3 - q4) else q4)), (8, .int q4), (0, .ref (ad 0)), (1, .long x1), (3, .int x3), (6, .int x6)]) 8 dX10_next_122 rfl rfl (by decide) rfl ?_
        refine V_goto C 56 dX10_next_125 (by decide) ?_
        refine V_lv (ks := [5, 6, 7, 2, 1, 8, 0]) rfl ?_
        exact ih x1 x3 (if q4 < (x3 - q4) then (x3 - q4) else q4) (((10 : Int32) * x6) + x7) x6 (x7 + 1) hF
set_option maxHeartbeats 4000000 in
set_option maxRecDepth 20000 in
theorem w_X10_next_b38 {p : Program} {l : Launch} {e : Env} {s : State} {m : MethodId} {args : Array Value} {below : List Frame} {meth : Method} {c : Code} {D : va_G} {T : Nat → ClassId} {ad zz : Nat → Nat} (C : Cx p s m c cX10_next 10 RX10 (fA ad) D T ad zz) (hr : meth.sig.returnType = (some .int)) (hlk : meth.locks = false) {σ : Mem} {r : Int32}  : ∀ (n : Nat), ∀ (x1 : Int64) (x3 : Int32) (x4 : Int32) (x5 : Int32) (x6 : Int32), F_X10_next_b38 σ n x1 x3 x4 x5 x6 = some r → V p l e { frames := 4, cells := 0, slots := 0, locals := 99 } s m args below meth c 0 0 (MQ below (qC (some (.int r)) σ D T ad) args s 0 0 (fA ad)) 10 (fA ad) D T ad σ 38 [(0, .ref (ad 0)), (1, .long x1), (3, .int x3), (4, .int x4), (5, .int x5), (6, .int x6)] [] := by
  intro n
  induction n with
  | zero =>
    intro x1 x3 x4 x5 x6 hF
    cases (show (none : Option Int32) = some r from hF)
  | succ n ih =>
    intro x1 x3 x4 x5 x6 hF
    rw [F_X10_next_b38] at hF
    refine V_iload C 5 dX10_next_38 rfl ?_
    refine V_aload_n C 0 dX10_next_40 rfl ?_
    refine gf_X10_19 C dX10_next_41 ?_
    refine gf_X10_119 C dX10_next_44 ?_
    refine V_icmp_ge C 134 dX10_next_47 (by decide) hF (fun hF => ?_) (fun hF => ?_)
    · refine V_iload C 4 dX10_next_134 rfl ?_
      cases hF
      exact V_iret C hr hlk rfl rfl dX10_next_136
    · refine V_iload C 5 dX10_next_50 rfl ?_
      refine V_iconst C dX10_next_52 (v := (1 : Int32)) (by decide) ?_
      refine V_iadd C dX10_next_53 ?_
      refine V_istore C (lv' := [(7, .int (x6 + (1 : Int32))), (0, .ref (ad 0)), (1, .long x1), (3, .int x3), (4, .int x4), (5, .int x5), (6, .int x6)]) dX10_next_54 (by decide) rfl ?_
      refine V_lv (ks := [1, 2, 3, 4, 5, 6, 0]) rfl ?_
      exact w_X10_next_b56 C hr hlk (F_X10_next_b38 σ n) ih 4000 x1 x3 x4 x5 x6 (x6 + (1 : Int32)) hF
set_option maxHeartbeats 4000000 in
set_option maxRecDepth 20000 in
theorem ct_X10_next {σ : Mem} {r : Int32} (hF : F_X10_next σ = some r) : Ct yX10_next cX10_next 10 (some .int) 4 99 (fun ad zz => [.ref (ad 0)]) σ (fun ad => (some (.int r))) σ := by
  refine Ct_of (by decide +kernel) (lv := fun ad zz => [(0, .ref (ad 0))]) (fun _ _ => rfl) (fun _ _ => Nat.le_of_ble_eq_true rfl) (fun p l e s m args below meth c D T ad zz C hr hlk => ?_)
  rw [F_X10_next] at hF
  refine V_aload_n C 0 dX10_next_0 rfl ?_
  refine gf_X10_44 C dX10_next_1 ?_
  refine V_aload_n C 0 dX10_next_4 rfl ?_
  refine gf_X10_19 C dX10_next_5 ?_
  obtain ⟨q1, hq1, hF⟩ := bnd hF
  refine cs_X10_273 C (ct_X2_learntBits hq1) rfl ⟨by decide, by decide⟩ (Nat.le_of_ble_eq_true rfl) dX10_next_8 ⟨Nat.le_refl 0, Nat.le_refl 0⟩ ?_
  refine V_lstore_n C (lv' := [(1, .long q1), (0, .ref (ad 0))]) dX10_next_11 rfl (by decide) rfl ?_
  refine V_lload_n C 0 dX10_next_12 rfl ?_
  refine V_lconst C dX10_next_13 (v := (0 : Int64)) (by decide) ?_
  refine V_lcmp C dX10_next_14 ?_
  refine V_if_ne C 21 dX10_next_15 (by decide) hF (fun hF => ?_) (fun hF => ?_)
  · refine V_lload_n C 0 dX10_next_21 rfl ?_
    obtain ⟨q2, hq2, hF⟩ := bnd hF
    refine cs_X10_277 C (ct_J13_bitCount_95d88 hq2) rfl ⟨by decide, by decide⟩ (Nat.le_of_ble_eq_true rfl) dX10_next_22 ⟨Nat.le_refl 0, Nat.le_refl 0⟩ ?_
    refine V_istore_n C (lv' := [(3, .int q2), (1, .long q1), (0, .ref (ad 0))]) dX10_next_25 rfl (by decide) rfl ?_
    refine V_iload_n C 0 dX10_next_26 rfl ?_
    refine V_iconst C dX10_next_27 (v := (1 : Int32)) (by decide) ?_
    refine V_iadd C dX10_next_28 ?_
    refine V_istore C (lv' := [(4, .int (q2 + (1 : Int32))), (3, .int q2), (1, .long q1), (0, .ref (ad 0))]) dX10_next_29 (by decide) rfl ?_
    refine V_bipush C dX10_next_31 (v := (-9 : Int32)) (by decide) ?_
    refine V_istore C (lv' := [(5, .int (-9 : Int32)), (4, .int (q2 + (1 : Int32))), (3, .int q2), (1, .long q1), (0, .ref (ad 0))]) dX10_next_33 (by decide) rfl ?_
    refine V_iconst C dX10_next_35 (v := (0 : Int32)) (by decide) ?_
    refine V_istore C (lv' := [(6, .int (0 : Int32)), (5, .int (-9 : Int32)), (4, .int (q2 + (1 : Int32))), (3, .int q2), (1, .long q1), (0, .ref (ad 0))]) dX10_next_36 (by decide) rfl ?_
    refine V_lv (ks := [5, 4, 3, 2, 1, 0]) rfl ?_
    exact w_X10_next_b38 C hr hlk 4000 q1 q2 (q2 + (1 : Int32)) (-9 : Int32) (0 : Int32) hF
  · refine V_bipush C dX10_next_18 (v := (-9 : Int32)) (by decide) ?_
    cases hF
    exact V_iret C hr hlk rfl rfl dX10_next_20

def F_X10_oats_b54  (x1 : Int32) (x2 : Int32) (x3 : Int32) (x4 : Int32) (σ : Mem) : Option (Int32 × Mem) :=
  Option.bind (F_X9_weigh 0 σ) fun σ4 =>
  Option.bind (F_X9_of x1 x2 σ4) fun q5 =>
  Option.bind (F_X9_of x1 x3 σ4) fun q6 =>
  if x3 ≤ x2 then
    Option.bind (F_X1_findRests q5 q6 (0 : Int32) σ4) fun σ7 =>
    if x4 = 0 then
      some ((σ7.1 12), σ7)
    else
      some ((σ7.1 13), σ7)
  else
    Option.bind (F_X1_findRests q5 q6 (1 : Int32) σ4) fun σ8 =>
    if x4 = 0 then
      some ((σ8.1 12), σ8)
    else
      some ((σ8.1 13), σ8)
def F_X10_oats (a1 : Int32) (a2 : Int32) (a3 : Int32) (a4 : Int32) (σ : Mem) : Option (Int32 × Mem) :=
  Option.bind (F_X3_hasHorse a1 σ) fun q1 =>
  if q1 = 0 then
    some ((-1 : Int32), σ)
  else
    Option.bind (F_X3_hasRider a2 σ) fun q2 =>
    if q2 = 0 then
      some ((-1 : Int32), σ)
    else
      Option.bind (F_X3_hasRider a3 σ) fun q3 =>
      if q3 = 0 then
        some ((-1 : Int32), σ)
      else
        if a2 = a3 then
          some ((-2 : Int32), σ)
        else
          if a4 = 0 then
            F_X10_oats_b54 a1 a2 a3 a4 σ
          else
            if a4 = (1 : Int32) then
              F_X10_oats_b54 a1 a2 a3 a4 σ
            else
              some ((-2 : Int32), σ)
set_option maxHeartbeats 4000000 in
set_option maxRecDepth 20000 in
theorem w_X10_oats_b54 {p : Program} {l : Launch} {e : Env} {s : State} {m : MethodId} {args : Array Value} {below : List Frame} {meth : Method} {c : Code} {D : va_G} {T : Nat → ClassId} {ad zz : Nat → Nat} (C : Cx p s m c cX10_oats 5 RX10 (fA ad) D T ad zz) (hr : meth.sig.returnType = (some .int)) (hlk : meth.locks = false) {r : (Int32 × Mem)}  (x1 : Int32) (x2 : Int32) (x3 : Int32) (x4 : Int32) (σ : Mem) (hF : F_X10_oats_b54  x1 x2 x3 x4 σ = some r) : V p l e { frames := 4, cells := 0, slots := 0, locals := 93 } s m args below meth c 0 0 (MQ below (qC (some (.int r.1)) r.2 D T ad) args s 0 0 (fA ad)) 5 (fA ad) D T ad σ 54 [(0, .ref (ad 0)), (1, .int x1), (2, .int x2), (3, .int x3), (4, .int x4)] [] := by
  rw [F_X10_oats_b54] at hF
  refine V_aload_n C 0 dX10_oats_54 rfl ?_
  refine gf_X10_53 C dX10_oats_55 ?_
  refine V_aload_n C 0 dX10_oats_58 rfl ?_
  refine gf_X10_26 C dX10_oats_59 ?_
  obtain ⟨σ4, hs4, hF⟩ := bnd hF
  refine cs_X10_184 C (ct_X9_weigh (by decide) hs4) rfl ⟨by decide, by decide⟩ (Nat.le_of_ble_eq_true rfl) dX10_oats_62 ⟨Nat.le_refl 0, Nat.le_refl 0⟩ ?_
  refine V_aload_n C 0 dX10_oats_65 rfl ?_
  refine gf_X10_76 C dX10_oats_66 ?_
  refine V_aload_n C 0 dX10_oats_69 rfl ?_
  refine gf_X10_53 C dX10_oats_70 ?_
  refine V_iload_n C 1 dX10_oats_73 rfl ?_
  refine V_iload_n C 2 dX10_oats_74 rfl ?_
  obtain ⟨q5, hq5, hF⟩ := bnd hF
  refine cs_X10_188 C (ct_X9_of hq5) rfl ⟨by decide, by decide⟩ (Nat.le_of_ble_eq_true rfl) dX10_oats_75 ⟨Nat.le_refl 0, Nat.le_refl 0⟩ ?_
  refine V_aload_n C 0 dX10_oats_78 rfl ?_
  refine gf_X10_53 C dX10_oats_79 ?_
  refine V_iload_n C 1 dX10_oats_82 rfl ?_
  refine V_iload_n C 3 dX10_oats_83 rfl ?_
  obtain ⟨q6, hq6, hF⟩ := bnd hF
  refine cs_X10_188 C (ct_X9_of hq6) rfl ⟨by decide, by decide⟩ (Nat.le_of_ble_eq_true rfl) dX10_oats_84 ⟨Nat.le_refl 0, Nat.le_refl 0⟩ ?_
  refine V_iload_n C 2 dX10_oats_87 rfl ?_
  refine V_iload_n C 3 dX10_oats_88 rfl ?_
  refine V_icmp_ge C 96 dX10_oats_89 (by decide) hF (fun hF => ?_) (fun hF => ?_)
  · refine V_iconst C dX10_oats_96 (v := (0 : Int32)) (by decide) ?_
    obtain ⟨σ7, hs7, hF⟩ := bnd hF
    refine cs_X10_295 C (ct_X1_findRests hs7) rfl ⟨by decide, by decide⟩ (Nat.le_of_ble_eq_true rfl) dX10_oats_97 ⟨Nat.le_refl 0, Nat.le_refl 0⟩ ?_
    refine V_iload C 4 dX10_oats_100 rfl ?_
    refine V_if_ne C 115 dX10_oats_102 (by decide) hF (fun hF => ?_) (fun hF => ?_)
    · refine V_aload_n C 0 dX10_oats_115 rfl ?_
      refine gf_X10_76 C dX10_oats_116 ?_
      refine gf_X10_302 C dX10_oats_119 ?_
      cases hF
      exact V_iret C hr hlk rfl rfl dX10_oats_122
    · refine V_aload_n C 0 dX10_oats_105 rfl ?_
      refine gf_X10_76 C dX10_oats_106 ?_
      refine gf_X10_299 C dX10_oats_109 ?_
      refine V_goto C 122 dX10_oats_112 (by decide) ?_
      cases hF
      exact V_iret C hr hlk rfl rfl dX10_oats_122
  · refine V_iconst C dX10_oats_92 (v := (1 : Int32)) (by decide) ?_
    refine V_goto C 97 dX10_oats_93 (by decide) ?_
    obtain ⟨σ8, hs8, hF⟩ := bnd hF
    refine cs_X10_295 C (ct_X1_findRests hs8) rfl ⟨by decide, by decide⟩ (Nat.le_of_ble_eq_true rfl) dX10_oats_97 ⟨Nat.le_refl 0, Nat.le_refl 0⟩ ?_
    refine V_iload C 4 dX10_oats_100 rfl ?_
    refine V_if_ne C 115 dX10_oats_102 (by decide) hF (fun hF => ?_) (fun hF => ?_)
    · refine V_aload_n C 0 dX10_oats_115 rfl ?_
      refine gf_X10_76 C dX10_oats_116 ?_
      refine gf_X10_302 C dX10_oats_119 ?_
      cases hF
      exact V_iret C hr hlk rfl rfl dX10_oats_122
    · refine V_aload_n C 0 dX10_oats_105 rfl ?_
      refine gf_X10_76 C dX10_oats_106 ?_
      refine gf_X10_299 C dX10_oats_109 ?_
      refine V_goto C 122 dX10_oats_112 (by decide) ?_
      cases hF
      exact V_iret C hr hlk rfl rfl dX10_oats_122
set_option maxHeartbeats 4000000 in
set_option maxRecDepth 20000 in
theorem ct_X10_oats {a1 : Int32} {a2 : Int32} {a3 : Int32} {a4 : Int32} {σ : Mem} {r : (Int32 × Mem)} (hF : F_X10_oats a1 a2 a3 a4 σ = some r) : Ct yX10_oats cX10_oats 5 (some .int) 4 93 (fun ad zz => [.ref (ad 0), .int a1, .int a2, .int a3, .int a4]) σ (fun ad => (some (.int r.1))) r.2 := by
  refine Ct_of (by decide +kernel) (lv := fun ad zz => [(0, .ref (ad 0)), (1, .int a1), (2, .int a2), (3, .int a3), (4, .int a4)]) (fun _ _ => rfl) (fun _ _ => Nat.le_of_ble_eq_true rfl) (fun p l e s m args below meth c D T ad zz C hr hlk => ?_)
  rw [F_X10_oats] at hF
  refine V_aload_n C 0 dX10_oats_0 rfl ?_
  refine gf_X10_19 C dX10_oats_1 ?_
  refine V_iload_n C 1 dX10_oats_4 rfl ?_
  obtain ⟨q1, hq1, hF⟩ := bnd hF
  refine cs_X10_135 C (ct_X3_hasHorse hq1) rfl ⟨by decide, by decide⟩ (Nat.le_of_ble_eq_true rfl) dX10_oats_5 ⟨Nat.le_refl 0, Nat.le_refl 0⟩ ?_
  refine V_if_eq C 33 dX10_oats_8 (by decide) hF (fun hF => ?_) (fun hF => ?_)
  · refine V_iconst C dX10_oats_33 (v := (-1 : Int32)) (by decide) ?_
    cases hF
    exact V_iret C hr hlk rfl rfl dX10_oats_34
  · refine V_aload_n C 0 dX10_oats_11 rfl ?_
    refine gf_X10_19 C dX10_oats_12 ?_
    refine V_iload_n C 2 dX10_oats_15 rfl ?_
    obtain ⟨q2, hq2, hF⟩ := bnd hF
    refine cs_X10_165 C (ct_X3_hasRider hq2) rfl ⟨by decide, by decide⟩ (Nat.le_of_ble_eq_true rfl) dX10_oats_16 ⟨Nat.le_refl 0, Nat.le_refl 0⟩ ?_
    refine V_if_eq C 33 dX10_oats_19 (by decide) hF (fun hF => ?_) (fun hF => ?_)
    · refine V_iconst C dX10_oats_33 (v := (-1 : Int32)) (by decide) ?_
      cases hF
      exact V_iret C hr hlk rfl rfl dX10_oats_34
    · refine V_aload_n C 0 dX10_oats_22 rfl ?_
      refine gf_X10_19 C dX10_oats_23 ?_
      refine V_iload_n C 3 dX10_oats_26 rfl ?_
      obtain ⟨q3, hq3, hF⟩ := bnd hF
      refine cs_X10_165 C (ct_X3_hasRider hq3) rfl ⟨by decide, by decide⟩ (Nat.le_of_ble_eq_true rfl) dX10_oats_27 ⟨Nat.le_refl 0, Nat.le_refl 0⟩ ?_
      refine V_if_ne C 35 dX10_oats_30 (by decide) hF (fun hF => ?_) (fun hF => ?_)
      · refine V_iload_n C 2 dX10_oats_35 rfl ?_
        refine V_iload_n C 3 dX10_oats_36 rfl ?_
        refine V_icmp_eq C 51 dX10_oats_37 (by decide) hF (fun hF => ?_) (fun hF => ?_)
        · refine V_bipush C dX10_oats_51 (v := (-2 : Int32)) (by decide) ?_
          cases hF
          exact V_iret C hr hlk rfl rfl dX10_oats_53
        · refine V_iload C 4 dX10_oats_40 rfl ?_
          refine V_if_eq C 54 dX10_oats_42 (by decide) hF (fun hF => ?_) (fun hF => ?_)
          · exact w_X10_oats_b54 C hr hlk a1 a2 a3 a4 σ hF
          · refine V_iload C 4 dX10_oats_45 rfl ?_
            refine V_iconst C dX10_oats_47 (v := (1 : Int32)) (by decide) ?_
            refine V_icmp_eq C 54 dX10_oats_48 (by decide) hF (fun hF => ?_) (fun hF => ?_)
            · exact w_X10_oats_b54 C hr hlk a1 a2 a3 a4 σ hF
            · refine V_bipush C dX10_oats_51 (v := (-2 : Int32)) (by decide) ?_
              cases hF
              exact V_iret C hr hlk rfl rfl dX10_oats_53
      · refine V_iconst C dX10_oats_33 (v := (-1 : Int32)) (by decide) ?_
        cases hF
        exact V_iret C hr hlk rfl rfl dX10_oats_34

def F_X10_couldWear_b22 (σ : Mem) : Nat → Int32 → Int32 → Int32 → Option Int32
  | 0, _, _, _ => none
  | n + 1, x1, x2, x3 =>
    if (σ.1 2) ≤ x3 then
      some (1 : Int32)
    else
      Option.bind (F_X10_contains x1 x3 σ) fun q3 =>
      if q3 = 0 then
        (F_X10_couldWear_b22 σ n) x1 x2 (x3 + 1)
      else
        Option.bind (F_X9_enough x2 x3 σ) fun q4 =>
        if q4 = 0 then
          some (0 : Int32)
        else
          (F_X10_couldWear_b22 σ n) x1 x2 (x3 + 1)
def F_X10_couldWear (a1 : Int32) (a2 : Int32) (σ : Mem) : Option Int32 :=
  Option.bind (F_J6_bitCount_0f7a4 a1 σ) fun q1 =>
  Option.bind (F_X10_at 1 a2 σ) fun q2 =>
  if q1 ≤ q2 then
    F_X10_couldWear_b22 σ 4000 a1 a2 (0 : Int32)
  else
    some (0 : Int32)
set_option maxHeartbeats 4000000 in
set_option maxRecDepth 20000 in
theorem w_X10_couldWear_b22 {p : Program} {l : Launch} {e : Env} {s : State} {m : MethodId} {args : Array Value} {below : List Frame} {meth : Method} {c : Code} {D : va_G} {T : Nat → ClassId} {ad zz : Nat → Nat} (C : Cx p s m c cX10_couldWear 4 RX10 (fA ad) D T ad zz) (hr : meth.sig.returnType = (some .boolean)) (hlk : meth.locks = false) {σ : Mem} {r : Int32}  : ∀ (n : Nat), ∀ (x1 : Int32) (x2 : Int32) (x3 : Int32), F_X10_couldWear_b22 σ n x1 x2 x3 = some r → V p l e { frames := 3, cells := 0, slots := 0, locals := 65 } s m args below meth c 0 0 (MQ below (qC (some (.int r)) σ D T ad) args s 0 0 (fA ad)) 4 (fA ad) D T ad σ 22 [(0, .ref (ad 0)), (1, .int x1), (2, .int x2), (3, .int x3)] [] := by
  intro n
  induction n with
  | zero =>
    intro x1 x2 x3 hF
    cases (show (none : Option Int32) = some r from hF)
  | succ n ih =>
    intro x1 x2 x3 hF
    rw [F_X10_couldWear_b22] at hF
    refine V_iload_n C 3 dX10_couldWear_22 rfl ?_
    refine V_aload_n C 0 dX10_couldWear_23 rfl ?_
    refine gf_X10_19 C dX10_couldWear_24 ?_
    refine gf_X10_119 C dX10_couldWear_27 ?_
    refine V_icmp_ge C 61 dX10_couldWear_30 (by decide) hF (fun hF => ?_) (fun hF => ?_)
    · refine V_iconst C dX10_couldWear_61 (v := (1 : Int32)) (by decide) ?_
      cases hF
      exact V_zret C hr hlk (Or.inr rfl) rfl rfl dX10_couldWear_62
    · refine V_iload_n C 1 dX10_couldWear_33 rfl ?_
      refine V_iload_n C 3 dX10_couldWear_34 rfl ?_
      obtain ⟨q3, hq3, hF⟩ := bnd hF
      refine cs_X10_252 C (ct_X10_contains hq3) rfl ⟨by decide, by decide⟩ (Nat.le_of_ble_eq_true rfl) dX10_couldWear_35 ⟨Nat.le_refl 0, Nat.le_refl 0⟩ ?_
      refine V_if_eq C 55 dX10_couldWear_38 (by decide) hF (fun hF => ?_) (fun hF => ?_)
      · refine V_iinc C (v := (x3 + 1)) (lv' := [(3, .int (x3 + 1)), (0, .ref (ad 0)), (1, .int x1), (2, .int x2)]) 3 dX10_couldWear_55 rfl rfl (by decide) rfl ?_
        refine V_goto C 22 dX10_couldWear_58 (by decide) ?_
        refine V_lv (ks := [1, 2, 3, 0]) rfl ?_
        exact ih x1 x2 (x3 + 1) hF
      · refine V_aload_n C 0 dX10_couldWear_41 rfl ?_
        refine gf_X10_53 C dX10_couldWear_42 ?_
        refine V_iload_n C 2 dX10_couldWear_45 rfl ?_
        refine V_iload_n C 3 dX10_couldWear_46 rfl ?_
        obtain ⟨q4, hq4, hF⟩ := bnd hF
        refine cs_X10_221 C (ct_X9_enough hq4) rfl ⟨by decide, by decide⟩ (Nat.le_of_ble_eq_true rfl) dX10_couldWear_47 ⟨Nat.le_refl 0, Nat.le_refl 0⟩ ?_
        refine V_if_ne C 55 dX10_couldWear_50 (by decide) hF (fun hF => ?_) (fun hF => ?_)
        · refine V_iinc C (v := (x3 + 1)) (lv' := [(3, .int (x3 + 1)), (0, .ref (ad 0)), (1, .int x1), (2, .int x2)]) 3 dX10_couldWear_55 rfl rfl (by decide) rfl ?_
          refine V_goto C 22 dX10_couldWear_58 (by decide) ?_
          refine V_lv (ks := [1, 2, 3, 0]) rfl ?_
          exact ih x1 x2 (x3 + 1) hF
        · refine V_iconst C dX10_couldWear_53 (v := (0 : Int32)) (by decide) ?_
          cases hF
          exact V_zret C hr hlk (Or.inl rfl) rfl rfl dX10_couldWear_54
set_option maxHeartbeats 4000000 in
set_option maxRecDepth 20000 in
theorem ct_X10_couldWear {a1 : Int32} {a2 : Int32} {σ : Mem} {r : Int32} (hF : F_X10_couldWear a1 a2 σ = some r) : Ct yX10_couldWear cX10_couldWear 4 (some .boolean) 3 65 (fun ad zz => [.ref (ad 0), .int a1, .int a2]) σ (fun ad => (some (.int r))) σ := by
  refine Ct_of (by decide +kernel) (lv := fun ad zz => [(0, .ref (ad 0)), (1, .int a1), (2, .int a2)]) (fun _ _ => rfl) (fun _ _ => Nat.le_of_ble_eq_true rfl) (fun p l e s m args below meth c D T ad zz C hr hlk => ?_)
  rw [F_X10_couldWear] at hF
  refine V_iload_n C 1 dX10_couldWear_0 rfl ?_
  obtain ⟨q1, hq1, hF⟩ := bnd hF
  refine cs_X10_335 C (ct_J6_bitCount_0f7a4 hq1) rfl ⟨by decide, by decide⟩ (Nat.le_of_ble_eq_true rfl) dX10_couldWear_1 ⟨Nat.le_refl 0, Nat.le_refl 0⟩ ?_
  refine V_aload_n C 0 dX10_couldWear_4 rfl ?_
  refine gf_X10_19 C dX10_couldWear_5 ?_
  refine gf_X10_138 C dX10_couldWear_8 ?_
  refine V_iload_n C 2 dX10_couldWear_11 rfl ?_
  obtain ⟨q2, hq2, hF⟩ := bnd hF
  refine cs_X10_142 C (ct_X10_at (by decide) hq2) rfl ⟨by decide, by decide⟩ (Nat.le_of_ble_eq_true rfl) dX10_couldWear_12 ⟨Nat.le_refl 0, Nat.le_refl 0⟩ ?_
  refine V_icmp_le C 20 dX10_couldWear_15 (by decide) hF (fun hF => ?_) (fun hF => ?_)
  · refine V_iconst C dX10_couldWear_20 (v := (0 : Int32)) (by decide) ?_
    refine V_istore_n C (lv' := [(3, .int (0 : Int32)), (0, .ref (ad 0)), (1, .int a1), (2, .int a2)]) dX10_couldWear_21 rfl (by decide) rfl ?_
    refine V_lv (ks := [1, 2, 3, 0]) rfl ?_
    exact w_X10_couldWear_b22 C hr hlk 4000 a1 a2 (0 : Int32) hF
  · refine V_iconst C dX10_couldWear_18 (v := (0 : Int32)) (by decide) ?_
    cases hF
    exact V_zret C hr hlk (Or.inl rfl) rfl rfl dX10_couldWear_19

def F_X10_truthTogether_b5 (σ : Mem) : Nat → Int32 → Int32 → Int32 → Int32 → Option Int32
  | 0, _, _, _, _ => none
  | n + 1, x1, x2, x3, x4 =>
    if (σ.1 2) ≤ x4 then
      some x3
    else
      Option.bind (F_X10_contains x1 x4 σ) fun q1 =>
      if q1 = 0 then
        (F_X10_truthTogether_b5 σ n) x1 x2 x3 (x4 + 1)
      else
        Option.bind (F_X10_at 6 (((3 : Int32) * x4) + x2) σ) fun q2 =>
        (F_X10_truthTogether_b5 σ n) x1 x2 (x3 + q2) (x4 + 1)
def F_X10_truthTogether (a1 : Int32) (a2 : Int32) (σ : Mem) : Option Int32 :=
  F_X10_truthTogether_b5 σ 4000 a1 a2 (0 : Int32) (0 : Int32)
set_option maxHeartbeats 4000000 in
set_option maxRecDepth 20000 in
theorem w_X10_truthTogether_b5 {p : Program} {l : Launch} {e : Env} {s : State} {m : MethodId} {args : Array Value} {below : List Frame} {meth : Method} {c : Code} {D : va_G} {T : Nat → ClassId} {ad zz : Nat → Nat} (C : Cx p s m c cX10_truthTogether 5 RX10 (fA ad) D T ad zz) (hr : meth.sig.returnType = (some .int)) (hlk : meth.locks = false) {σ : Mem} {r : Int32}  : ∀ (n : Nat), ∀ (x1 : Int32) (x2 : Int32) (x3 : Int32) (x4 : Int32), F_X10_truthTogether_b5 σ n x1 x2 x3 x4 = some r → V p l e { frames := 1, cells := 0, slots := 0, locals := 21 } s m args below meth c 0 0 (MQ below (qC (some (.int r)) σ D T ad) args s 0 0 (fA ad)) 5 (fA ad) D T ad σ 5 [(0, .ref (ad 0)), (1, .int x1), (2, .int x2), (3, .int x3), (4, .int x4)] [] := by
  intro n
  induction n with
  | zero =>
    intro x1 x2 x3 x4 hF
    cases (show (none : Option Int32) = some r from hF)
  | succ n ih =>
    intro x1 x2 x3 x4 hF
    rw [F_X10_truthTogether_b5] at hF
    refine V_iload C 4 dX10_truthTogether_5 rfl ?_
    refine V_aload_n C 0 dX10_truthTogether_7 rfl ?_
    refine gf_X10_19 C dX10_truthTogether_8 ?_
    refine gf_X10_119 C dX10_truthTogether_11 ?_
    refine V_icmp_ge C 51 dX10_truthTogether_14 (by decide) hF (fun hF => ?_) (fun hF => ?_)
    · refine V_iload_n C 3 dX10_truthTogether_51 rfl ?_
      cases hF
      exact V_iret C hr hlk rfl rfl dX10_truthTogether_52
    · refine V_iload_n C 1 dX10_truthTogether_17 rfl ?_
      refine V_iload C 4 dX10_truthTogether_18 rfl ?_
      obtain ⟨q1, hq1, hF⟩ := bnd hF
      refine cs_X10_252 C (ct_X10_contains hq1) rfl ⟨by decide, by decide⟩ (Nat.le_of_ble_eq_true rfl) dX10_truthTogether_20 ⟨Nat.le_refl 0, Nat.le_refl 0⟩ ?_
      refine V_if_eq C 45 dX10_truthTogether_23 (by decide) hF (fun hF => ?_) (fun hF => ?_)
      · refine V_iinc C (v := (x4 + 1)) (lv' := [(4, .int (x4 + 1)), (0, .ref (ad 0)), (1, .int x1), (2, .int x2), (3, .int x3)]) 4 dX10_truthTogether_45 rfl rfl (by decide) rfl ?_
        refine V_goto C 5 dX10_truthTogether_48 (by decide) ?_
        refine V_lv (ks := [1, 2, 3, 4, 0]) rfl ?_
        exact ih x1 x2 x3 (x4 + 1) hF
      · refine V_iload_n C 3 dX10_truthTogether_26 rfl ?_
        refine V_aload_n C 0 dX10_truthTogether_27 rfl ?_
        refine gf_X10_19 C dX10_truthTogether_28 ?_
        refine gf_X10_168 C dX10_truthTogether_31 ?_
        refine V_iconst C dX10_truthTogether_34 (v := (3 : Int32)) (by decide) ?_
        refine V_iload C 4 dX10_truthTogether_35 rfl ?_
        refine V_imul C dX10_truthTogether_37 ?_
        refine V_iload_n C 2 dX10_truthTogether_38 rfl ?_
        refine V_iadd C dX10_truthTogether_39 ?_
        obtain ⟨q2, hq2, hF⟩ := bnd hF
        refine cs_X10_142 C (ct_X10_at (by decide) hq2) rfl ⟨by decide, by decide⟩ (Nat.le_of_ble_eq_true rfl) dX10_truthTogether_40 ⟨Nat.le_refl 0, Nat.le_refl 0⟩ ?_
        refine V_iadd C dX10_truthTogether_43 ?_
        refine V_istore_n C (lv' := [(3, .int (x3 + q2)), (0, .ref (ad 0)), (1, .int x1), (2, .int x2), (4, .int x4)]) dX10_truthTogether_44 rfl (by decide) rfl ?_
        refine V_iinc C (v := (x4 + 1)) (lv' := [(4, .int (x4 + 1)), (3, .int (x3 + q2)), (0, .ref (ad 0)), (1, .int x1), (2, .int x2)]) 4 dX10_truthTogether_45 rfl rfl (by decide) rfl ?_
        refine V_goto C 5 dX10_truthTogether_48 (by decide) ?_
        refine V_lv (ks := [2, 3, 4, 1, 0]) rfl ?_
        exact ih x1 x2 (x3 + q2) (x4 + 1) hF
set_option maxHeartbeats 4000000 in
set_option maxRecDepth 20000 in
theorem ct_X10_truthTogether {a1 : Int32} {a2 : Int32} {σ : Mem} {r : Int32} (hF : F_X10_truthTogether a1 a2 σ = some r) : Ct yX10_truthTogether cX10_truthTogether 5 (some .int) 1 21 (fun ad zz => [.ref (ad 0), .int a1, .int a2]) σ (fun ad => (some (.int r))) σ := by
  refine Ct_of (by decide +kernel) (lv := fun ad zz => [(0, .ref (ad 0)), (1, .int a1), (2, .int a2)]) (fun _ _ => rfl) (fun _ _ => Nat.le_of_ble_eq_true rfl) (fun p l e s m args below meth c D T ad zz C hr hlk => ?_)
  rw [F_X10_truthTogether] at hF
  refine V_iconst C dX10_truthTogether_0 (v := (0 : Int32)) (by decide) ?_
  refine V_istore_n C (lv' := [(3, .int (0 : Int32)), (0, .ref (ad 0)), (1, .int a1), (2, .int a2)]) dX10_truthTogether_1 rfl (by decide) rfl ?_
  refine V_iconst C dX10_truthTogether_2 (v := (0 : Int32)) (by decide) ?_
  refine V_istore C (lv' := [(4, .int (0 : Int32)), (3, .int (0 : Int32)), (0, .ref (ad 0)), (1, .int a1), (2, .int a2)]) dX10_truthTogether_3 (by decide) rfl ?_
  refine V_lv (ks := [2, 3, 4, 1, 0]) rfl ?_
  exact w_X10_truthTogether_b5 C hr hlk 4000 a1 a2 (0 : Int32) (0 : Int32) hF

def F_X10_saddles_b70  : Nat → Int32 → Int32 → Int32 → Int32 → Int32 → Int32 → Int32 → Mem → Option (Int32 × Mem)
  | 0, _, _, _, _, _, _, _, _ => none
  | n + 1, x1, x2, x3, x4, x5, x6, x7, σ =>
    Option.bind (F_X3_allRiders σ) fun q5 =>
    if q5 < x7 then
      if x4 = 0 then
        some (x5, σ)
      else
        if x5 = 0 then
          some ((-9 : Int32), σ)
        else
          some (x6, σ)
    else
      Option.bind (F_X10_couldWear x7 x1 σ) fun q6 =>
      if q6 = 0 then
        (F_X10_saddles_b70 n) x1 x2 x3 x4 x5 x6 (x7 + 1) σ
      else
        Option.bind (F_X10_truthTogether x7 x2 σ) fun q7 =>
        if q7 = x3 then
          (F_X10_saddles_b70 n) x1 x2 x3 x4 (x5 + 1) (x6 &&& x7) (x7 + 1) σ
        else
          (F_X10_saddles_b70 n) x1 x2 x3 x4 x5 x6 (x7 + 1) σ
def F_X10_saddles (a1 : Int32) (a2 : Int32) (a3 : Int32) (a4 : Int32) (σ : Mem) : Option (Int32 × Mem) :=
  Option.bind (F_X3_hasHorse a1 σ) fun q1 =>
  if q1 = 0 then
    some ((-1 : Int32), σ)
  else
    Option.bind (F_X10_isTrait a2 σ) fun q2 =>
    if q2 = 0 then
      some ((-2 : Int32), σ)
    else
      if a3 < 0 then
        some ((-2 : Int32), σ)
      else
        if (27 : Int32) < a3 then
          some ((-2 : Int32), σ)
        else
          if a4 = 0 then
            Option.bind (F_X9_weigh 0 σ) fun σ3 =>
            Option.bind (F_X3_allRiders σ3) fun q4 =>
            F_X10_saddles_b70 4000 a1 a2 a3 a4 (0 : Int32) q4 (0 : Int32) σ3
          else
            if a4 = (1 : Int32) then
              Option.bind (F_X9_weigh 0 σ) fun σ8 =>
              Option.bind (F_X3_allRiders σ8) fun q9 =>
              F_X10_saddles_b70 4000 a1 a2 a3 a4 (0 : Int32) q9 (0 : Int32) σ8
            else
              some ((-2 : Int32), σ)
set_option maxHeartbeats 4000000 in
set_option maxRecDepth 20000 in
theorem w_X10_saddles_b70 {p : Program} {l : Launch} {e : Env} {s : State} {m : MethodId} {args : Array Value} {below : List Frame} {meth : Method} {c : Code} {D : va_G} {T : Nat → ClassId} {ad zz : Nat → Nat} (C : Cx p s m c cX10_saddles 8 RX10 (fA ad) D T ad zz) (hr : meth.sig.returnType = (some .int)) (hlk : meth.locks = false) {r : (Int32 × Mem)}  : ∀ (n : Nat), ∀ (x1 : Int32) (x2 : Int32) (x3 : Int32) (x4 : Int32) (x5 : Int32) (x6 : Int32) (x7 : Int32) (σ : Mem), F_X10_saddles_b70  n x1 x2 x3 x4 x5 x6 x7 σ = some r → V p l e { frames := 4, cells := 0, slots := 0, locals := 88 } s m args below meth c 0 0 (MQ below (qC (some (.int r.1)) r.2 D T ad) args s 0 0 (fA ad)) 8 (fA ad) D T ad σ 70 [(0, .ref (ad 0)), (1, .int x1), (2, .int x2), (3, .int x3), (4, .int x4), (5, .int x5), (6, .int x6), (7, .int x7)] [] := by
  intro n
  induction n with
  | zero =>
    intro x1 x2 x3 x4 x5 x6 x7 σ hF
    cases (show (none : Option (Int32 × Mem)) = some r from hF)
  | succ n ih =>
    intro x1 x2 x3 x4 x5 x6 x7 σ hF
    rw [F_X10_saddles_b70] at hF
    refine V_iload C 7 dX10_saddles_70 rfl ?_
    refine V_aload_n C 0 dX10_saddles_72 rfl ?_
    refine gf_X10_19 C dX10_saddles_73 ?_
    obtain ⟨q5, hq5, hF⟩ := bnd hF
    refine cs_X10_235 C (ct_X3_allRiders hq5) rfl ⟨by decide, by decide⟩ (Nat.le_of_ble_eq_true rfl) dX10_saddles_76 ⟨Nat.le_refl 0, Nat.le_refl 0⟩ ?_
    refine V_icmp_gt C 119 dX10_saddles_79 (by decide) hF (fun hF => ?_) (fun hF => ?_)
    · refine V_iload C 4 dX10_saddles_119 rfl ?_
      refine V_if_ne C 127 dX10_saddles_121 (by decide) hF (fun hF => ?_) (fun hF => ?_)
      · refine V_iload C 5 dX10_saddles_127 rfl ?_
        refine V_if_ne C 137 dX10_saddles_129 (by decide) hF (fun hF => ?_) (fun hF => ?_)
        · refine V_iload C 6 dX10_saddles_137 rfl ?_
          cases hF
          exact V_iret C hr hlk rfl rfl dX10_saddles_139
        · refine V_bipush C dX10_saddles_132 (v := (-9 : Int32)) (by decide) ?_
          refine V_goto C 139 dX10_saddles_134 (by decide) ?_
          cases hF
          exact V_iret C hr hlk rfl rfl dX10_saddles_139
      · refine V_iload C 5 dX10_saddles_124 rfl ?_
        cases hF
        exact V_iret C hr hlk rfl rfl dX10_saddles_126
    · refine V_aload_n C 0 dX10_saddles_82 rfl ?_
      refine V_iload C 7 dX10_saddles_83 rfl ?_
      refine V_iload_n C 1 dX10_saddles_85 rfl ?_
      obtain ⟨q6, hq6, hF⟩ := bnd hF
      refine cs_X10_305 C (ct_X10_couldWear hq6) rfl ⟨by decide, by decide⟩ (Nat.le_of_ble_eq_true rfl) dX10_saddles_86 ⟨Nat.le_refl 0, Nat.le_refl 0⟩ ?_
      refine V_if_eq C 113 dX10_saddles_89 (by decide) hF (fun hF => ?_) (fun hF => ?_)
      · refine V_iinc C (v := (x7 + 1)) (lv' := [(7, .int (x7 + 1)), (0, .ref (ad 0)), (1, .int x1), (2, .int x2), (3, .int x3), (4, .int x4), (5, .int x5), (6, .int x6)]) 7 dX10_saddles_113 rfl rfl (by decide) rfl ?_
        refine V_goto C 70 dX10_saddles_116 (by decide) ?_
        refine V_lv (ks := [1, 2, 3, 4, 5, 6, 7, 0]) rfl ?_
        exact ih x1 x2 x3 x4 x5 x6 (x7 + 1) σ hF
      · refine V_aload_n C 0 dX10_saddles_92 rfl ?_
        refine V_iload C 7 dX10_saddles_93 rfl ?_
        refine V_iload_n C 2 dX10_saddles_95 rfl ?_
        obtain ⟨q7, hq7, hF⟩ := bnd hF
        refine cs_X10_308 C (ct_X10_truthTogether hq7) rfl ⟨by decide, by decide⟩ (Nat.le_of_ble_eq_true rfl) dX10_saddles_96 ⟨Nat.le_refl 0, Nat.le_refl 0⟩ ?_
        refine V_iload_n C 3 dX10_saddles_99 rfl ?_
        refine V_icmp_ne C 113 dX10_saddles_100 (by decide) hF (fun hF => ?_) (fun hF => ?_)
        · refine V_iinc C (v := (x7 + 1)) (lv' := [(7, .int (x7 + 1)), (0, .ref (ad 0)), (1, .int x1), (2, .int x2), (3, .int x3), (4, .int x4), (5, .int x5), (6, .int x6)]) 7 dX10_saddles_113 rfl rfl (by decide) rfl ?_
          refine V_goto C 70 dX10_saddles_116 (by decide) ?_
          refine V_lv (ks := [1, 2, 3, 4, 5, 6, 7, 0]) rfl ?_
          exact ih x1 x2 x3 x4 x5 x6 (x7 + 1) σ hF
        · refine V_iinc C (v := (x5 + 1)) (lv' := [(5, .int (x5 + 1)), (0, .ref (ad 0)), (1, .int x1), (2, .int x2), (3, .int x3), (4, .int x4), (6, .int x6), (7, .int x7)]) 5 dX10_saddles_103 rfl rfl (by decide) rfl ?_
          refine V_iload C 6 dX10_saddles_106 rfl ?_
          refine V_iload C 7 dX10_saddles_108 rfl ?_
          refine V_iand C dX10_saddles_110 ?_
          refine V_istore C (lv' := [(6, .int (x6 &&& x7)), (5, .int (x5 + 1)), (0, .ref (ad 0)), (1, .int x1), (2, .int x2), (3, .int x3), (4, .int x4), (7, .int x7)]) dX10_saddles_111 (by decide) rfl ?_
          refine V_iinc C (v := (x7 + 1)) (lv' := [(7, .int (x7 + 1)), (6, .int (x6 &&& x7)), (5, .int (x5 + 1)), (0, .ref (ad 0)), (1, .int x1), (2, .int x2), (3, .int x3), (4, .int x4)]) 7 dX10_saddles_113 rfl rfl (by decide) rfl ?_
          refine V_goto C 70 dX10_saddles_116 (by decide) ?_
          refine V_lv (ks := [3, 4, 5, 6, 7, 2, 1, 0]) rfl ?_
          exact ih x1 x2 x3 x4 (x5 + 1) (x6 &&& x7) (x7 + 1) σ hF
set_option maxHeartbeats 4000000 in
set_option maxRecDepth 20000 in
theorem ct_X10_saddles {a1 : Int32} {a2 : Int32} {a3 : Int32} {a4 : Int32} {σ : Mem} {r : (Int32 × Mem)} (hF : F_X10_saddles a1 a2 a3 a4 σ = some r) : Ct yX10_saddles cX10_saddles 8 (some .int) 4 88 (fun ad zz => [.ref (ad 0), .int a1, .int a2, .int a3, .int a4]) σ (fun ad => (some (.int r.1))) r.2 := by
  refine Ct_of (by decide +kernel) (lv := fun ad zz => [(0, .ref (ad 0)), (1, .int a1), (2, .int a2), (3, .int a3), (4, .int a4)]) (fun _ _ => rfl) (fun _ _ => Nat.le_of_ble_eq_true rfl) (fun p l e s m args below meth c D T ad zz C hr hlk => ?_)
  rw [F_X10_saddles] at hF
  refine V_aload_n C 0 dX10_saddles_0 rfl ?_
  refine gf_X10_19 C dX10_saddles_1 ?_
  refine V_iload_n C 1 dX10_saddles_4 rfl ?_
  obtain ⟨q1, hq1, hF⟩ := bnd hF
  refine cs_X10_135 C (ct_X3_hasHorse hq1) rfl ⟨by decide, by decide⟩ (Nat.le_of_ble_eq_true rfl) dX10_saddles_5 ⟨Nat.le_refl 0, Nat.le_refl 0⟩ ?_
  refine V_if_ne C 13 dX10_saddles_8 (by decide) hF (fun hF => ?_) (fun hF => ?_)
  · refine V_iload_n C 2 dX10_saddles_13 rfl ?_
    obtain ⟨q2, hq2, hF⟩ := bnd hF
    refine cs_X10_198 C (ct_X10_isTrait hq2) rfl ⟨by decide, by decide⟩ (Nat.le_of_ble_eq_true rfl) dX10_saddles_14 ⟨Nat.le_refl 0, Nat.le_refl 0⟩ ?_
    refine V_if_eq C 41 dX10_saddles_17 (by decide) hF (fun hF => ?_) (fun hF => ?_)
    · refine V_bipush C dX10_saddles_41 (v := (-2 : Int32)) (by decide) ?_
      cases hF
      exact V_iret C hr hlk rfl rfl dX10_saddles_43
    · refine V_iload_n C 3 dX10_saddles_20 rfl ?_
      refine V_if_lt C 41 dX10_saddles_21 (by decide) hF (fun hF => ?_) (fun hF => ?_)
      · refine V_bipush C dX10_saddles_41 (v := (-2 : Int32)) (by decide) ?_
        cases hF
        exact V_iret C hr hlk rfl rfl dX10_saddles_43
      · refine V_iload_n C 3 dX10_saddles_24 rfl ?_
        refine V_bipush C dX10_saddles_25 (v := (27 : Int32)) (by decide) ?_
        refine V_icmp_gt C 41 dX10_saddles_27 (by decide) hF (fun hF => ?_) (fun hF => ?_)
        · refine V_bipush C dX10_saddles_41 (v := (-2 : Int32)) (by decide) ?_
          cases hF
          exact V_iret C hr hlk rfl rfl dX10_saddles_43
        · refine V_iload C 4 dX10_saddles_30 rfl ?_
          refine V_if_eq C 44 dX10_saddles_32 (by decide) hF (fun hF => ?_) (fun hF => ?_)
          · refine V_aload_n C 0 dX10_saddles_44 rfl ?_
            refine gf_X10_53 C dX10_saddles_45 ?_
            refine V_aload_n C 0 dX10_saddles_48 rfl ?_
            refine gf_X10_26 C dX10_saddles_49 ?_
            obtain ⟨σ3, hs3, hF⟩ := bnd hF
            refine cs_X10_184 C (ct_X9_weigh (by decide) hs3) rfl ⟨by decide, by decide⟩ (Nat.le_of_ble_eq_true rfl) dX10_saddles_52 ⟨Nat.le_refl 0, Nat.le_refl 0⟩ ?_
            refine V_iconst C dX10_saddles_55 (v := (0 : Int32)) (by decide) ?_
            refine V_istore C (lv' := [(5, .int (0 : Int32)), (0, .ref (ad 0)), (1, .int a1), (2, .int a2), (3, .int a3), (4, .int a4)]) dX10_saddles_56 (by decide) rfl ?_
            refine V_aload_n C 1 dX10_saddles_58 rfl ?_
            refine gf_X10_19 C dX10_saddles_59 ?_
            obtain ⟨q4, hq4, hF⟩ := bnd hF
            refine cs_X10_235 C (ct_X3_allRiders hq4) rfl ⟨by decide, by decide⟩ (Nat.le_of_ble_eq_true rfl) dX10_saddles_62 ⟨Nat.le_refl 0, Nat.le_refl 0⟩ ?_
            refine V_istore C (lv' := [(6, .int q4), (5, .int (0 : Int32)), (0, .ref (ad 0)), (1, .int a1), (2, .int a2), (3, .int a3), (4, .int a4)]) dX10_saddles_65 (by decide) rfl ?_
            refine V_iconst C dX10_saddles_67 (v := (0 : Int32)) (by decide) ?_
            refine V_istore C (lv' := [(7, .int (0 : Int32)), (6, .int q4), (5, .int (0 : Int32)), (0, .ref (ad 0)), (1, .int a1), (2, .int a2), (3, .int a3), (4, .int a4)]) dX10_saddles_68 (by decide) rfl ?_
            refine V_lv (ks := [3, 4, 5, 6, 7, 2, 1, 0]) rfl ?_
            exact w_X10_saddles_b70 C hr hlk 4000 a1 a2 a3 a4 (0 : Int32) q4 (0 : Int32) σ3 hF
          · refine V_iload C 4 dX10_saddles_35 rfl ?_
            refine V_iconst C dX10_saddles_37 (v := (1 : Int32)) (by decide) ?_
            refine V_icmp_eq C 44 dX10_saddles_38 (by decide) hF (fun hF => ?_) (fun hF => ?_)
            · refine V_aload_n C 0 dX10_saddles_44 rfl ?_
              refine gf_X10_53 C dX10_saddles_45 ?_
              refine V_aload_n C 0 dX10_saddles_48 rfl ?_
              refine gf_X10_26 C dX10_saddles_49 ?_
              obtain ⟨σ8, hs8, hF⟩ := bnd hF
              refine cs_X10_184 C (ct_X9_weigh (by decide) hs8) rfl ⟨by decide, by decide⟩ (Nat.le_of_ble_eq_true rfl) dX10_saddles_52 ⟨Nat.le_refl 0, Nat.le_refl 0⟩ ?_
              refine V_iconst C dX10_saddles_55 (v := (0 : Int32)) (by decide) ?_
              refine V_istore C (lv' := [(5, .int (0 : Int32)), (0, .ref (ad 0)), (1, .int a1), (2, .int a2), (3, .int a3), (4, .int a4)]) dX10_saddles_56 (by decide) rfl ?_
              refine V_aload_n C 1 dX10_saddles_58 rfl ?_
              refine gf_X10_19 C dX10_saddles_59 ?_
              obtain ⟨q9, hq9, hF⟩ := bnd hF
              refine cs_X10_235 C (ct_X3_allRiders hq9) rfl ⟨by decide, by decide⟩ (Nat.le_of_ble_eq_true rfl) dX10_saddles_62 ⟨Nat.le_refl 0, Nat.le_refl 0⟩ ?_
              refine V_istore C (lv' := [(6, .int q9), (5, .int (0 : Int32)), (0, .ref (ad 0)), (1, .int a1), (2, .int a2), (3, .int a3), (4, .int a4)]) dX10_saddles_65 (by decide) rfl ?_
              refine V_iconst C dX10_saddles_67 (v := (0 : Int32)) (by decide) ?_
              refine V_istore C (lv' := [(7, .int (0 : Int32)), (6, .int q9), (5, .int (0 : Int32)), (0, .ref (ad 0)), (1, .int a1), (2, .int a2), (3, .int a3), (4, .int a4)]) dX10_saddles_68 (by decide) rfl ?_
              refine V_lv (ks := [3, 4, 5, 6, 7, 2, 1, 0]) rfl ?_
              exact w_X10_saddles_b70 C hr hlk 4000 a1 a2 a3 a4 (0 : Int32) q9 (0 : Int32) σ8 hF
            · refine V_bipush C dX10_saddles_41 (v := (-2 : Int32)) (by decide) ?_
              cases hF
              exact V_iret C hr hlk rfl rfl dX10_saddles_43
  · refine V_iconst C dX10_saddles_11 (v := (-1 : Int32)) (by decide) ?_
    cases hF
    exact V_iret C hr hlk rfl rfl dX10_saddles_12

def F_X10_greatestDivisor_b7 (σ : Mem) : Nat → Int32 → Int32 → Int32 → Option Int32
  | 0, _, _, _ => none
  | n + 1, x2, x3, x4 =>
    if (64 : Int32) ≤ x4 then
      some x2
    else
      if x3 = 0 then
        some x2
      else
        Option.bind (rmI x2 x3) fun v1 =>
        (F_X10_greatestDivisor_b7 σ n) x3 v1 (x4 + 1)
def F_X10_greatestDivisor (a1 : Int32) (a2 : Int32) (σ : Mem) : Option Int32 :=
  F_X10_greatestDivisor_b7 σ 4000 a1 a2 (0 : Int32)
set_option maxHeartbeats 4000000 in
set_option maxRecDepth 20000 in
theorem w_X10_greatestDivisor_b7 {p : Program} {l : Launch} {e : Env} {s : State} {m : MethodId} {args : Array Value} {below : List Frame} {meth : Method} {c : Code} {D : va_G} {T : Nat → ClassId} {ad zz : Nat → Nat} (C : Cx p s m c cX10_greatestDivisor 6 RX10 (fA ad) D T ad zz) (hr : meth.sig.returnType = (some .int)) (hlk : meth.locks = false) {σ : Mem} {r : Int32}  : ∀ (n : Nat), ∀ (x2 : Int32) (x3 : Int32) (x4 : Int32), F_X10_greatestDivisor_b7 σ n x2 x3 x4 = some r → V p l e { frames := 0, cells := 0, slots := 0, locals := 0 } s m args below meth c 0 0 (MQ below (qC (some (.int r)) σ D T ad) args s 0 0 (fA ad)) 6 (fA ad) D T ad σ 7 [(2, .int x2), (3, .int x3), (4, .int x4)] [] := by
  intro n
  induction n with
  | zero =>
    intro x2 x3 x4 hF
    cases (show (none : Option Int32) = some r from hF)
  | succ n ih =>
    intro x2 x3 x4 hF
    rw [F_X10_greatestDivisor_b7] at hF
    refine V_iload C 2 dX10_greatestDivisor_7 rfl ?_
    refine V_bipush C dX10_greatestDivisor_9 (v := (64 : Int32)) (by decide) ?_
    refine V_icmp_ge C 34 dX10_greatestDivisor_11 (by decide) hF (fun hF => ?_) (fun hF => ?_)
    · refine V_iload_n C 0 dX10_greatestDivisor_34 rfl ?_
      cases hF
      exact V_iret C hr hlk rfl rfl dX10_greatestDivisor_35
    · refine V_iload_n C 1 dX10_greatestDivisor_14 rfl ?_
      refine V_if_eq C 34 dX10_greatestDivisor_15 (by decide) hF (fun hF => ?_) (fun hF => ?_)
      · refine V_iload_n C 0 dX10_greatestDivisor_34 rfl ?_
        cases hF
        exact V_iret C hr hlk rfl rfl dX10_greatestDivisor_35
      · refine V_iload_n C 0 dX10_greatestDivisor_18 rfl ?_
        refine V_iload_n C 1 dX10_greatestDivisor_19 rfl ?_
        obtain ⟨v1, hv1, hF⟩ := bnd hF
        refine V_irem C hv1 dX10_greatestDivisor_20 ?_
        refine V_istore C (lv' := [(5, .int v1), (2, .int x2), (3, .int x3), (4, .int x4)]) dX10_greatestDivisor_21 (by decide) rfl ?_
        refine V_iload_n C 2 dX10_greatestDivisor_23 rfl ?_
        refine V_istore_n C (lv' := [(2, .int x3), (5, .int v1), (3, .int x3), (4, .int x4)]) dX10_greatestDivisor_24 rfl (by decide) rfl ?_
        refine V_iload C 1 dX10_greatestDivisor_25 rfl ?_
        refine V_istore_n C (lv' := [(3, .int v1), (2, .int x3), (5, .int v1), (4, .int x4)]) dX10_greatestDivisor_27 rfl (by decide) rfl ?_
        refine V_iinc C (v := (x4 + 1)) (lv' := [(4, .int (x4 + 1)), (3, .int v1), (2, .int x3), (5, .int v1)]) 3 dX10_greatestDivisor_28 rfl rfl (by decide) rfl ?_
        refine V_goto C 7 dX10_greatestDivisor_31 (by decide) ?_
        refine V_lv (ks := [2, 1, 0]) rfl ?_
        exact ih x3 v1 (x4 + 1) hF
set_option maxHeartbeats 4000000 in
set_option maxRecDepth 20000 in
theorem ct_X10_greatestDivisor {a1 : Int32} {a2 : Int32} {σ : Mem} {r : Int32} (hF : F_X10_greatestDivisor a1 a2 σ = some r) : Ct yX10_greatestDivisor cX10_greatestDivisor 6 (some .int) 0 0 (fun ad zz => [.int a1, .int a2]) σ (fun ad => (some (.int r))) σ := by
  refine Ct_of (by decide +kernel) (lv := fun ad zz => [(0, .int a1), (1, .int a2)]) (fun _ _ => rfl) (fun _ _ => Nat.le_of_ble_eq_true rfl) (fun p l e s m args below meth c D T ad zz C hr hlk => ?_)
  rw [F_X10_greatestDivisor] at hF
  refine V_iload_n C 0 dX10_greatestDivisor_0 rfl ?_
  refine V_istore_n C (lv' := [(2, .int a1), (0, .int a1), (1, .int a2)]) dX10_greatestDivisor_1 rfl (by decide) rfl ?_
  refine V_iload_n C 2 dX10_greatestDivisor_2 rfl ?_
  refine V_istore_n C (lv' := [(3, .int a2), (2, .int a1), (0, .int a1), (1, .int a2)]) dX10_greatestDivisor_3 rfl (by decide) rfl ?_
  refine V_iconst C dX10_greatestDivisor_4 (v := (0 : Int32)) (by decide) ?_
  refine V_istore C (lv' := [(4, .int (0 : Int32)), (3, .int a2), (2, .int a1), (0, .int a1), (1, .int a2)]) dX10_greatestDivisor_5 (by decide) rfl ?_
  refine V_lv (ks := [2, 1, 0]) rfl ?_
  exact w_X10_greatestDivisor_b7 C hr hlk 4000 a1 a2 (0 : Int32) hF

def F_X10_chanceOfSet_b5 (σ : Mem) : Nat → Int32 → Int32 → Int32 → Int32 → Option Int32
  | 0, _, _, _, _ => none
  | n + 1, x1, x2, x3, x4 =>
    if (σ.1 2) ≤ x4 then
      some x3
    else
      Option.bind (F_X10_contains x1 x4 σ) fun q1 =>
      if q1 = 0 then
        (F_X10_chanceOfSet_b5 σ n) x1 x2 (x3 * ((10 : Int32) - x2)) (x4 + 1)
      else
        (F_X10_chanceOfSet_b5 σ n) x1 x2 (x3 * x2) (x4 + 1)
def F_X10_chanceOfSet (a1 : Int32) (a2 : Int32) (σ : Mem) : Option Int32 :=
  F_X10_chanceOfSet_b5 σ 4000 a1 a2 (1 : Int32) (0 : Int32)
set_option maxHeartbeats 4000000 in
set_option maxRecDepth 20000 in
theorem w_X10_chanceOfSet_b5 {p : Program} {l : Launch} {e : Env} {s : State} {m : MethodId} {args : Array Value} {below : List Frame} {meth : Method} {c : Code} {D : va_G} {T : Nat → ClassId} {ad zz : Nat → Nat} (C : Cx p s m c cX10_chanceOfSet 5 RX10 (fA ad) D T ad zz) (hr : meth.sig.returnType = (some .int)) (hlk : meth.locks = false) {σ : Mem} {r : Int32}  : ∀ (n : Nat), ∀ (x1 : Int32) (x2 : Int32) (x3 : Int32) (x4 : Int32), F_X10_chanceOfSet_b5 σ n x1 x2 x3 x4 = some r → V p l e { frames := 1, cells := 0, slots := 0, locals := 21 } s m args below meth c 0 0 (MQ below (qC (some (.int r)) σ D T ad) args s 0 0 (fA ad)) 5 (fA ad) D T ad σ 5 [(0, .ref (ad 0)), (1, .int x1), (2, .int x2), (3, .int x3), (4, .int x4)] [] := by
  intro n
  induction n with
  | zero =>
    intro x1 x2 x3 x4 hF
    cases (show (none : Option Int32) = some r from hF)
  | succ n ih =>
    intro x1 x2 x3 x4 hF
    rw [F_X10_chanceOfSet_b5] at hF
    refine V_iload C 4 dX10_chanceOfSet_5 rfl ?_
    refine V_aload_n C 0 dX10_chanceOfSet_7 rfl ?_
    refine gf_X10_19 C dX10_chanceOfSet_8 ?_
    refine gf_X10_119 C dX10_chanceOfSet_11 ?_
    refine V_icmp_ge C 43 dX10_chanceOfSet_14 (by decide) hF (fun hF => ?_) (fun hF => ?_)
    · refine V_iload_n C 3 dX10_chanceOfSet_43 rfl ?_
      cases hF
      exact V_iret C hr hlk rfl rfl dX10_chanceOfSet_44
    · refine V_iload_n C 3 dX10_chanceOfSet_17 rfl ?_
      refine V_iload_n C 1 dX10_chanceOfSet_18 rfl ?_
      refine V_iload C 4 dX10_chanceOfSet_19 rfl ?_
      obtain ⟨q1, hq1, hF⟩ := bnd hF
      refine cs_X10_252 C (ct_X10_contains hq1) rfl ⟨by decide, by decide⟩ (Nat.le_of_ble_eq_true rfl) dX10_chanceOfSet_21 ⟨Nat.le_refl 0, Nat.le_refl 0⟩ ?_
      refine V_if_eq C 31 dX10_chanceOfSet_24 (by decide) hF (fun hF => ?_) (fun hF => ?_)
      · refine V_bipush C dX10_chanceOfSet_31 (v := (10 : Int32)) (by decide) ?_
        refine V_iload_n C 2 dX10_chanceOfSet_33 rfl ?_
        refine V_isub C dX10_chanceOfSet_34 ?_
        refine V_imul C dX10_chanceOfSet_35 ?_
        refine V_istore_n C (lv' := [(3, .int (x3 * ((10 : Int32) - x2))), (0, .ref (ad 0)), (1, .int x1), (2, .int x2), (4, .int x4)]) dX10_chanceOfSet_36 rfl (by decide) rfl ?_
        refine V_iinc C (v := (x4 + 1)) (lv' := [(4, .int (x4 + 1)), (3, .int (x3 * ((10 : Int32) - x2))), (0, .ref (ad 0)), (1, .int x1), (2, .int x2)]) 4 dX10_chanceOfSet_37 rfl rfl (by decide) rfl ?_
        refine V_goto C 5 dX10_chanceOfSet_40 (by decide) ?_
        refine V_lv (ks := [2, 3, 4, 1, 0]) rfl ?_
        exact ih x1 x2 (x3 * ((10 : Int32) - x2)) (x4 + 1) hF
      · refine V_iload_n C 2 dX10_chanceOfSet_27 rfl ?_
        refine V_goto C 35 dX10_chanceOfSet_28 (by decide) ?_
        refine V_imul C dX10_chanceOfSet_35 ?_
        refine V_istore_n C (lv' := [(3, .int (x3 * x2)), (0, .ref (ad 0)), (1, .int x1), (2, .int x2), (4, .int x4)]) dX10_chanceOfSet_36 rfl (by decide) rfl ?_
        refine V_iinc C (v := (x4 + 1)) (lv' := [(4, .int (x4 + 1)), (3, .int (x3 * x2)), (0, .ref (ad 0)), (1, .int x1), (2, .int x2)]) 4 dX10_chanceOfSet_37 rfl rfl (by decide) rfl ?_
        refine V_goto C 5 dX10_chanceOfSet_40 (by decide) ?_
        refine V_lv (ks := [2, 3, 4, 1, 0]) rfl ?_
        exact ih x1 x2 (x3 * x2) (x4 + 1) hF
set_option maxHeartbeats 4000000 in
set_option maxRecDepth 20000 in
theorem ct_X10_chanceOfSet {a1 : Int32} {a2 : Int32} {σ : Mem} {r : Int32} (hF : F_X10_chanceOfSet a1 a2 σ = some r) : Ct yX10_chanceOfSet cX10_chanceOfSet 5 (some .int) 1 21 (fun ad zz => [.ref (ad 0), .int a1, .int a2]) σ (fun ad => (some (.int r))) σ := by
  refine Ct_of (by decide +kernel) (lv := fun ad zz => [(0, .ref (ad 0)), (1, .int a1), (2, .int a2)]) (fun _ _ => rfl) (fun _ _ => Nat.le_of_ble_eq_true rfl) (fun p l e s m args below meth c D T ad zz C hr hlk => ?_)
  rw [F_X10_chanceOfSet] at hF
  refine V_iconst C dX10_chanceOfSet_0 (v := (1 : Int32)) (by decide) ?_
  refine V_istore_n C (lv' := [(3, .int (1 : Int32)), (0, .ref (ad 0)), (1, .int a1), (2, .int a2)]) dX10_chanceOfSet_1 rfl (by decide) rfl ?_
  refine V_iconst C dX10_chanceOfSet_2 (v := (0 : Int32)) (by decide) ?_
  refine V_istore C (lv' := [(4, .int (0 : Int32)), (3, .int (1 : Int32)), (0, .ref (ad 0)), (1, .int a1), (2, .int a2)]) dX10_chanceOfSet_3 (by decide) rfl ?_
  refine V_lv (ks := [2, 3, 4, 1, 0]) rfl ?_
  exact w_X10_chanceOfSet_b5 C hr hlk 4000 a1 a2 (1 : Int32) (0 : Int32) hF

def F_X10_chance_b85  : Nat → Int32 → Int32 → Int32 → Int32 → Int32 → Int32 → Int32 → Mem → Option (Int32 × Mem)
  | 0, _, _, _, _, _, _, _, _ => none
  | n + 1, x1, x2, x3, x4, x5, x6, x7, σ =>
    Option.bind (F_X3_allRiders σ) fun q4 =>
    if q4 < x7 then
      Option.bind (F_X10_greatestDivisor x5 x6 σ) fun q5 =>
      if x4 = 0 then
        Option.bind (dvI x6 (if (1 : Int32) < q5 then q5 else (1 : Int32))) fun v6 =>
        some (v6, σ)
      else
        Option.bind (dvI x5 (if (1 : Int32) < q5 then q5 else (1 : Int32))) fun v7 =>
        some (v7, σ)
    else
      Option.bind (F_X10_contains x7 x1 σ) fun q8 =>
      if q8 = 0 then
        (F_X10_chance_b85 n) x1 x2 x3 x4 x5 x6 (x7 + 1) σ
      else
        Option.bind (F_X4_holdByRiders x7 σ) fun σ9 =>
        Option.bind (F_X7_horseOf 17 x1 σ9) fun q10 =>
        if q10 = x2 then
          Option.bind (F_X10_chanceOfSet x7 x3 σ9) fun q11 =>
          (F_X10_chance_b85 n) x1 x2 x3 x4 (x5 + q11) x6 (x7 + 1) σ9
        else
          (F_X10_chance_b85 n) x1 x2 x3 x4 x5 x6 (x7 + 1) σ9
def F_X10_chance_b57  : Nat → Int32 → Int32 → Int32 → Int32 → Int32 → Int32 → Int32 → Mem → Option (Int32 × Mem)
  | 0, _, _, _, _, _, _, _, _ => none
  | n + 1, x1, x2, x3, x4, x5, x6, x7, σ =>
    if (σ.1 2) ≤ x7 then
      F_X10_chance_b85 4000 x1 x2 x3 x4 x5 x6 (0 : Int32) σ
    else
      (F_X10_chance_b57 n) x1 x2 x3 x4 x5 (x6 * (10 : Int32)) (x7 + 1) σ
def F_X10_chance (a1 : Int32) (a2 : Int32) (a3 : Int32) (a4 : Int32) (σ : Mem) : Option (Int32 × Mem) :=
  Option.bind (F_X3_hasRider a1 σ) fun q1 =>
  if q1 = 0 then
    some ((-1 : Int32), σ)
  else
    Option.bind (F_X3_hasHorse a2 σ) fun q2 =>
    if q2 = 0 then
      some ((-1 : Int32), σ)
    else
      if a3 < 0 then
        some ((-2 : Int32), σ)
      else
        if a3 ≤ (10 : Int32) then
          Option.bind (F_X9_weigh 0 σ) fun σ3 =>
          F_X10_chance_b57 4000 a1 a2 a3 a4 (0 : Int32) (1 : Int32) (0 : Int32) σ3
        else
          some ((-2 : Int32), σ)
set_option maxHeartbeats 4000000 in
set_option maxRecDepth 20000 in
theorem w_X10_chance_b85 {p : Program} {l : Launch} {e : Env} {s : State} {m : MethodId} {args : Array Value} {below : List Frame} {meth : Method} {c : Code} {D : va_G} {T : Nat → ClassId} {ad zz : Nat → Nat} (C : Cx p s m c cX10_chance 8 RX10 (fA ad) D T ad zz) (hr : meth.sig.returnType = (some .int)) (hlk : meth.locks = false) {r : (Int32 × Mem)}  : ∀ (n : Nat), ∀ (x1 : Int32) (x2 : Int32) (x3 : Int32) (x4 : Int32) (x5 : Int32) (x6 : Int32) (x7 : Int32) (σ : Mem), F_X10_chance_b85  n x1 x2 x3 x4 x5 x6 x7 σ = some r → V p l e { frames := 5, cells := 0, slots := 0, locals := 118 } s m args below meth c 0 0 (MQ below (qC (some (.int r.1)) r.2 D T ad) args s 0 0 (fA ad)) 8 (fA ad) D T ad σ 85 [(0, .ref (ad 0)), (1, .int x1), (2, .int x2), (3, .int x3), (4, .int x4), (5, .int x5), (6, .int x6), (7, .int x7)] [] := by
  intro n
  induction n with
  | zero =>
    intro x1 x2 x3 x4 x5 x6 x7 σ hF
    cases (show (none : Option (Int32 × Mem)) = some r from hF)
  | succ n ih =>
    intro x1 x2 x3 x4 x5 x6 x7 σ hF
    rw [F_X10_chance_b85] at hF
    refine V_iload C 7 dX10_chance_85 rfl ?_
    refine V_aload_n C 0 dX10_chance_87 rfl ?_
    refine gf_X10_19 C dX10_chance_88 ?_
    obtain ⟨q4, hq4, hF⟩ := bnd hF
    refine cs_X10_235 C (ct_X3_allRiders hq4) rfl ⟨by decide, by decide⟩ (Nat.le_of_ble_eq_true rfl) dX10_chance_91 ⟨Nat.le_refl 0, Nat.le_refl 0⟩ ?_
    refine V_icmp_gt C 148 dX10_chance_94 (by decide) hF (fun hF => ?_) (fun hF => ?_)
    · refine V_iconst C dX10_chance_148 (v := (1 : Int32)) (by decide) ?_
      refine V_iload C 5 dX10_chance_149 rfl ?_
      refine V_iload C 6 dX10_chance_151 rfl ?_
      obtain ⟨q5, hq5, hF⟩ := bnd hF
      refine cs_X10_314 C (ct_X10_greatestDivisor hq5) rfl ⟨by decide, by decide⟩ (Nat.le_of_ble_eq_true rfl) dX10_chance_153 ⟨Nat.le_refl 0, Nat.le_refl 0⟩ ?_
      refine cs_X10_290 C ⟨by decide, Nat.le_of_ble_eq_true rfl⟩ ⟨Nat.le_refl 0, Nat.le_refl 0⟩ dX10_chance_156 ?_
      refine V_istore C (lv' := [(7, .int (if (1 : Int32) < q5 then q5 else (1 : Int32))), (0, .ref (ad 0)), (1, .int x1), (2, .int x2), (3, .int x3), (4, .int x4), (5, .int x5), (6, .int x6)]) dX10_chance_159 (by decide) rfl ?_
      refine V_iload C 5 dX10_chance_161 rfl ?_
      refine V_if_eq C 171 dX10_chance_163 (by decide) hF (fun hF => ?_) (fun hF => ?_)
      · refine V_iload C 7 dX10_chance_171 rfl ?_
        refine V_iload C 0 dX10_chance_173 rfl ?_
        obtain ⟨v6, hv6, hF⟩ := bnd hF
        refine V_idiv C hv6 dX10_chance_175 ?_
        cases hF
        exact V_iret C hr hlk rfl rfl dX10_chance_176
      · refine V_iload C 6 dX10_chance_166 rfl ?_
        refine V_goto C 173 dX10_chance_168 (by decide) ?_
        refine V_iload C 0 dX10_chance_173 rfl ?_
        obtain ⟨v7, hv7, hF⟩ := bnd hF
        refine V_idiv C hv7 dX10_chance_175 ?_
        cases hF
        exact V_iret C hr hlk rfl rfl dX10_chance_176
    · refine V_iload C 7 dX10_chance_97 rfl ?_
      refine V_iload_n C 1 dX10_chance_99 rfl ?_
      obtain ⟨q8, hq8, hF⟩ := bnd hF
      refine cs_X10_252 C (ct_X10_contains hq8) rfl ⟨by decide, by decide⟩ (Nat.le_of_ble_eq_true rfl) dX10_chance_100 ⟨Nat.le_refl 0, Nat.le_refl 0⟩ ?_
      refine V_if_eq C 142 dX10_chance_103 (by decide) hF (fun hF => ?_) (fun hF => ?_)
      · refine V_iinc C (v := (x7 + 1)) (lv' := [(7, .int (x7 + 1)), (0, .ref (ad 0)), (1, .int x1), (2, .int x2), (3, .int x3), (4, .int x4), (5, .int x5), (6, .int x6)]) 7 dX10_chance_142 rfl rfl (by decide) rfl ?_
        refine V_goto C 85 dX10_chance_145 (by decide) ?_
        refine V_lv (ks := [1, 2, 3, 4, 5, 6, 7, 0]) rfl ?_
        exact ih x1 x2 x3 x4 x5 x6 (x7 + 1) σ hF
      · refine V_aload_n C 0 dX10_chance_106 rfl ?_
        refine gf_X10_62 C dX10_chance_107 ?_
        refine V_iload C 7 dX10_chance_110 rfl ?_
        obtain ⟨σ9, hs9, hF⟩ := bnd hF
        refine cs_X10_238 C (ct_X4_holdByRiders hs9) rfl ⟨by decide, by decide⟩ (Nat.le_of_ble_eq_true rfl) dX10_chance_112 ⟨Nat.le_refl 0, Nat.le_refl 0⟩ ?_
        refine V_aload_n C 0 dX10_chance_115 rfl ?_
        refine gf_X10_62 C dX10_chance_116 ?_
        refine gf_X10_242 C dX10_chance_119 ?_
        refine V_iload_n C 1 dX10_chance_122 rfl ?_
        obtain ⟨q10, hq10, hF⟩ := bnd hF
        refine cs_X10_177 C (by decide) (ct_X7_horseOf (by decide) hq10) rfl ⟨by decide, by decide⟩ (Nat.le_of_ble_eq_true rfl) dX10_chance_123 ⟨Nat.le_refl 0, Nat.le_refl 0⟩ ?_
        refine V_iload_n C 2 dX10_chance_126 rfl ?_
        refine V_icmp_ne C 142 dX10_chance_127 (by decide) hF (fun hF => ?_) (fun hF => ?_)
        · refine V_iinc C (v := (x7 + 1)) (lv' := [(7, .int (x7 + 1)), (0, .ref (ad 0)), (1, .int x1), (2, .int x2), (3, .int x3), (4, .int x4), (5, .int x5), (6, .int x6)]) 7 dX10_chance_142 rfl rfl (by decide) rfl ?_
          refine V_goto C 85 dX10_chance_145 (by decide) ?_
          refine V_lv (ks := [1, 2, 3, 4, 5, 6, 7, 0]) rfl ?_
          exact ih x1 x2 x3 x4 x5 x6 (x7 + 1) σ9 hF
        · refine V_iload C 5 dX10_chance_130 rfl ?_
          refine V_aload_n C 0 dX10_chance_132 rfl ?_
          refine V_iload C 7 dX10_chance_133 rfl ?_
          refine V_iload_n C 3 dX10_chance_135 rfl ?_
          obtain ⟨q11, hq11, hF⟩ := bnd hF
          refine cs_X10_311 C (ct_X10_chanceOfSet hq11) rfl ⟨by decide, by decide⟩ (Nat.le_of_ble_eq_true rfl) dX10_chance_136 ⟨Nat.le_refl 0, Nat.le_refl 0⟩ ?_
          refine V_iadd C dX10_chance_139 ?_
          refine V_istore C (lv' := [(5, .int (x5 + q11)), (0, .ref (ad 0)), (1, .int x1), (2, .int x2), (3, .int x3), (4, .int x4), (6, .int x6), (7, .int x7)]) dX10_chance_140 (by decide) rfl ?_
          refine V_iinc C (v := (x7 + 1)) (lv' := [(7, .int (x7 + 1)), (5, .int (x5 + q11)), (0, .ref (ad 0)), (1, .int x1), (2, .int x2), (3, .int x3), (4, .int x4), (6, .int x6)]) 7 dX10_chance_142 rfl rfl (by decide) rfl ?_
          refine V_goto C 85 dX10_chance_145 (by decide) ?_
          refine V_lv (ks := [2, 3, 4, 5, 6, 1, 7, 0]) rfl ?_
          exact ih x1 x2 x3 x4 (x5 + q11) x6 (x7 + 1) σ9 hF
set_option maxHeartbeats 4000000 in
set_option maxRecDepth 20000 in
theorem w_X10_chance_b57 {p : Program} {l : Launch} {e : Env} {s : State} {m : MethodId} {args : Array Value} {below : List Frame} {meth : Method} {c : Code} {D : va_G} {T : Nat → ClassId} {ad zz : Nat → Nat} (C : Cx p s m c cX10_chance 8 RX10 (fA ad) D T ad zz) (hr : meth.sig.returnType = (some .int)) (hlk : meth.locks = false) {r : (Int32 × Mem)}  : ∀ (n : Nat), ∀ (x1 : Int32) (x2 : Int32) (x3 : Int32) (x4 : Int32) (x5 : Int32) (x6 : Int32) (x7 : Int32) (σ : Mem), F_X10_chance_b57  n x1 x2 x3 x4 x5 x6 x7 σ = some r → V p l e { frames := 5, cells := 0, slots := 0, locals := 118 } s m args below meth c 0 0 (MQ below (qC (some (.int r.1)) r.2 D T ad) args s 0 0 (fA ad)) 8 (fA ad) D T ad σ 57 [(0, .ref (ad 0)), (1, .int x1), (2, .int x2), (3, .int x3), (4, .int x4), (5, .int x5), (6, .int x6), (7, .int x7)] [] := by
  intro n
  induction n with
  | zero =>
    intro x1 x2 x3 x4 x5 x6 x7 σ hF
    cases (show (none : Option (Int32 × Mem)) = some r from hF)
  | succ n ih =>
    intro x1 x2 x3 x4 x5 x6 x7 σ hF
    rw [F_X10_chance_b57] at hF
    refine V_iload C 7 dX10_chance_57 rfl ?_
    refine V_aload_n C 0 dX10_chance_59 rfl ?_
    refine gf_X10_19 C dX10_chance_60 ?_
    refine gf_X10_119 C dX10_chance_63 ?_
    refine V_icmp_ge C 82 dX10_chance_66 (by decide) hF (fun hF => ?_) (fun hF => ?_)
    · refine V_iconst C dX10_chance_82 (v := (0 : Int32)) (by decide) ?_
      refine V_istore C (lv' := [(7, .int (0 : Int32)), (0, .ref (ad 0)), (1, .int x1), (2, .int x2), (3, .int x3), (4, .int x4), (5, .int x5), (6, .int x6)]) dX10_chance_83 (by decide) rfl ?_
      refine V_lv (ks := [1, 2, 3, 4, 5, 6, 7, 0]) rfl ?_
      exact w_X10_chance_b85 C hr hlk 4000 x1 x2 x3 x4 x5 x6 (0 : Int32) σ hF
    · refine V_iload C 6 dX10_chance_69 rfl ?_
      refine V_bipush C dX10_chance_71 (v := (10 : Int32)) (by decide) ?_
      refine V_imul C dX10_chance_73 ?_
      refine V_istore C (lv' := [(6, .int (x6 * (10 : Int32))), (0, .ref (ad 0)), (1, .int x1), (2, .int x2), (3, .int x3), (4, .int x4), (5, .int x5), (7, .int x7)]) dX10_chance_74 (by decide) rfl ?_
      refine V_iinc C (v := (x7 + 1)) (lv' := [(7, .int (x7 + 1)), (6, .int (x6 * (10 : Int32))), (0, .ref (ad 0)), (1, .int x1), (2, .int x2), (3, .int x3), (4, .int x4), (5, .int x5)]) 7 dX10_chance_76 rfl rfl (by decide) rfl ?_
      refine V_goto C 57 dX10_chance_79 (by decide) ?_
      refine V_lv (ks := [2, 3, 4, 5, 6, 7, 1, 0]) rfl ?_
      exact ih x1 x2 x3 x4 x5 (x6 * (10 : Int32)) (x7 + 1) σ hF
set_option maxHeartbeats 4000000 in
set_option maxRecDepth 20000 in
theorem ct_X10_chance {a1 : Int32} {a2 : Int32} {a3 : Int32} {a4 : Int32} {σ : Mem} {r : (Int32 × Mem)} (hF : F_X10_chance a1 a2 a3 a4 σ = some r) : Ct yX10_chance cX10_chance 8 (some .int) 5 118 (fun ad zz => [.ref (ad 0), .int a1, .int a2, .int a3, .int a4]) σ (fun ad => (some (.int r.1))) r.2 := by
  refine Ct_of (by decide +kernel) (lv := fun ad zz => [(0, .ref (ad 0)), (1, .int a1), (2, .int a2), (3, .int a3), (4, .int a4)]) (fun _ _ => rfl) (fun _ _ => Nat.le_of_ble_eq_true rfl) (fun p l e s m args below meth c D T ad zz C hr hlk => ?_)
  rw [F_X10_chance] at hF
  refine V_aload_n C 0 dX10_chance_0 rfl ?_
  refine gf_X10_19 C dX10_chance_1 ?_
  refine V_iload_n C 1 dX10_chance_4 rfl ?_
  obtain ⟨q1, hq1, hF⟩ := bnd hF
  refine cs_X10_165 C (ct_X3_hasRider hq1) rfl ⟨by decide, by decide⟩ (Nat.le_of_ble_eq_true rfl) dX10_chance_5 ⟨Nat.le_refl 0, Nat.le_refl 0⟩ ?_
  refine V_if_eq C 22 dX10_chance_8 (by decide) hF (fun hF => ?_) (fun hF => ?_)
  · refine V_iconst C dX10_chance_22 (v := (-1 : Int32)) (by decide) ?_
    cases hF
    exact V_iret C hr hlk rfl rfl dX10_chance_23
  · refine V_aload_n C 0 dX10_chance_11 rfl ?_
    refine gf_X10_19 C dX10_chance_12 ?_
    refine V_iload_n C 2 dX10_chance_15 rfl ?_
    obtain ⟨q2, hq2, hF⟩ := bnd hF
    refine cs_X10_135 C (ct_X3_hasHorse hq2) rfl ⟨by decide, by decide⟩ (Nat.le_of_ble_eq_true rfl) dX10_chance_16 ⟨Nat.le_refl 0, Nat.le_refl 0⟩ ?_
    refine V_if_ne C 24 dX10_chance_19 (by decide) hF (fun hF => ?_) (fun hF => ?_)
    · refine V_iload_n C 3 dX10_chance_24 rfl ?_
      refine V_if_lt C 34 dX10_chance_25 (by decide) hF (fun hF => ?_) (fun hF => ?_)
      · refine V_bipush C dX10_chance_34 (v := (-2 : Int32)) (by decide) ?_
        cases hF
        exact V_iret C hr hlk rfl rfl dX10_chance_36
      · refine V_iload_n C 3 dX10_chance_28 rfl ?_
        refine V_bipush C dX10_chance_29 (v := (10 : Int32)) (by decide) ?_
        refine V_icmp_le C 37 dX10_chance_31 (by decide) hF (fun hF => ?_) (fun hF => ?_)
        · refine V_aload_n C 0 dX10_chance_37 rfl ?_
          refine gf_X10_53 C dX10_chance_38 ?_
          refine V_aload_n C 0 dX10_chance_41 rfl ?_
          refine gf_X10_26 C dX10_chance_42 ?_
          obtain ⟨σ3, hs3, hF⟩ := bnd hF
          refine cs_X10_184 C (ct_X9_weigh (by decide) hs3) rfl ⟨by decide, by decide⟩ (Nat.le_of_ble_eq_true rfl) dX10_chance_45 ⟨Nat.le_refl 0, Nat.le_refl 0⟩ ?_
          refine V_iconst C dX10_chance_48 (v := (0 : Int32)) (by decide) ?_
          refine V_istore C (lv' := [(5, .int (0 : Int32)), (0, .ref (ad 0)), (1, .int a1), (2, .int a2), (3, .int a3), (4, .int a4)]) dX10_chance_49 (by decide) rfl ?_
          refine V_iconst C dX10_chance_51 (v := (1 : Int32)) (by decide) ?_
          refine V_istore C (lv' := [(6, .int (1 : Int32)), (5, .int (0 : Int32)), (0, .ref (ad 0)), (1, .int a1), (2, .int a2), (3, .int a3), (4, .int a4)]) dX10_chance_52 (by decide) rfl ?_
          refine V_iconst C dX10_chance_54 (v := (0 : Int32)) (by decide) ?_
          refine V_istore C (lv' := [(7, .int (0 : Int32)), (6, .int (1 : Int32)), (5, .int (0 : Int32)), (0, .ref (ad 0)), (1, .int a1), (2, .int a2), (3, .int a3), (4, .int a4)]) dX10_chance_55 (by decide) rfl ?_
          refine V_lv (ks := [3, 4, 5, 6, 7, 2, 1, 0]) rfl ?_
          exact w_X10_chance_b57 C hr hlk 4000 a1 a2 a3 a4 (0 : Int32) (1 : Int32) (0 : Int32) σ3 hF
        · refine V_bipush C dX10_chance_34 (v := (-2 : Int32)) (by decide) ?_
          cases hF
          exact V_iret C hr hlk rfl rfl dX10_chance_36
    · refine V_iconst C dX10_chance_22 (v := (-1 : Int32)) (by decide) ?_
      cases hF
      exact V_iret C hr hlk rfl rfl dX10_chance_23

def F_X10_seed (a1 : Int64) (σ : Mem) : Option (Int64 × Mem) :=
  Option.bind (stJ σ 0 a1) fun σ1 =>
  some ((σ.2.2 0), σ1)
set_option maxHeartbeats 4000000 in
set_option maxRecDepth 20000 in
theorem ct_X10_seed {a1 : Int64} {σ : Mem} {r : (Int64 × Mem)} (hF : F_X10_seed a1 σ = some r) : Ct yX10_seed cX10_seed 5 (some .long) 0 0 (fun ad zz => [.ref (ad 0), .long a1]) σ (fun ad => (some (.long r.1))) r.2 := by
  refine Ct_of (by decide +kernel) (lv := fun ad zz => [(0, .ref (ad 0)), (1, .long a1)]) (fun _ _ => rfl) (fun _ _ => Nat.le_of_ble_eq_true rfl) (fun p l e s m args below meth c D T ad zz C hr hlk => ?_)
  rw [F_X10_seed] at hF
  refine V_aload_n C 0 dX10_seed_0 rfl ?_
  refine gf_X10_87 C dX10_seed_1 ?_
  refine V_lstore_n C (lv' := [(3, .long (σ.2.2 0)), (0, .ref (ad 0)), (1, .long a1)]) dX10_seed_4 rfl (by decide) rfl ?_
  refine V_aload_n C 1 dX10_seed_5 rfl ?_
  refine V_lload_n C 2 dX10_seed_6 rfl ?_
  obtain ⟨σ1, hs1, hF⟩ := bnd hF
  refine pf_X10_87 C hs1 dX10_seed_7 ?_
  refine V_lload_n C 0 dX10_seed_10 rfl ?_
  cases hF
  exact V_lret C hr hlk rfl rfl dX10_seed_11
