-- walks: X6_mostFigure X6_firstFaultOfPart X6_firstFault X7_takenBits X7_boltsWith X8_numberOfWays X8_setWay X8_isWay X8_allEnough X8_nobodyBolts X8_addHolding
def F_X6_mostFigure (a1 : Int32) (a2 : Int32) (σ : Mem) : Option Int32 :=
  Option.bind (F_X6_isHorse a1 σ) fun q1 =>
  if q1 = 0 then
    Option.bind (F_X10_atZ 1 a2 σ) fun q6 =>
    some q6
  else
    if a2 = (8 : Int32) then
      Option.bind (F_X6_figureAt ((a1 + a2) - (1 : Int32)) σ) fun q3 =>
      if q3 = (8 : Int32) then
        if (1 : Int32) = 0 then
          Option.bind (F_X10_atZ 0 a2 σ) fun q5 =>
          some q5
        else
          some (1 : Int32)
      else
        if (0 : Int32) = 0 then
          Option.bind (F_X10_atZ 0 a2 σ) fun q4 =>
          some q4
        else
          some (1 : Int32)
    else
      if (0 : Int32) = 0 then
        Option.bind (F_X10_atZ 0 a2 σ) fun q2 =>
        some q2
      else
        some (1 : Int32)
set_option maxHeartbeats 4000000 in
set_option maxRecDepth 20000 in
theorem ct_X6_mostFigure {a1 : Int32} {a2 : Int32} {σ : Mem} {r : Int32} (hF : F_X6_mostFigure a1 a2 σ = some r) : Ct yX6_mostFigure cX6_mostFigure 4 (some .int) 3 63 (fun ad zz => [.ref (ad 1), .int a1, .int a2]) σ (fun ad => (some (.int r))) σ := by
  refine Ct_of (by decide +kernel) (lv := fun ad zz => [(0, .ref (ad 1)), (1, .int a1), (2, .int a2)]) (fun _ _ => rfl) (fun _ _ => Nat.le_of_ble_eq_true rfl) (fun p l e s m args below meth c D T ad zz C hr hlk => ?_)
  rw [F_X6_mostFigure] at hF
  refine V_aload_n C 0 dX6_mostFigure_0 rfl ?_
  refine V_iload_n C 1 dX6_mostFigure_1 rfl ?_
  obtain ⟨q1, hq1, hF⟩ := bnd hF
  refine cs_X6_31 C (ct_X6_isHorse hq1) rfl ⟨by decide, by decide⟩ (Nat.le_of_ble_eq_true rfl) dX6_mostFigure_2 ⟨Nat.le_refl 0, Nat.le_refl 0⟩ ?_
  refine V_if_ne C 16 dX6_mostFigure_5 (by decide) hF (fun hF => ?_) (fun hF => ?_)
  · refine V_iload_n C 2 dX6_mostFigure_16 rfl ?_
    refine V_bipush C dX6_mostFigure_17 (v := (8 : Int32)) (by decide) ?_
    refine V_icmp_ne C 40 dX6_mostFigure_19 (by decide) hF (fun hF => ?_) (fun hF => ?_)
    · refine V_iconst C dX6_mostFigure_40 (v := (0 : Int32)) (by decide) ?_
      refine V_istore_n C (lv' := [(3, .int (0 : Int32)), (0, .ref (ad 1)), (1, .int a1), (2, .int a2)]) dX6_mostFigure_41 rfl (by decide) rfl ?_
      refine V_iload_n C 0 dX6_mostFigure_42 rfl ?_
      refine V_if_eq C 50 dX6_mostFigure_43 (by decide) hF (fun hF => ?_) (fun hF => ?_)
      · refine V_gets0 C (TB_in 436 (by decide +kernel) (by decide +kernel)) dX6_mostFigure_50 ?_
        refine V_iload_n C 3 dX6_mostFigure_53 rfl ?_
        obtain ⟨q2, hq2, hF⟩ := bnd hF
        refine cs_X6_23 C (ct_X10_atZ (by decide) hq2) rfl ⟨by decide, by decide⟩ (Nat.le_of_ble_eq_true rfl) dX6_mostFigure_54 ⟨Nat.le_refl 0, Nat.le_refl 0⟩ ?_
        cases hF
        exact V_iret C hr hlk rfl rfl dX6_mostFigure_57
      · refine V_iconst C dX6_mostFigure_46 (v := (1 : Int32)) (by decide) ?_
        refine V_goto C 57 dX6_mostFigure_47 (by decide) ?_
        cases hF
        exact V_iret C hr hlk rfl rfl dX6_mostFigure_57
    · refine V_aload_n C 0 dX6_mostFigure_22 rfl ?_
      refine V_iload_n C 1 dX6_mostFigure_23 rfl ?_
      refine V_iload_n C 2 dX6_mostFigure_24 rfl ?_
      refine V_iadd C dX6_mostFigure_25 ?_
      refine V_iconst C dX6_mostFigure_26 (v := (1 : Int32)) (by decide) ?_
      refine V_isub C dX6_mostFigure_27 ?_
      obtain ⟨q3, hq3, hF⟩ := bnd hF
      refine cs_X6_41 C (ct_X6_figureAt hq3) rfl ⟨by decide, by decide⟩ (Nat.le_of_ble_eq_true rfl) dX6_mostFigure_28 ⟨Nat.le_refl 0, Nat.le_refl 0⟩ ?_
      refine V_bipush C dX6_mostFigure_31 (v := (8 : Int32)) (by decide) ?_
      refine V_icmp_ne C 40 dX6_mostFigure_33 (by decide) hF (fun hF => ?_) (fun hF => ?_)
      · refine V_iconst C dX6_mostFigure_40 (v := (0 : Int32)) (by decide) ?_
        refine V_istore_n C (lv' := [(3, .int (0 : Int32)), (0, .ref (ad 1)), (1, .int a1), (2, .int a2)]) dX6_mostFigure_41 rfl (by decide) rfl ?_
        refine V_iload_n C 0 dX6_mostFigure_42 rfl ?_
        refine V_if_eq C 50 dX6_mostFigure_43 (by decide) hF (fun hF => ?_) (fun hF => ?_)
        · refine V_gets0 C (TB_in 436 (by decide +kernel) (by decide +kernel)) dX6_mostFigure_50 ?_
          refine V_iload_n C 3 dX6_mostFigure_53 rfl ?_
          obtain ⟨q4, hq4, hF⟩ := bnd hF
          refine cs_X6_23 C (ct_X10_atZ (by decide) hq4) rfl ⟨by decide, by decide⟩ (Nat.le_of_ble_eq_true rfl) dX6_mostFigure_54 ⟨Nat.le_refl 0, Nat.le_refl 0⟩ ?_
          cases hF
          exact V_iret C hr hlk rfl rfl dX6_mostFigure_57
        · refine V_iconst C dX6_mostFigure_46 (v := (1 : Int32)) (by decide) ?_
          refine V_goto C 57 dX6_mostFigure_47 (by decide) ?_
          cases hF
          exact V_iret C hr hlk rfl rfl dX6_mostFigure_57
      · refine V_iconst C dX6_mostFigure_36 (v := (1 : Int32)) (by decide) ?_
        refine V_goto C 41 dX6_mostFigure_37 (by decide) ?_
        refine V_istore_n C (lv' := [(3, .int (1 : Int32)), (0, .ref (ad 1)), (1, .int a1), (2, .int a2)]) dX6_mostFigure_41 rfl (by decide) rfl ?_
        refine V_iload_n C 0 dX6_mostFigure_42 rfl ?_
        refine V_if_eq C 50 dX6_mostFigure_43 (by decide) hF (fun hF => ?_) (fun hF => ?_)
        · refine V_gets0 C (TB_in 436 (by decide +kernel) (by decide +kernel)) dX6_mostFigure_50 ?_
          refine V_iload_n C 3 dX6_mostFigure_53 rfl ?_
          obtain ⟨q5, hq5, hF⟩ := bnd hF
          refine cs_X6_23 C (ct_X10_atZ (by decide) hq5) rfl ⟨by decide, by decide⟩ (Nat.le_of_ble_eq_true rfl) dX6_mostFigure_54 ⟨Nat.le_refl 0, Nat.le_refl 0⟩ ?_
          cases hF
          exact V_iret C hr hlk rfl rfl dX6_mostFigure_57
        · refine V_iconst C dX6_mostFigure_46 (v := (1 : Int32)) (by decide) ?_
          refine V_goto C 57 dX6_mostFigure_47 (by decide) ?_
          cases hF
          exact V_iret C hr hlk rfl rfl dX6_mostFigure_57
  · refine V_gets1 C (TB_in 434 (by decide +kernel) (by decide +kernel)) dX6_mostFigure_8 ?_
    refine V_iload_n C 2 dX6_mostFigure_11 rfl ?_
    obtain ⟨q6, hq6, hF⟩ := bnd hF
    refine cs_X6_23 C (ct_X10_atZ (by decide) hq6) rfl ⟨by decide, by decide⟩ (Nat.le_of_ble_eq_true rfl) dX6_mostFigure_12 ⟨Nat.le_refl 0, Nat.le_refl 0⟩ ?_
    cases hF
    exact V_iret C hr hlk rfl rfl dX6_mostFigure_15

def F_X6_firstFaultOfPart_b8 (σ : Mem) : Nat → Int32 → Int32 → Int32 → Option Int32
  | 0, _, _, _ => none
  | n + 1, x1, x2, x3 =>
    if x2 ≤ x3 then
      some (-9 : Int32)
    else
      if (x1 + x3) < (σ.1 0) then
        Option.bind (F_X6_figureAt (x1 + x3) σ) fun q2 =>
        Option.bind (F_X6_leastFigure x1 x3 σ) fun q3 =>
        if q2 < q3 then
          some (x1 + x3)
        else
          Option.bind (F_X6_mostFigure x1 x3 σ) fun q4 =>
          if q2 ≤ q4 then
            (F_X6_firstFaultOfPart_b8 σ n) x1 x2 (x3 + 1)
          else
            some (x1 + x3)
      else
        some (σ.1 0)
def F_X6_firstFaultOfPart (a1 : Int32) (σ : Mem) : Option Int32 :=
  Option.bind (F_X6_partSize a1 σ) fun q1 =>
  F_X6_firstFaultOfPart_b8 σ 4000 a1 q1 (1 : Int32)
set_option maxHeartbeats 4000000 in
set_option maxRecDepth 20000 in
theorem w_X6_firstFaultOfPart_b8 {p : Program} {l : Launch} {e : Env} {s : State} {m : MethodId} {args : Array Value} {below : List Frame} {meth : Method} {c : Code} {D : va_G} {T : Nat → ClassId} {ad zz : Nat → Nat} (C : Cx p s m c cX6_firstFaultOfPart 5 RX6 (fA ad) D T ad zz) (hr : meth.sig.returnType = (some .int)) (hlk : meth.locks = false) {σ : Mem} {r : Int32}  : ∀ (n : Nat), ∀ (x1 : Int32) (x2 : Int32) (x3 : Int32), F_X6_firstFaultOfPart_b8 σ n x1 x2 x3 = some r → V p l e { frames := 4, cells := 0, slots := 0, locals := 86 } s m args below meth c 0 0 (MQ below (qC (some (.int r)) σ D T ad) args s 0 0 (fA ad)) 5 (fA ad) D T ad σ 8 [(0, .ref (ad 1)), (1, .int x1), (2, .int x2), (3, .int x3)] [] := by
  intro n
  induction n with
  | zero =>
    intro x1 x2 x3 hF
    cases (show (none : Option Int32) = some r from hF)
  | succ n ih =>
    intro x1 x2 x3 hF
    rw [F_X6_firstFaultOfPart_b8] at hF
    refine V_iload_n C 3 dX6_firstFaultOfPart_8 rfl ?_
    refine V_iload_n C 2 dX6_firstFaultOfPart_9 rfl ?_
    refine V_icmp_ge C 69 dX6_firstFaultOfPart_10 (by decide) hF (fun hF => ?_) (fun hF => ?_)
    · refine V_bipush C dX6_firstFaultOfPart_69 (v := (-9 : Int32)) (by decide) ?_
      cases hF
      exact V_iret C hr hlk rfl rfl dX6_firstFaultOfPart_71
    · refine V_iload_n C 1 dX6_firstFaultOfPart_13 rfl ?_
      refine V_iload_n C 3 dX6_firstFaultOfPart_14 rfl ?_
      refine V_iadd C dX6_firstFaultOfPart_15 ?_
      refine V_aload_n C 0 dX6_firstFaultOfPart_16 rfl ?_
      refine gf_X6_15 C dX6_firstFaultOfPart_17 ?_
      refine V_icmp_lt C 28 dX6_firstFaultOfPart_20 (by decide) hF (fun hF => ?_) (fun hF => ?_)
      · refine V_aload_n C 0 dX6_firstFaultOfPart_28 rfl ?_
        refine V_iload_n C 1 dX6_firstFaultOfPart_29 rfl ?_
        refine V_iload_n C 3 dX6_firstFaultOfPart_30 rfl ?_
        refine V_iadd C dX6_firstFaultOfPart_31 ?_
        obtain ⟨q2, hq2, hF⟩ := bnd hF
        refine cs_X6_41 C (ct_X6_figureAt hq2) rfl ⟨by decide, by decide⟩ (Nat.le_of_ble_eq_true rfl) dX6_firstFaultOfPart_32 ⟨Nat.le_refl 0, Nat.le_refl 0⟩ ?_
        refine V_istore C (lv' := [(4, .int q2), (0, .ref (ad 1)), (1, .int x1), (2, .int x2), (3, .int x3)]) dX6_firstFaultOfPart_35 (by decide) rfl ?_
        refine V_iload C 0 dX6_firstFaultOfPart_37 rfl ?_
        refine V_aload_n C 1 dX6_firstFaultOfPart_39 rfl ?_
        refine V_iload_n C 2 dX6_firstFaultOfPart_40 rfl ?_
        refine V_iload_n C 4 dX6_firstFaultOfPart_41 rfl ?_
        obtain ⟨q3, hq3, hF⟩ := bnd hF
        refine cs_X6_44 C (ct_X6_leastFigure hq3) rfl ⟨by decide, by decide⟩ (Nat.le_of_ble_eq_true rfl) dX6_firstFaultOfPart_42 ⟨Nat.le_refl 0, Nat.le_refl 0⟩ ?_
        refine V_icmp_lt C 59 dX6_firstFaultOfPart_45 (by decide) hF (fun hF => ?_) (fun hF => ?_)
        · refine V_iload_n C 2 dX6_firstFaultOfPart_59 rfl ?_
          refine V_iload_n C 4 dX6_firstFaultOfPart_60 rfl ?_
          refine V_iadd C dX6_firstFaultOfPart_61 ?_
          cases hF
          exact V_iret C hr hlk rfl rfl dX6_firstFaultOfPart_62
        · refine V_iload C 0 dX6_firstFaultOfPart_48 rfl ?_
          refine V_aload_n C 1 dX6_firstFaultOfPart_50 rfl ?_
          refine V_iload_n C 2 dX6_firstFaultOfPart_51 rfl ?_
          refine V_iload_n C 4 dX6_firstFaultOfPart_52 rfl ?_
          obtain ⟨q4, hq4, hF⟩ := bnd hF
          refine cs_X6_48 C (ct_X6_mostFigure hq4) rfl ⟨by decide, by decide⟩ (Nat.le_of_ble_eq_true rfl) dX6_firstFaultOfPart_53 ⟨Nat.le_refl 0, Nat.le_refl 0⟩ ?_
          refine V_icmp_le C 63 dX6_firstFaultOfPart_56 (by decide) hF (fun hF => ?_) (fun hF => ?_)
          · refine V_iinc C (v := (x3 + 1)) (lv' := [(3, .int (x3 + 1)), (4, .int q2), (0, .ref (ad 1)), (1, .int x1), (2, .int x2)]) 4 dX6_firstFaultOfPart_63 rfl rfl (by decide) rfl ?_
            refine V_goto C 8 dX6_firstFaultOfPart_66 (by decide) ?_
            refine V_lv (ks := [2, 3, 4, 0]) rfl ?_
            exact ih x1 x2 (x3 + 1) hF
          · refine V_iload_n C 2 dX6_firstFaultOfPart_59 rfl ?_
            refine V_iload_n C 4 dX6_firstFaultOfPart_60 rfl ?_
            refine V_iadd C dX6_firstFaultOfPart_61 ?_
            cases hF
            exact V_iret C hr hlk rfl rfl dX6_firstFaultOfPart_62
      · refine V_aload_n C 0 dX6_firstFaultOfPart_23 rfl ?_
        refine gf_X6_15 C dX6_firstFaultOfPart_24 ?_
        cases hF
        exact V_iret C hr hlk rfl rfl dX6_firstFaultOfPart_27
set_option maxHeartbeats 4000000 in
set_option maxRecDepth 20000 in
theorem ct_X6_firstFaultOfPart {a1 : Int32} {σ : Mem} {r : Int32} (hF : F_X6_firstFaultOfPart a1 σ = some r) : Ct yX6_firstFaultOfPart cX6_firstFaultOfPart 5 (some .int) 4 86 (fun ad zz => [.ref (ad 1), .int a1]) σ (fun ad => (some (.int r))) σ := by
  refine Ct_of (by decide +kernel) (lv := fun ad zz => [(0, .ref (ad 1)), (1, .int a1)]) (fun _ _ => rfl) (fun _ _ => Nat.le_of_ble_eq_true rfl) (fun p l e s m args below meth c D T ad zz C hr hlk => ?_)
  rw [F_X6_firstFaultOfPart] at hF
  refine V_aload_n C 0 dX6_firstFaultOfPart_0 rfl ?_
  refine V_iload_n C 1 dX6_firstFaultOfPart_1 rfl ?_
  obtain ⟨q1, hq1, hF⟩ := bnd hF
  refine cs_X6_38 C (ct_X6_partSize hq1) rfl ⟨by decide, by decide⟩ (Nat.le_of_ble_eq_true rfl) dX6_firstFaultOfPart_2 ⟨Nat.le_refl 0, Nat.le_refl 0⟩ ?_
  refine V_istore_n C (lv' := [(2, .int q1), (0, .ref (ad 1)), (1, .int a1)]) dX6_firstFaultOfPart_5 rfl (by decide) rfl ?_
  refine V_iconst C dX6_firstFaultOfPart_6 (v := (1 : Int32)) (by decide) ?_
  refine V_istore_n C (lv' := [(3, .int (1 : Int32)), (2, .int q1), (0, .ref (ad 1)), (1, .int a1)]) dX6_firstFaultOfPart_7 rfl (by decide) rfl ?_
  refine V_lv (ks := [2, 3, 1, 0]) rfl ?_
  exact w_X6_firstFaultOfPart_b8 C hr hlk 4000 a1 q1 (1 : Int32) hF

def F_X6_firstFault_b54 (σ : Mem) (kL21 : Int32 → Int32 → Int32 → Int32 → Option Int32) (x1 : Int32) (x2 : Int32) (x3 : Int32) (x4 : Int32) : Option Int32 :=
  Option.bind (F_X6_byteAt x3 σ) fun q3 =>
  if q3 = (82 : Int32) then
    if x2 ≤ 0 then
      some x3
    else
      Option.bind (F_X6_firstFaultOfPart x3 σ) fun q4 =>
      if q4 = (-9 : Int32) then
        Option.bind (F_X6_partSize x3 σ) fun q5 =>
        kL21 x1 (x2 + (-1)) (x3 + q5) (x4 + 1)
      else
        some q4
  else
    some x3
def F_X6_firstFault_b21 (σ : Mem) : Nat → Int32 → Int32 → Int32 → Int32 → Option Int32
  | 0, _, _, _, _ => none
  | n + 1, x1, x2, x3, x4 =>
    if (64 : Int32) ≤ x4 then
      some (-9 : Int32)
    else
      if (σ.1 0) ≤ x3 then
        some (-9 : Int32)
      else
        Option.bind (F_X6_isHorse x3 σ) fun q2 =>
        if q2 = 0 then
          F_X6_firstFault_b54 σ (F_X6_firstFault_b21 σ n) x1 x2 x3 x4
        else
          if x1 ≤ 0 then
            F_X6_firstFault_b54 σ (F_X6_firstFault_b21 σ n) x1 x2 x3 x4
          else
            Option.bind (F_X6_firstFaultOfPart x3 σ) fun q6 =>
            if q6 = (-9 : Int32) then
              Option.bind (F_X6_partSize x3 σ) fun q7 =>
              (F_X6_firstFault_b21 σ n) (x1 + (-1)) x2 (x3 + q7) (x4 + 1)
            else
              some q6
def F_X6_firstFault (σ : Mem) : Option Int32 :=
  Option.bind (F_X6_byteAt (0 : Int32) σ) fun q1 =>
  if q1 = (70 : Int32) then
    F_X6_firstFault_b21 σ 4000 (4 : Int32) (5 : Int32) (1 : Int32) (0 : Int32)
  else
    some (0 : Int32)
set_option maxHeartbeats 4000000 in
set_option maxRecDepth 20000 in
theorem w_X6_firstFault_b54 {p : Program} {l : Launch} {e : Env} {s : State} {m : MethodId} {args : Array Value} {below : List Frame} {meth : Method} {c : Code} {D : va_G} {T : Nat → ClassId} {ad zz : Nat → Nat} (C : Cx p s m c cX6_firstFault 6 RX6 (fA ad) D T ad zz) (hr : meth.sig.returnType = (some .int)) (hlk : meth.locks = false) {σ : Mem} {r : Int32} (kL21 : Int32 → Int32 → Int32 → Int32 → Option Int32) (hL21 : ∀ (x1 : Int32) (x2 : Int32) (x3 : Int32) (x4 : Int32), kL21 x1 x2 x3 x4 = some r → V p l e { frames := 5, cells := 0, slots := 0, locals := 110 } s m args below meth c 0 0 (MQ below (qC (some (.int r)) σ D T ad) args s 0 0 (fA ad)) 6 (fA ad) D T ad σ 21 [(0, .ref (ad 1)), (1, .int x1), (2, .int x2), (3, .int x3), (4, .int x4)] []) (x1 : Int32) (x2 : Int32) (x3 : Int32) (x4 : Int32) (hF : F_X6_firstFault_b54 σ kL21 x1 x2 x3 x4 = some r) : V p l e { frames := 5, cells := 0, slots := 0, locals := 110 } s m args below meth c 0 0 (MQ below (qC (some (.int r)) σ D T ad) args s 0 0 (fA ad)) 6 (fA ad) D T ad σ 54 [(0, .ref (ad 1)), (1, .int x1), (2, .int x2), (3, .int x3), (4, .int x4)] [] := by
  rw [F_X6_firstFault_b54] at hF
  refine V_aload_n C 0 dX6_firstFault_54 rfl ?_
  refine V_iload_n C 3 dX6_firstFault_55 rfl ?_
  obtain ⟨q3, hq3, hF⟩ := bnd hF
  refine cs_X6_27 C (ct_X6_byteAt hq3) rfl ⟨by decide, by decide⟩ (Nat.le_of_ble_eq_true rfl) dX6_firstFault_56 ⟨Nat.le_refl 0, Nat.le_refl 0⟩ ?_
  refine V_bipush C dX6_firstFault_59 (v := (82 : Int32)) (by decide) ?_
  refine V_icmp_ne C 74 dX6_firstFault_61 (by decide) hF (fun hF => ?_) (fun hF => ?_)
  · refine V_iload_n C 3 dX6_firstFault_74 rfl ?_
    cases hF
    exact V_iret C hr hlk rfl rfl dX6_firstFault_75
  · refine V_iload_n C 2 dX6_firstFault_64 rfl ?_
    refine V_if_le C 74 dX6_firstFault_65 (by decide) hF (fun hF => ?_) (fun hF => ?_)
    · refine V_iload_n C 3 dX6_firstFault_74 rfl ?_
      cases hF
      exact V_iret C hr hlk rfl rfl dX6_firstFault_75
    · refine V_iinc C (v := (x2 + (-1))) (lv' := [(2, .int (x2 + (-1))), (0, .ref (ad 1)), (1, .int x1), (3, .int x3), (4, .int x4)]) 2 dX6_firstFault_68 rfl rfl (by decide) rfl ?_
      refine V_goto C 76 dX6_firstFault_71 (by decide) ?_
      refine V_aload_n C 1 dX6_firstFault_76 rfl ?_
      refine V_iload_n C 3 dX6_firstFault_77 rfl ?_
      obtain ⟨q4, hq4, hF⟩ := bnd hF
      refine cs_X6_35 C (ct_X6_firstFaultOfPart hq4) rfl ⟨by decide, by decide⟩ (Nat.le_of_ble_eq_true rfl) dX6_firstFault_78 ⟨Nat.le_refl 0, Nat.le_refl 0⟩ ?_
      refine V_istore C (lv' := [(5, .int q4), (2, .int (x2 + (-1))), (0, .ref (ad 1)), (1, .int x1), (3, .int x3), (4, .int x4)]) dX6_firstFault_81 (by decide) rfl ?_
      refine V_iload C 0 dX6_firstFault_83 rfl ?_
      refine V_bipush C dX6_firstFault_85 (v := (-9 : Int32)) (by decide) ?_
      refine V_icmp_eq C 93 dX6_firstFault_87 (by decide) hF (fun hF => ?_) (fun hF => ?_)
      · refine V_iload_n C 4 dX6_firstFault_93 rfl ?_
        refine V_aload_n C 2 dX6_firstFault_94 rfl ?_
        refine V_iload_n C 4 dX6_firstFault_95 rfl ?_
        obtain ⟨q5, hq5, hF⟩ := bnd hF
        refine cs_X6_38 C (ct_X6_partSize hq5) rfl ⟨by decide, by decide⟩ (Nat.le_of_ble_eq_true rfl) dX6_firstFault_96 ⟨Nat.le_refl 0, Nat.le_refl 0⟩ ?_
        refine V_iadd C dX6_firstFault_99 ?_
        refine V_istore_n C (lv' := [(3, .int (x3 + q5)), (5, .int q4), (2, .int (x2 + (-1))), (0, .ref (ad 1)), (1, .int x1), (4, .int x4)]) dX6_firstFault_100 rfl (by decide) rfl ?_
        refine V_iinc C (v := (x4 + 1)) (lv' := [(4, .int (x4 + 1)), (3, .int (x3 + q5)), (5, .int q4), (2, .int (x2 + (-1))), (0, .ref (ad 1)), (1, .int x1)]) 5 dX6_firstFault_101 rfl rfl (by decide) rfl ?_
        refine V_goto C 21 dX6_firstFault_104 (by decide) ?_
        refine V_lv (ks := [4, 5, 3, 1, 0]) rfl ?_
        exact hL21 x1 (x2 + (-1)) (x3 + q5) (x4 + 1) hF
      · refine V_iload C 0 dX6_firstFault_90 rfl ?_
        cases hF
        exact V_iret C hr hlk rfl rfl dX6_firstFault_92
set_option maxHeartbeats 4000000 in
set_option maxRecDepth 20000 in
theorem w_X6_firstFault_b21 {p : Program} {l : Launch} {e : Env} {s : State} {m : MethodId} {args : Array Value} {below : List Frame} {meth : Method} {c : Code} {D : va_G} {T : Nat → ClassId} {ad zz : Nat → Nat} (C : Cx p s m c cX6_firstFault 6 RX6 (fA ad) D T ad zz) (hr : meth.sig.returnType = (some .int)) (hlk : meth.locks = false) {σ : Mem} {r : Int32}  : ∀ (n : Nat), ∀ (x1 : Int32) (x2 : Int32) (x3 : Int32) (x4 : Int32), F_X6_firstFault_b21 σ n x1 x2 x3 x4 = some r → V p l e { frames := 5, cells := 0, slots := 0, locals := 110 } s m args below meth c 0 0 (MQ below (qC (some (.int r)) σ D T ad) args s 0 0 (fA ad)) 6 (fA ad) D T ad σ 21 [(0, .ref (ad 1)), (1, .int x1), (2, .int x2), (3, .int x3), (4, .int x4)] [] := by
  intro n
  induction n with
  | zero =>
    intro x1 x2 x3 x4 hF
    cases (show (none : Option Int32) = some r from hF)
  | succ n ih =>
    intro x1 x2 x3 x4 hF
    rw [F_X6_firstFault_b21] at hF
    refine V_iload C 4 dX6_firstFault_21 rfl ?_
    refine V_bipush C dX6_firstFault_23 (v := (64 : Int32)) (by decide) ?_
    refine V_icmp_ge C 107 dX6_firstFault_25 (by decide) hF (fun hF => ?_) (fun hF => ?_)
    · refine V_bipush C dX6_firstFault_107 (v := (-9 : Int32)) (by decide) ?_
      cases hF
      exact V_iret C hr hlk rfl rfl dX6_firstFault_109
    · refine V_iload_n C 3 dX6_firstFault_28 rfl ?_
      refine V_aload_n C 0 dX6_firstFault_29 rfl ?_
      refine gf_X6_15 C dX6_firstFault_30 ?_
      refine V_icmp_ge C 107 dX6_firstFault_33 (by decide) hF (fun hF => ?_) (fun hF => ?_)
      · refine V_bipush C dX6_firstFault_107 (v := (-9 : Int32)) (by decide) ?_
        cases hF
        exact V_iret C hr hlk rfl rfl dX6_firstFault_109
      · refine V_aload_n C 0 dX6_firstFault_36 rfl ?_
        refine V_iload_n C 3 dX6_firstFault_37 rfl ?_
        obtain ⟨q2, hq2, hF⟩ := bnd hF
        refine cs_X6_31 C (ct_X6_isHorse hq2) rfl ⟨by decide, by decide⟩ (Nat.le_of_ble_eq_true rfl) dX6_firstFault_38 ⟨Nat.le_refl 0, Nat.le_refl 0⟩ ?_
        refine V_if_eq C 54 dX6_firstFault_41 (by decide) hF (fun hF => ?_) (fun hF => ?_)
        · exact w_X6_firstFault_b54 C hr hlk (F_X6_firstFault_b21 σ n) ih x1 x2 x3 x4 hF
        · refine V_iload_n C 1 dX6_firstFault_44 rfl ?_
          refine V_if_le C 54 dX6_firstFault_45 (by decide) hF (fun hF => ?_) (fun hF => ?_)
          · exact w_X6_firstFault_b54 C hr hlk (F_X6_firstFault_b21 σ n) ih x1 x2 x3 x4 hF
          · refine V_iinc C (v := (x1 + (-1))) (lv' := [(1, .int (x1 + (-1))), (0, .ref (ad 1)), (2, .int x2), (3, .int x3), (4, .int x4)]) 1 dX6_firstFault_48 rfl rfl (by decide) rfl ?_
            refine V_goto C 76 dX6_firstFault_51 (by decide) ?_
            refine V_aload_n C 1 dX6_firstFault_76 rfl ?_
            refine V_iload_n C 3 dX6_firstFault_77 rfl ?_
            obtain ⟨q6, hq6, hF⟩ := bnd hF
            refine cs_X6_35 C (ct_X6_firstFaultOfPart hq6) rfl ⟨by decide, by decide⟩ (Nat.le_of_ble_eq_true rfl) dX6_firstFault_78 ⟨Nat.le_refl 0, Nat.le_refl 0⟩ ?_
            refine V_istore C (lv' := [(5, .int q6), (1, .int (x1 + (-1))), (0, .ref (ad 1)), (2, .int x2), (3, .int x3), (4, .int x4)]) dX6_firstFault_81 (by decide) rfl ?_
            refine V_iload C 0 dX6_firstFault_83 rfl ?_
            refine V_bipush C dX6_firstFault_85 (v := (-9 : Int32)) (by decide) ?_
            refine V_icmp_eq C 93 dX6_firstFault_87 (by decide) hF (fun hF => ?_) (fun hF => ?_)
            · refine V_iload_n C 4 dX6_firstFault_93 rfl ?_
              refine V_aload_n C 2 dX6_firstFault_94 rfl ?_
              refine V_iload_n C 4 dX6_firstFault_95 rfl ?_
              obtain ⟨q7, hq7, hF⟩ := bnd hF
              refine cs_X6_38 C (ct_X6_partSize hq7) rfl ⟨by decide, by decide⟩ (Nat.le_of_ble_eq_true rfl) dX6_firstFault_96 ⟨Nat.le_refl 0, Nat.le_refl 0⟩ ?_
              refine V_iadd C dX6_firstFault_99 ?_
              refine V_istore_n C (lv' := [(3, .int (x3 + q7)), (5, .int q6), (1, .int (x1 + (-1))), (0, .ref (ad 1)), (2, .int x2), (4, .int x4)]) dX6_firstFault_100 rfl (by decide) rfl ?_
              refine V_iinc C (v := (x4 + 1)) (lv' := [(4, .int (x4 + 1)), (3, .int (x3 + q7)), (5, .int q6), (1, .int (x1 + (-1))), (0, .ref (ad 1)), (2, .int x2)]) 5 dX6_firstFault_101 rfl rfl (by decide) rfl ?_
              refine V_goto C 21 dX6_firstFault_104 (by decide) ?_
              refine V_lv (ks := [4, 3, 5, 1, 0]) rfl ?_
              exact ih (x1 + (-1)) x2 (x3 + q7) (x4 + 1) hF
            · refine V_iload C 0 dX6_firstFault_90 rfl ?_
              cases hF
              exact V_iret C hr hlk rfl rfl dX6_firstFault_92
set_option maxHeartbeats 4000000 in
set_option maxRecDepth 20000 in
theorem ct_X6_firstFault {σ : Mem} {r : Int32} (hF : F_X6_firstFault σ = some r) : Ct yX6_firstFault cX6_firstFault 6 (some .int) 5 110 (fun ad zz => [.ref (ad 1)]) σ (fun ad => (some (.int r))) σ := by
  refine Ct_of (by decide +kernel) (lv := fun ad zz => [(0, .ref (ad 1))]) (fun _ _ => rfl) (fun _ _ => Nat.le_of_ble_eq_true rfl) (fun p l e s m args below meth c D T ad zz C hr hlk => ?_)
  rw [F_X6_firstFault] at hF
  refine V_aload_n C 0 dX6_firstFault_0 rfl ?_
  refine V_iconst C dX6_firstFault_1 (v := (0 : Int32)) (by decide) ?_
  obtain ⟨q1, hq1, hF⟩ := bnd hF
  refine cs_X6_27 C (ct_X6_byteAt hq1) rfl ⟨by decide, by decide⟩ (Nat.le_of_ble_eq_true rfl) dX6_firstFault_2 ⟨Nat.le_refl 0, Nat.le_refl 0⟩ ?_
  refine V_bipush C dX6_firstFault_5 (v := (70 : Int32)) (by decide) ?_
  refine V_icmp_eq C 12 dX6_firstFault_7 (by decide) hF (fun hF => ?_) (fun hF => ?_)
  · refine V_iconst C dX6_firstFault_12 (v := (4 : Int32)) (by decide) ?_
    refine V_istore_n C (lv' := [(1, .int (4 : Int32)), (0, .ref (ad 1))]) dX6_firstFault_13 rfl (by decide) rfl ?_
    refine V_iconst C dX6_firstFault_14 (v := (5 : Int32)) (by decide) ?_
    refine V_istore_n C (lv' := [(2, .int (5 : Int32)), (1, .int (4 : Int32)), (0, .ref (ad 1))]) dX6_firstFault_15 rfl (by decide) rfl ?_
    refine V_iconst C dX6_firstFault_16 (v := (1 : Int32)) (by decide) ?_
    refine V_istore_n C (lv' := [(3, .int (1 : Int32)), (2, .int (5 : Int32)), (1, .int (4 : Int32)), (0, .ref (ad 1))]) dX6_firstFault_17 rfl (by decide) rfl ?_
    refine V_iconst C dX6_firstFault_18 (v := (0 : Int32)) (by decide) ?_
    refine V_istore C (lv' := [(4, .int (0 : Int32)), (3, .int (1 : Int32)), (2, .int (5 : Int32)), (1, .int (4 : Int32)), (0, .ref (ad 1))]) dX6_firstFault_19 (by decide) rfl ?_
    refine V_lv (ks := [4, 3, 2, 1, 0]) rfl ?_
    exact w_X6_firstFault_b21 C hr hlk 4000 (4 : Int32) (5 : Int32) (1 : Int32) (0 : Int32) hF
  · refine V_iconst C dX6_firstFault_10 (v := (0 : Int32)) (by decide) ?_
    cases hF
    exact V_iret C hr hlk rfl rfl dX6_firstFault_11

def F_X7_takenBits_b4 (k0 : Nat) (σ : Mem) : Nat → Int32 → Int32 → Option Int32
  | 0, _, _ => none
  | n + 1, x1, x2 =>
    if (nI (alen (15 + k0))) ≤ x2 then
      some x1
    else
      Option.bind (rdA σ (15 + k0) x2) fun v1 =>
      if v1 = (-9 : Int32) then
        (F_X7_takenBits_b4 k0 σ n) x1 (x2 + 1)
      else
        (F_X7_takenBits_b4 k0 σ n) (x1 ||| ((1 : Int32) <<< (x2 &&& 31))) (x2 + 1)
def F_X7_takenBits (k0 : Nat) (σ : Mem) : Option Int32 :=
  F_X7_takenBits_b4 k0 σ 4000 (0 : Int32) (0 : Int32)
set_option maxHeartbeats 4000000 in
set_option maxRecDepth 20000 in
theorem w_X7_takenBits_b4 {p : Program} {l : Launch} {e : Env} {s : State} {m : MethodId} {args : Array Value} {below : List Frame} {meth : Method} {c : Code} {D : va_G} {T : Nat → ClassId} {ad zz : Nat → Nat} (C : Cx p s m c cX7_takenBits 3 RX7 (fA ad) D T ad zz) (hr : meth.sig.returnType = (some .int)) (hlk : meth.locks = false) {k0 : Nat} {σ : Mem} (hk0 : k0 < 21) {r : Int32}  : ∀ (n : Nat), ∀ (x1 : Int32) (x2 : Int32), F_X7_takenBits_b4 k0 σ n x1 x2 = some r → V p l e { frames := 0, cells := 0, slots := 0, locals := 0 } s m args below meth c 0 0 (MQ below (qC (some (.int r)) σ D T ad) args s 0 0 (fA ad)) 3 (fA ad) D T ad σ 4 [(0, .ref (ad (97 + k0))), (1, .int x1), (2, .int x2)] [] := by
  intro n
  induction n with
  | zero =>
    intro x1 x2 hF
    cases (show (none : Option Int32) = some r from hF)
  | succ n ih =>
    intro x1 x2 hF
    rw [F_X7_takenBits_b4] at hF
    refine V_iload_n C 2 dX7_takenBits_4 rfl ?_
    refine V_aload_n C 0 dX7_takenBits_5 rfl ?_
    refine gf_X7_9 C hk0 dX7_takenBits_6 ?_
    refine V_alen C (by omega) dX7_takenBits_9 ?_
    refine V_icmp_ge C 36 dX7_takenBits_10 (by decide) hF (fun hF => ?_) (fun hF => ?_)
    · refine V_iload_n C 1 dX7_takenBits_36 rfl ?_
      cases hF
      exact V_iret C hr hlk rfl rfl dX7_takenBits_37
    · refine V_aload_n C 0 dX7_takenBits_13 rfl ?_
      refine gf_X7_9 C hk0 dX7_takenBits_14 ?_
      refine V_iload_n C 2 dX7_takenBits_17 rfl ?_
      obtain ⟨v1, hv1, hF⟩ := bnd hF
      refine V_iald C (by omega) hv1 dX7_takenBits_18 ?_
      refine V_bipush C dX7_takenBits_19 (v := (-9 : Int32)) (by decide) ?_
      refine V_icmp_eq C 30 dX7_takenBits_21 (by decide) hF (fun hF => ?_) (fun hF => ?_)
      · refine V_iinc C (v := (x2 + 1)) (lv' := [(2, .int (x2 + 1)), (0, .ref (ad (97 + k0))), (1, .int x1)]) 2 dX7_takenBits_30 rfl rfl (by decide) rfl ?_
        refine V_goto C 4 dX7_takenBits_33 (by decide) ?_
        refine V_lv (ks := [1, 2, 0]) rfl ?_
        exact ih x1 (x2 + 1) hF
      · refine V_iload_n C 1 dX7_takenBits_24 rfl ?_
        refine V_iconst C dX7_takenBits_25 (v := (1 : Int32)) (by decide) ?_
        refine V_iload_n C 2 dX7_takenBits_26 rfl ?_
        refine V_ishl C dX7_takenBits_27 ?_
        refine V_ior C dX7_takenBits_28 ?_
        refine V_istore_n C (lv' := [(1, .int (x1 ||| ((1 : Int32) <<< (x2 &&& 31)))), (0, .ref (ad (97 + k0))), (2, .int x2)]) dX7_takenBits_29 rfl (by decide) rfl ?_
        refine V_iinc C (v := (x2 + 1)) (lv' := [(2, .int (x2 + 1)), (1, .int (x1 ||| ((1 : Int32) <<< (x2 &&& 31)))), (0, .ref (ad (97 + k0)))]) 2 dX7_takenBits_30 rfl rfl (by decide) rfl ?_
        refine V_goto C 4 dX7_takenBits_33 (by decide) ?_
        refine V_lv (ks := [2, 1, 0]) rfl ?_
        exact ih (x1 ||| ((1 : Int32) <<< (x2 &&& 31))) (x2 + 1) hF
set_option maxHeartbeats 4000000 in
set_option maxRecDepth 20000 in
theorem ct_X7_takenBits {k0 : Nat} {σ : Mem} {r : Int32} (hk0 : k0 < 21) (hF : F_X7_takenBits k0 σ = some r) : Ct yX7_takenBits cX7_takenBits 3 (some .int) 0 0 (fun ad zz => [.ref (ad (97 + k0))]) σ (fun ad => (some (.int r))) σ := by
  refine Ct_of (by decide +kernel) (lv := fun ad zz => [(0, .ref (ad (97 + k0)))]) (fun _ _ => rfl) (fun _ _ => Nat.le_of_ble_eq_true rfl) (fun p l e s m args below meth c D T ad zz C hr hlk => ?_)
  rw [F_X7_takenBits] at hF
  refine V_iconst C dX7_takenBits_0 (v := (0 : Int32)) (by decide) ?_
  refine V_istore_n C (lv' := [(1, .int (0 : Int32)), (0, .ref (ad (97 + k0)))]) dX7_takenBits_1 rfl (by decide) rfl ?_
  refine V_iconst C dX7_takenBits_2 (v := (0 : Int32)) (by decide) ?_
  refine V_istore_n C (lv' := [(2, .int (0 : Int32)), (1, .int (0 : Int32)), (0, .ref (ad (97 + k0)))]) dX7_takenBits_3 rfl (by decide) rfl ?_
  refine V_lv (ks := [2, 1, 0]) rfl ?_
  exact w_X7_takenBits_b4 C hr hlk hk0 4000 (0 : Int32) (0 : Int32) hF

def F_X7_boltsWith (k0 : Nat) (a1 : Int32) (a2 : Int32) (σ : Mem) : Option Int32 :=
  Option.bind (F_X9_enough a2 a1 σ) fun q1 =>
  if q1 = 0 then
    some (0 : Int32)
  else
    Option.bind (F_X7_horseOf k0 a1 σ) fun q2 =>
    Option.bind (F_X3_riderLikes a1 a2 q2 σ) fun q3 =>
    if q3 = 0 then
      some (0 : Int32)
    else
      Option.bind (F_X7_keptCount k0 a2 σ) fun q4 =>
      Option.bind (F_X10_at 1 a2 σ) fun q5 =>
      if q5 ≤ q4 then
        Option.bind (F_X7_leastLiked k0 a2 σ) fun q6 =>
        if q6 = (-9 : Int32) then
          some (0 : Int32)
        else
          Option.bind (F_X9_horseLikes a2 a1 q6 σ) fun q7 =>
          if q7 = 0 then
            some (0 : Int32)
          else
            some (1 : Int32)
      else
        some (1 : Int32)
set_option maxHeartbeats 4000000 in
set_option maxRecDepth 20000 in
theorem ct_X7_boltsWith {k0 : Nat} {a1 : Int32} {a2 : Int32} {σ : Mem} {r : Int32} (hk0 : k0 < 21) (hF : F_X7_boltsWith k0 a1 a2 σ = some r) : Ct yX7_boltsWith cX7_boltsWith 5 (some .boolean) 3 70 (fun ad zz => [.ref (ad (97 + k0)), .int a1, .int a2, .ref (ad 5)]) σ (fun ad => (some (.int r))) σ := by
  refine Ct_of (by decide +kernel) (lv := fun ad zz => [(0, .ref (ad (97 + k0))), (1, .int a1), (2, .int a2), (3, .ref (ad 5))]) (fun _ _ => rfl) (fun _ _ => Nat.le_of_ble_eq_true rfl) (fun p l e s m args below meth c D T ad zz C hr hlk => ?_)
  rw [F_X7_boltsWith] at hF
  refine V_aload_n C 3 dX7_boltsWith_0 rfl ?_
  refine V_iload_n C 2 dX7_boltsWith_1 rfl ?_
  refine V_iload_n C 1 dX7_boltsWith_2 rfl ?_
  obtain ⟨q1, hq1, hF⟩ := bnd hF
  refine cs_X7_46 C (ct_X9_enough hq1) rfl ⟨by decide, by decide⟩ (Nat.le_of_ble_eq_true rfl) dX7_boltsWith_3 ⟨Nat.le_refl 0, Nat.le_refl 0⟩ ?_
  refine V_if_eq C 26 dX7_boltsWith_6 (by decide) hF (fun hF => ?_) (fun hF => ?_)
  · refine V_iconst C dX7_boltsWith_26 (v := (0 : Int32)) (by decide) ?_
    cases hF
    exact V_zret C hr hlk (Or.inl rfl) rfl rfl dX7_boltsWith_27
  · refine V_aload_n C 3 dX7_boltsWith_9 rfl ?_
    refine gf_X7_53 C dX7_boltsWith_10 ?_
    refine V_iload_n C 1 dX7_boltsWith_13 rfl ?_
    refine V_iload_n C 2 dX7_boltsWith_14 rfl ?_
    refine V_aload_n C 0 dX7_boltsWith_15 rfl ?_
    refine V_iload_n C 1 dX7_boltsWith_16 rfl ?_
    obtain ⟨q2, hq2, hF⟩ := bnd hF
    refine cs_X7_74 C hk0 (ct_X7_horseOf hk0 hq2) rfl ⟨by decide, by decide⟩ (Nat.le_of_ble_eq_true rfl) dX7_boltsWith_17 ⟨Nat.le_refl 0, Nat.le_refl 0⟩ ?_
    obtain ⟨q3, hq3, hF⟩ := bnd hF
    refine cs_X7_77 C (ct_X3_riderLikes hq3) rfl ⟨by decide, by decide⟩ (Nat.le_of_ble_eq_true rfl) dX7_boltsWith_20 ⟨Nat.le_refl 0, Nat.le_refl 0⟩ ?_
    refine V_if_ne C 28 dX7_boltsWith_23 (by decide) hF (fun hF => ?_) (fun hF => ?_)
    · refine V_aload_n C 0 dX7_boltsWith_28 rfl ?_
      refine V_iload_n C 2 dX7_boltsWith_29 rfl ?_
      obtain ⟨q4, hq4, hF⟩ := bnd hF
      refine cs_X7_50 C hk0 (ct_X7_keptCount hk0 hq4) rfl ⟨by decide, by decide⟩ (Nat.le_of_ble_eq_true rfl) dX7_boltsWith_30 ⟨Nat.le_refl 0, Nat.le_refl 0⟩ ?_
      refine V_aload_n C 3 dX7_boltsWith_33 rfl ?_
      refine gf_X7_53 C dX7_boltsWith_34 ?_
      refine gf_X7_57 C dX7_boltsWith_37 ?_
      refine V_iload_n C 2 dX7_boltsWith_40 rfl ?_
      obtain ⟨q5, hq5, hF⟩ := bnd hF
      refine cs_X7_62 C (ct_X10_at (by decide) hq5) rfl ⟨by decide, by decide⟩ (Nat.le_of_ble_eq_true rfl) dX7_boltsWith_41 ⟨Nat.le_refl 0, Nat.le_refl 0⟩ ?_
      refine V_icmp_ge C 49 dX7_boltsWith_44 (by decide) hF (fun hF => ?_) (fun hF => ?_)
      · refine V_aload_n C 0 dX7_boltsWith_49 rfl ?_
        refine V_iload_n C 2 dX7_boltsWith_50 rfl ?_
        refine V_aload_n C 3 dX7_boltsWith_51 rfl ?_
        obtain ⟨q6, hq6, hF⟩ := bnd hF
        refine cs_X7_66 C hk0 (ct_X7_leastLiked hk0 hq6) rfl ⟨by decide, by decide⟩ (Nat.le_of_ble_eq_true rfl) dX7_boltsWith_52 ⟨Nat.le_refl 0, Nat.le_refl 0⟩ ?_
        refine V_istore C (lv' := [(4, .int q6), (0, .ref (ad (97 + k0))), (1, .int a1), (2, .int a2), (3, .ref (ad 5))]) dX7_boltsWith_55 (by decide) rfl ?_
        refine V_iload C 0 dX7_boltsWith_57 rfl ?_
        refine V_bipush C dX7_boltsWith_59 (v := (-9 : Int32)) (by decide) ?_
        refine V_icmp_eq C 79 dX7_boltsWith_61 (by decide) hF (fun hF => ?_) (fun hF => ?_)
        · refine V_iconst C dX7_boltsWith_79 (v := (0 : Int32)) (by decide) ?_
          cases hF
          exact V_zret C hr hlk (Or.inl rfl) rfl rfl dX7_boltsWith_80
        · refine V_aload_n C 4 dX7_boltsWith_64 rfl ?_
          refine V_iload_n C 3 dX7_boltsWith_65 rfl ?_
          refine V_iload_n C 2 dX7_boltsWith_66 rfl ?_
          refine V_iload C 0 dX7_boltsWith_67 rfl ?_
          obtain ⟨q7, hq7, hF⟩ := bnd hF
          refine cs_X7_40 C (ct_X9_horseLikes hq7) rfl ⟨by decide, by decide⟩ (Nat.le_of_ble_eq_true rfl) dX7_boltsWith_69 ⟨Nat.le_refl 0, Nat.le_refl 0⟩ ?_
          refine V_if_eq C 79 dX7_boltsWith_72 (by decide) hF (fun hF => ?_) (fun hF => ?_)
          · refine V_iconst C dX7_boltsWith_79 (v := (0 : Int32)) (by decide) ?_
            cases hF
            exact V_zret C hr hlk (Or.inl rfl) rfl rfl dX7_boltsWith_80
          · refine V_iconst C dX7_boltsWith_75 (v := (1 : Int32)) (by decide) ?_
            refine V_goto C 80 dX7_boltsWith_76 (by decide) ?_
            cases hF
            exact V_zret C hr hlk (Or.inr rfl) rfl rfl dX7_boltsWith_80
      · refine V_iconst C dX7_boltsWith_47 (v := (1 : Int32)) (by decide) ?_
        cases hF
        exact V_zret C hr hlk (Or.inr rfl) rfl rfl dX7_boltsWith_48
    · refine V_iconst C dX7_boltsWith_26 (v := (0 : Int32)) (by decide) ?_
      cases hF
      exact V_zret C hr hlk (Or.inl rfl) rfl rfl dX7_boltsWith_27

def F_X8_numberOfWays_b4 (σ : Mem) : Nat → Int32 → Int32 → Option Int32
  | 0, _, _ => none
  | n + 1, x1, x2 =>
    if (σ.1 2) ≤ x2 then
      some x1
    else
      (F_X8_numberOfWays_b4 σ n) (x1 * ((σ.1 1) + (1 : Int32))) (x2 + 1)
def F_X8_numberOfWays (σ : Mem) : Option Int32 :=
  F_X8_numberOfWays_b4 σ 4000 (1 : Int32) (0 : Int32)
set_option maxHeartbeats 4000000 in
set_option maxRecDepth 20000 in
theorem w_X8_numberOfWays_b4 {p : Program} {l : Launch} {e : Env} {s : State} {m : MethodId} {args : Array Value} {below : List Frame} {meth : Method} {c : Code} {D : va_G} {T : Nat → ClassId} {ad zz : Nat → Nat} (C : Cx p s m c cX8_numberOfWays 3 RX8 (fA ad) D T ad zz) (hr : meth.sig.returnType = (some .int)) (hlk : meth.locks = false) {σ : Mem} {r : Int32}  : ∀ (n : Nat), ∀ (x1 : Int32) (x2 : Int32), F_X8_numberOfWays_b4 σ n x1 x2 = some r → V p l e { frames := 0, cells := 0, slots := 0, locals := 0 } s m args below meth c 0 0 (MQ below (qC (some (.int r)) σ D T ad) args s 0 0 (fA ad)) 3 (fA ad) D T ad σ 4 [(0, .ref (ad 7)), (1, .int x1), (2, .int x2)] [] := by
  intro n
  induction n with
  | zero =>
    intro x1 x2 hF
    cases (show (none : Option Int32) = some r from hF)
  | succ n ih =>
    intro x1 x2 hF
    rw [F_X8_numberOfWays_b4] at hF
    refine V_iload_n C 2 dX8_numberOfWays_4 rfl ?_
    refine V_aload_n C 0 dX8_numberOfWays_5 rfl ?_
    refine gf_X8_21 C dX8_numberOfWays_6 ?_
    refine gf_X8_64 C dX8_numberOfWays_9 ?_
    refine V_icmp_ge C 33 dX8_numberOfWays_12 (by decide) hF (fun hF => ?_) (fun hF => ?_)
    · refine V_iload_n C 1 dX8_numberOfWays_33 rfl ?_
      cases hF
      exact V_iret C hr hlk rfl rfl dX8_numberOfWays_34
    · refine V_iload_n C 1 dX8_numberOfWays_15 rfl ?_
      refine V_aload_n C 0 dX8_numberOfWays_16 rfl ?_
      refine gf_X8_21 C dX8_numberOfWays_17 ?_
      refine gf_X8_79 C dX8_numberOfWays_20 ?_
      refine V_iconst C dX8_numberOfWays_23 (v := (1 : Int32)) (by decide) ?_
      refine V_iadd C dX8_numberOfWays_24 ?_
      refine V_imul C dX8_numberOfWays_25 ?_
      refine V_istore_n C (lv' := [(1, .int (x1 * ((σ.1 1) + (1 : Int32)))), (0, .ref (ad 7)), (2, .int x2)]) dX8_numberOfWays_26 rfl (by decide) rfl ?_
      refine V_iinc C (v := (x2 + 1)) (lv' := [(2, .int (x2 + 1)), (1, .int (x1 * ((σ.1 1) + (1 : Int32)))), (0, .ref (ad 7))]) 2 dX8_numberOfWays_27 rfl rfl (by decide) rfl ?_
      refine V_goto C 4 dX8_numberOfWays_30 (by decide) ?_
      refine V_lv (ks := [2, 1, 0]) rfl ?_
      exact ih (x1 * ((σ.1 1) + (1 : Int32))) (x2 + 1) hF
set_option maxHeartbeats 4000000 in
set_option maxRecDepth 20000 in
theorem ct_X8_numberOfWays {σ : Mem} {r : Int32} (hF : F_X8_numberOfWays σ = some r) : Ct yX8_numberOfWays cX8_numberOfWays 3 (some .int) 0 0 (fun ad zz => [.ref (ad 7)]) σ (fun ad => (some (.int r))) σ := by
  refine Ct_of (by decide +kernel) (lv := fun ad zz => [(0, .ref (ad 7))]) (fun _ _ => rfl) (fun _ _ => Nat.le_of_ble_eq_true rfl) (fun p l e s m args below meth c D T ad zz C hr hlk => ?_)
  rw [F_X8_numberOfWays] at hF
  refine V_iconst C dX8_numberOfWays_0 (v := (1 : Int32)) (by decide) ?_
  refine V_istore_n C (lv' := [(1, .int (1 : Int32)), (0, .ref (ad 7))]) dX8_numberOfWays_1 rfl (by decide) rfl ?_
  refine V_iconst C dX8_numberOfWays_2 (v := (0 : Int32)) (by decide) ?_
  refine V_istore_n C (lv' := [(2, .int (0 : Int32)), (1, .int (1 : Int32)), (0, .ref (ad 7))]) dX8_numberOfWays_3 rfl (by decide) rfl ?_
  refine V_lv (ks := [2, 1, 0]) rfl ?_
  exact w_X8_numberOfWays_b4 C hr hlk 4000 (1 : Int32) (0 : Int32) hF

def F_X8_setWay_b27  : Nat → Int32 → Int32 → Int32 → Mem → Option Mem
  | 0, _, _, _, _ => none
  | n + 1, x2, x3, x4, σ =>
    if x4 < 0 then
      some σ
    else
      Option.bind (rmI x3 x2) fun v1 =>
      Option.bind (dvI x3 x2) fun v2 =>
      if (σ.1 1) ≤ v1 then
        Option.bind (F_X7_set 18 x4 (-9 : Int32) σ) fun σ3 =>
        (F_X8_setWay_b27 n) x2 v2 (x4 + (-1)) σ3
      else
        Option.bind (F_X7_set 18 x4 v1 σ) fun σ4 =>
        (F_X8_setWay_b27 n) x2 v2 (x4 + (-1)) σ4
def F_X8_setWay (a1 : Int32) (σ : Mem) : Option Mem :=
  F_X8_setWay_b27 4000 (if (1 : Int32) < ((σ.1 1) + (1 : Int32)) then ((σ.1 1) + (1 : Int32)) else (1 : Int32)) a1 ((σ.1 2) - (1 : Int32)) σ
set_option maxHeartbeats 4000000 in
set_option maxRecDepth 20000 in
theorem w_X8_setWay_b27 {p : Program} {l : Launch} {e : Env} {s : State} {m : MethodId} {args : Array Value} {below : List Frame} {meth : Method} {c : Code} {D : va_G} {T : Nat → ClassId} {ad zz : Nat → Nat} (C : Cx p s m c cX8_setWay 6 RX8 (fA ad) D T ad zz) (hr : meth.sig.returnType = none) (hlk : meth.locks = false) {r : Mem}  : ∀ (n : Nat), ∀ (x2 : Int32) (x3 : Int32) (x4 : Int32) (σ : Mem), F_X8_setWay_b27  n x2 x3 x4 σ = some r → V p l e { frames := 2, cells := 0, slots := 0, locals := 44 } s m args below meth c 0 0 (MQ below (qC none r D T ad) args s 0 0 (fA ad)) 6 (fA ad) D T ad σ 27 [(0, .ref (ad 7)), (2, .int x2), (3, .int x3), (4, .int x4)] [] := by
  intro n
  induction n with
  | zero =>
    intro x2 x3 x4 σ hF
    cases (show (none : Option Mem) = some r from hF)
  | succ n ih =>
    intro x2 x3 x4 σ hF
    rw [F_X8_setWay_b27] at hF
    refine V_iload C 3 dX8_setWay_27 rfl ?_
    refine V_if_lt C 75 dX8_setWay_29 (by decide) hF (fun hF => ?_) (fun hF => ?_)
    · cases hF
      exact V_vret C hr hlk rfl rfl dX8_setWay_75
    · refine V_iload_n C 2 dX8_setWay_32 rfl ?_
      refine V_iload_n C 1 dX8_setWay_33 rfl ?_
      obtain ⟨v1, hv1, hF⟩ := bnd hF
      refine V_irem C hv1 dX8_setWay_34 ?_
      refine V_istore C (lv' := [(5, .int v1), (0, .ref (ad 7)), (2, .int x2), (3, .int x3), (4, .int x4)]) dX8_setWay_35 (by decide) rfl ?_
      refine V_iload_n C 3 dX8_setWay_37 rfl ?_
      refine V_iload_n C 2 dX8_setWay_38 rfl ?_
      obtain ⟨v2, hv2, hF⟩ := bnd hF
      refine V_idiv C hv2 dX8_setWay_39 ?_
      refine V_istore_n C (lv' := [(3, .int v2), (5, .int v1), (0, .ref (ad 7)), (2, .int x2), (4, .int x4)]) dX8_setWay_40 rfl (by decide) rfl ?_
      refine V_aload_n C 2 dX8_setWay_41 rfl ?_
      refine gf_X8_12 C dX8_setWay_42 ?_
      refine V_iload C 4 dX8_setWay_45 rfl ?_
      refine V_iload C 1 dX8_setWay_47 rfl ?_
      refine V_aload_n C 2 dX8_setWay_49 rfl ?_
      refine gf_X8_21 C dX8_setWay_50 ?_
      refine gf_X8_79 C dX8_setWay_53 ?_
      refine V_icmp_ge C 64 dX8_setWay_56 (by decide) hF (fun hF => ?_) (fun hF => ?_)
      · refine V_bipush C dX8_setWay_64 (v := (-9 : Int32)) (by decide) ?_
        obtain ⟨σ3, hs3, hF⟩ := bnd hF
        refine cs_X8_88 C (by decide) (ct_X7_set (by decide) hs3) rfl ⟨by decide, by decide⟩ (Nat.le_of_ble_eq_true rfl) dX8_setWay_66 ⟨Nat.le_refl 0, Nat.le_refl 0⟩ ?_
        refine V_iinc C (v := (x4 + (-1))) (lv' := [(4, .int (x4 + (-1))), (3, .int v2), (5, .int v1), (0, .ref (ad 7)), (2, .int x2)]) 4 dX8_setWay_69 rfl rfl (by decide) rfl ?_
        refine V_goto C 27 dX8_setWay_72 (by decide) ?_
        refine V_lv (ks := [3, 4, 1, 0]) rfl ?_
        exact ih x2 v2 (x4 + (-1)) σ3 hF
      · refine V_iload C 1 dX8_setWay_59 rfl ?_
        refine V_goto C 66 dX8_setWay_61 (by decide) ?_
        obtain ⟨σ4, hs4, hF⟩ := bnd hF
        refine cs_X8_88 C (by decide) (ct_X7_set (by decide) hs4) rfl ⟨by decide, by decide⟩ (Nat.le_of_ble_eq_true rfl) dX8_setWay_66 ⟨Nat.le_refl 0, Nat.le_refl 0⟩ ?_
        refine V_iinc C (v := (x4 + (-1))) (lv' := [(4, .int (x4 + (-1))), (3, .int v2), (5, .int v1), (0, .ref (ad 7)), (2, .int x2)]) 4 dX8_setWay_69 rfl rfl (by decide) rfl ?_
        refine V_goto C 27 dX8_setWay_72 (by decide) ?_
        refine V_lv (ks := [3, 4, 1, 0]) rfl ?_
        exact ih x2 v2 (x4 + (-1)) σ4 hF
set_option maxHeartbeats 4000000 in
set_option maxRecDepth 20000 in
theorem ct_X8_setWay {a1 : Int32} {σ : Mem} {r : Mem} (hF : F_X8_setWay a1 σ = some r) : Ct yX8_setWay cX8_setWay 6 none 2 44 (fun ad zz => [.ref (ad 7), .int a1]) σ (fun ad => none) r := by
  refine Ct_of (by decide +kernel) (lv := fun ad zz => [(0, .ref (ad 7)), (1, .int a1)]) (fun _ _ => rfl) (fun _ _ => Nat.le_of_ble_eq_true rfl) (fun p l e s m args below meth c D T ad zz C hr hlk => ?_)
  rw [F_X8_setWay] at hF
  refine V_iconst C dX8_setWay_0 (v := (1 : Int32)) (by decide) ?_
  refine V_aload_n C 0 dX8_setWay_1 rfl ?_
  refine gf_X8_21 C dX8_setWay_2 ?_
  refine gf_X8_79 C dX8_setWay_5 ?_
  refine V_iconst C dX8_setWay_8 (v := (1 : Int32)) (by decide) ?_
  refine V_iadd C dX8_setWay_9 ?_
  refine cs_X8_82 C ⟨by decide, Nat.le_of_ble_eq_true rfl⟩ ⟨Nat.le_refl 0, Nat.le_refl 0⟩ dX8_setWay_10 ?_
  refine V_istore_n C (lv' := [(2, .int (if (1 : Int32) < ((σ.1 1) + (1 : Int32)) then ((σ.1 1) + (1 : Int32)) else (1 : Int32))), (0, .ref (ad 7)), (1, .int a1)]) dX8_setWay_13 rfl (by decide) rfl ?_
  refine V_iload_n C 2 dX8_setWay_14 rfl ?_
  refine V_istore_n C (lv' := [(3, .int a1), (2, .int (if (1 : Int32) < ((σ.1 1) + (1 : Int32)) then ((σ.1 1) + (1 : Int32)) else (1 : Int32))), (0, .ref (ad 7)), (1, .int a1)]) dX8_setWay_15 rfl (by decide) rfl ?_
  refine V_aload_n C 2 dX8_setWay_16 rfl ?_
  refine gf_X8_21 C dX8_setWay_17 ?_
  refine gf_X8_64 C dX8_setWay_20 ?_
  refine V_iconst C dX8_setWay_23 (v := (1 : Int32)) (by decide) ?_
  refine V_isub C dX8_setWay_24 ?_
  refine V_istore C (lv' := [(4, .int ((σ.1 2) - (1 : Int32))), (3, .int a1), (2, .int (if (1 : Int32) < ((σ.1 1) + (1 : Int32)) then ((σ.1 1) + (1 : Int32)) else (1 : Int32))), (0, .ref (ad 7)), (1, .int a1)]) dX8_setWay_25 (by decide) rfl ?_
  refine V_lv (ks := [3, 2, 1, 0]) rfl ?_
  exact w_X8_setWay_b27 C hr hlk 4000 (if (1 : Int32) < ((σ.1 1) + (1 : Int32)) then ((σ.1 1) + (1 : Int32)) else (1 : Int32)) a1 ((σ.1 2) - (1 : Int32)) σ hF

def F_X8_isWay_b2 (σ : Mem) : Nat → Int32 → Option Int32
  | 0, _ => none
  | n + 1, x1 =>
    if (σ.1 1) ≤ x1 then
      some (1 : Int32)
    else
      Option.bind (F_X7_keptCount 18 x1 σ) fun q1 =>
      Option.bind (F_X10_at 1 x1 σ) fun q2 =>
      if q1 ≤ q2 then
        (F_X8_isWay_b2 σ n) (x1 + 1)
      else
        some (0 : Int32)
def F_X8_isWay (σ : Mem) : Option Int32 :=
  F_X8_isWay_b2 σ 4000 (0 : Int32)
set_option maxHeartbeats 4000000 in
set_option maxRecDepth 20000 in
theorem w_X8_isWay_b2 {p : Program} {l : Launch} {e : Env} {s : State} {m : MethodId} {args : Array Value} {below : List Frame} {meth : Method} {c : Code} {D : va_G} {T : Nat → ClassId} {ad zz : Nat → Nat} (C : Cx p s m c cX8_isWay 2 RX8 (fA ad) D T ad zz) (hr : meth.sig.returnType = (some .boolean)) (hlk : meth.locks = false) {σ : Mem} {r : Int32}  : ∀ (n : Nat), ∀ (x1 : Int32), F_X8_isWay_b2 σ n x1 = some r → V p l e { frames := 2, cells := 0, slots := 0, locals := 44 } s m args below meth c 0 0 (MQ below (qC (some (.int r)) σ D T ad) args s 0 0 (fA ad)) 2 (fA ad) D T ad σ 2 [(0, .ref (ad 7)), (1, .int x1)] [] := by
  intro n
  induction n with
  | zero =>
    intro x1 hF
    cases (show (none : Option Int32) = some r from hF)
  | succ n ih =>
    intro x1 hF
    rw [F_X8_isWay_b2] at hF
    refine V_iload_n C 1 dX8_isWay_2 rfl ?_
    refine V_aload_n C 0 dX8_isWay_3 rfl ?_
    refine gf_X8_21 C dX8_isWay_4 ?_
    refine gf_X8_79 C dX8_isWay_7 ?_
    refine V_icmp_ge C 43 dX8_isWay_10 (by decide) hF (fun hF => ?_) (fun hF => ?_)
    · refine V_iconst C dX8_isWay_43 (v := (1 : Int32)) (by decide) ?_
      cases hF
      exact V_zret C hr hlk (Or.inr rfl) rfl rfl dX8_isWay_44
    · refine V_aload_n C 0 dX8_isWay_13 rfl ?_
      refine gf_X8_12 C dX8_isWay_14 ?_
      refine V_iload_n C 1 dX8_isWay_17 rfl ?_
      obtain ⟨q1, hq1, hF⟩ := bnd hF
      refine cs_X8_92 C (by decide) (ct_X7_keptCount (by decide) hq1) rfl ⟨by decide, by decide⟩ (Nat.le_of_ble_eq_true rfl) dX8_isWay_18 ⟨Nat.le_refl 0, Nat.le_refl 0⟩ ?_
      refine V_aload_n C 0 dX8_isWay_21 rfl ?_
      refine gf_X8_21 C dX8_isWay_22 ?_
      refine gf_X8_95 C dX8_isWay_25 ?_
      refine V_iload_n C 1 dX8_isWay_28 rfl ?_
      obtain ⟨q2, hq2, hF⟩ := bnd hF
      refine cs_X8_99 C (ct_X10_at (by decide) hq2) rfl ⟨by decide, by decide⟩ (Nat.le_of_ble_eq_true rfl) dX8_isWay_29 ⟨Nat.le_refl 0, Nat.le_refl 0⟩ ?_
      refine V_icmp_le C 37 dX8_isWay_32 (by decide) hF (fun hF => ?_) (fun hF => ?_)
      · refine V_iinc C (v := (x1 + 1)) (lv' := [(1, .int (x1 + 1)), (0, .ref (ad 7))]) 1 dX8_isWay_37 rfl rfl (by decide) rfl ?_
        refine V_goto C 2 dX8_isWay_40 (by decide) ?_
        refine V_lv (ks := [1, 0]) rfl ?_
        exact ih (x1 + 1) hF
      · refine V_iconst C dX8_isWay_35 (v := (0 : Int32)) (by decide) ?_
        cases hF
        exact V_zret C hr hlk (Or.inl rfl) rfl rfl dX8_isWay_36
set_option maxHeartbeats 4000000 in
set_option maxRecDepth 20000 in
theorem ct_X8_isWay {σ : Mem} {r : Int32} (hF : F_X8_isWay σ = some r) : Ct yX8_isWay cX8_isWay 2 (some .boolean) 2 44 (fun ad zz => [.ref (ad 7)]) σ (fun ad => (some (.int r))) σ := by
  refine Ct_of (by decide +kernel) (lv := fun ad zz => [(0, .ref (ad 7))]) (fun _ _ => rfl) (fun _ _ => Nat.le_of_ble_eq_true rfl) (fun p l e s m args below meth c D T ad zz C hr hlk => ?_)
  rw [F_X8_isWay] at hF
  refine V_iconst C dX8_isWay_0 (v := (0 : Int32)) (by decide) ?_
  refine V_istore_n C (lv' := [(1, .int (0 : Int32)), (0, .ref (ad 7))]) dX8_isWay_1 rfl (by decide) rfl ?_
  refine V_lv (ks := [1, 0]) rfl ?_
  exact w_X8_isWay_b2 C hr hlk 4000 (0 : Int32) hF

def F_X8_allEnough_b2 (σ : Mem) : Nat → Int32 → Option Int32
  | 0, _ => none
  | n + 1, x1 =>
    if (σ.1 2) ≤ x1 then
      some (1 : Int32)
    else
      Option.bind (F_X7_horseOf 18 x1 σ) fun q1 =>
      if q1 = (-9 : Int32) then
        (F_X8_allEnough_b2 σ n) (x1 + 1)
      else
        Option.bind (F_X9_enough q1 x1 σ) fun q2 =>
        if q2 = 0 then
          some (0 : Int32)
        else
          (F_X8_allEnough_b2 σ n) (x1 + 1)
def F_X8_allEnough (σ : Mem) : Option Int32 :=
  F_X8_allEnough_b2 σ 4000 (0 : Int32)
set_option maxHeartbeats 4000000 in
set_option maxRecDepth 20000 in
theorem w_X8_allEnough_b2 {p : Program} {l : Launch} {e : Env} {s : State} {m : MethodId} {args : Array Value} {below : List Frame} {meth : Method} {c : Code} {D : va_G} {T : Nat → ClassId} {ad zz : Nat → Nat} (C : Cx p s m c cX8_allEnough 3 RX8 (fA ad) D T ad zz) (hr : meth.sig.returnType = (some .boolean)) (hlk : meth.locks = false) {σ : Mem} {r : Int32}  : ∀ (n : Nat), ∀ (x1 : Int32), F_X8_allEnough_b2 σ n x1 = some r → V p l e { frames := 3, cells := 0, slots := 0, locals := 65 } s m args below meth c 0 0 (MQ below (qC (some (.int r)) σ D T ad) args s 0 0 (fA ad)) 3 (fA ad) D T ad σ 2 [(0, .ref (ad 7)), (1, .int x1)] [] := by
  intro n
  induction n with
  | zero =>
    intro x1 hF
    cases (show (none : Option Int32) = some r from hF)
  | succ n ih =>
    intro x1 hF
    rw [F_X8_allEnough_b2] at hF
    refine V_iload_n C 1 dX8_allEnough_2 rfl ?_
    refine V_aload_n C 0 dX8_allEnough_3 rfl ?_
    refine gf_X8_21 C dX8_allEnough_4 ?_
    refine gf_X8_64 C dX8_allEnough_7 ?_
    refine V_icmp_ge C 48 dX8_allEnough_10 (by decide) hF (fun hF => ?_) (fun hF => ?_)
    · refine V_iconst C dX8_allEnough_48 (v := (1 : Int32)) (by decide) ?_
      cases hF
      exact V_zret C hr hlk (Or.inr rfl) rfl rfl dX8_allEnough_49
    · refine V_aload_n C 0 dX8_allEnough_13 rfl ?_
      refine gf_X8_12 C dX8_allEnough_14 ?_
      refine V_iload_n C 1 dX8_allEnough_17 rfl ?_
      obtain ⟨q1, hq1, hF⟩ := bnd hF
      refine cs_X8_69 C (by decide) (ct_X7_horseOf (by decide) hq1) rfl ⟨by decide, by decide⟩ (Nat.le_of_ble_eq_true rfl) dX8_allEnough_18 ⟨Nat.le_refl 0, Nat.le_refl 0⟩ ?_
      refine V_istore_n C (lv' := [(2, .int q1), (0, .ref (ad 7)), (1, .int x1)]) dX8_allEnough_21 rfl (by decide) rfl ?_
      refine V_iload_n C 0 dX8_allEnough_22 rfl ?_
      refine V_bipush C dX8_allEnough_23 (v := (-9 : Int32)) (by decide) ?_
      refine V_icmp_eq C 42 dX8_allEnough_25 (by decide) hF (fun hF => ?_) (fun hF => ?_)
      · refine V_iinc C (v := (x1 + 1)) (lv' := [(1, .int (x1 + 1)), (2, .int q1), (0, .ref (ad 7))]) 2 dX8_allEnough_42 rfl rfl (by decide) rfl ?_
        refine V_goto C 2 dX8_allEnough_45 (by decide) ?_
        refine V_lv (ks := [2, 0]) rfl ?_
        exact ih (x1 + 1) hF
      · refine V_aload_n C 1 dX8_allEnough_28 rfl ?_
        refine gf_X8_25 C dX8_allEnough_29 ?_
        refine V_iload_n C 0 dX8_allEnough_32 rfl ?_
        refine V_iload_n C 2 dX8_allEnough_33 rfl ?_
        obtain ⟨q2, hq2, hF⟩ := bnd hF
        refine cs_X8_103 C (ct_X9_enough hq2) rfl ⟨by decide, by decide⟩ (Nat.le_of_ble_eq_true rfl) dX8_allEnough_34 ⟨Nat.le_refl 0, Nat.le_refl 0⟩ ?_
        refine V_if_ne C 42 dX8_allEnough_37 (by decide) hF (fun hF => ?_) (fun hF => ?_)
        · refine V_iinc C (v := (x1 + 1)) (lv' := [(1, .int (x1 + 1)), (2, .int q1), (0, .ref (ad 7))]) 2 dX8_allEnough_42 rfl rfl (by decide) rfl ?_
          refine V_goto C 2 dX8_allEnough_45 (by decide) ?_
          refine V_lv (ks := [2, 0]) rfl ?_
          exact ih (x1 + 1) hF
        · refine V_iconst C dX8_allEnough_40 (v := (0 : Int32)) (by decide) ?_
          cases hF
          exact V_zret C hr hlk (Or.inl rfl) rfl rfl dX8_allEnough_41
set_option maxHeartbeats 4000000 in
set_option maxRecDepth 20000 in
theorem ct_X8_allEnough {σ : Mem} {r : Int32} (hF : F_X8_allEnough σ = some r) : Ct yX8_allEnough cX8_allEnough 3 (some .boolean) 3 65 (fun ad zz => [.ref (ad 7)]) σ (fun ad => (some (.int r))) σ := by
  refine Ct_of (by decide +kernel) (lv := fun ad zz => [(0, .ref (ad 7))]) (fun _ _ => rfl) (fun _ _ => Nat.le_of_ble_eq_true rfl) (fun p l e s m args below meth c D T ad zz C hr hlk => ?_)
  rw [F_X8_allEnough] at hF
  refine V_iconst C dX8_allEnough_0 (v := (0 : Int32)) (by decide) ?_
  refine V_istore_n C (lv' := [(1, .int (0 : Int32)), (0, .ref (ad 7))]) dX8_allEnough_1 rfl (by decide) rfl ?_
  refine V_lv (ks := [1, 0]) rfl ?_
  exact w_X8_allEnough_b2 C hr hlk 4000 (0 : Int32) hF

def F_X8_nobodyBolts_b15 (σ : Mem) (kL2 : Int32 → Option Int32) : Nat → Int32 → Int32 → Option Int32
  | 0, _, _ => none
  | n + 1, x1, x2 =>
    if (σ.1 1) ≤ x2 then
      kL2 (x1 + 1)
    else
      Option.bind (F_X7_boltsWith 18 x1 x2 σ) fun q1 =>
      if q1 = 0 then
        (F_X8_nobodyBolts_b15 σ kL2 n) x1 (x2 + 1)
      else
        some (0 : Int32)
def F_X8_nobodyBolts_b2 (σ : Mem) : Nat → Int32 → Option Int32
  | 0, _ => none
  | n + 1, x1 =>
    if (σ.1 2) ≤ x1 then
      some (1 : Int32)
    else
      F_X8_nobodyBolts_b15 σ (F_X8_nobodyBolts_b2 σ n) 4000 x1 (0 : Int32)
def F_X8_nobodyBolts (σ : Mem) : Option Int32 :=
  F_X8_nobodyBolts_b2 σ 4000 (0 : Int32)
set_option maxHeartbeats 4000000 in
set_option maxRecDepth 20000 in
theorem w_X8_nobodyBolts_b15 {p : Program} {l : Launch} {e : Env} {s : State} {m : MethodId} {args : Array Value} {below : List Frame} {meth : Method} {c : Code} {D : va_G} {T : Nat → ClassId} {ad zz : Nat → Nat} (C : Cx p s m c cX8_nobodyBolts 3 RX8 (fA ad) D T ad zz) (hr : meth.sig.returnType = (some .boolean)) (hlk : meth.locks = false) {σ : Mem} {r : Int32} (kL2 : Int32 → Option Int32) (hL2 : ∀ (x1 : Int32), kL2 x1 = some r → V p l e { frames := 4, cells := 0, slots := 0, locals := 94 } s m args below meth c 0 0 (MQ below (qC (some (.int r)) σ D T ad) args s 0 0 (fA ad)) 3 (fA ad) D T ad σ 2 [(0, .ref (ad 7)), (1, .int x1)] []) : ∀ (n : Nat), ∀ (x1 : Int32) (x2 : Int32), F_X8_nobodyBolts_b15 σ kL2 n x1 x2 = some r → V p l e { frames := 4, cells := 0, slots := 0, locals := 94 } s m args below meth c 0 0 (MQ below (qC (some (.int r)) σ D T ad) args s 0 0 (fA ad)) 3 (fA ad) D T ad σ 15 [(0, .ref (ad 7)), (1, .int x1), (2, .int x2)] [] := by
  intro n
  induction n with
  | zero =>
    intro x1 x2 hF
    cases (show (none : Option Int32) = some r from hF)
  | succ n ih =>
    intro x1 x2 hF
    rw [F_X8_nobodyBolts_b15] at hF
    refine V_iload_n C 2 dX8_nobodyBolts_15 rfl ?_
    refine V_aload_n C 0 dX8_nobodyBolts_16 rfl ?_
    refine gf_X8_21 C dX8_nobodyBolts_17 ?_
    refine gf_X8_79 C dX8_nobodyBolts_20 ?_
    refine V_icmp_ge C 50 dX8_nobodyBolts_23 (by decide) hF (fun hF => ?_) (fun hF => ?_)
    · refine V_iinc C (v := (x1 + 1)) (lv' := [(1, .int (x1 + 1)), (0, .ref (ad 7)), (2, .int x2)]) 1 dX8_nobodyBolts_50 rfl rfl (by decide) rfl ?_
      refine V_goto C 2 dX8_nobodyBolts_53 (by decide) ?_
      refine V_lv (ks := [1, 0]) rfl ?_
      exact hL2 (x1 + 1) hF
    · refine V_aload_n C 0 dX8_nobodyBolts_26 rfl ?_
      refine gf_X8_12 C dX8_nobodyBolts_27 ?_
      refine V_iload_n C 1 dX8_nobodyBolts_30 rfl ?_
      refine V_iload_n C 2 dX8_nobodyBolts_31 rfl ?_
      refine V_aload_n C 0 dX8_nobodyBolts_32 rfl ?_
      refine gf_X8_25 C dX8_nobodyBolts_33 ?_
      obtain ⟨q1, hq1, hF⟩ := bnd hF
      refine cs_X8_109 C (by decide) (ct_X7_boltsWith (by decide) hq1) rfl ⟨by decide, by decide⟩ (Nat.le_of_ble_eq_true rfl) dX8_nobodyBolts_36 ⟨Nat.le_refl 0, Nat.le_refl 0⟩ ?_
      refine V_if_eq C 44 dX8_nobodyBolts_39 (by decide) hF (fun hF => ?_) (fun hF => ?_)
      · refine V_iinc C (v := (x2 + 1)) (lv' := [(2, .int (x2 + 1)), (0, .ref (ad 7)), (1, .int x1)]) 2 dX8_nobodyBolts_44 rfl rfl (by decide) rfl ?_
        refine V_goto C 15 dX8_nobodyBolts_47 (by decide) ?_
        refine V_lv (ks := [1, 2, 0]) rfl ?_
        exact ih x1 (x2 + 1) hF
      · refine V_iconst C dX8_nobodyBolts_42 (v := (0 : Int32)) (by decide) ?_
        cases hF
        exact V_zret C hr hlk (Or.inl rfl) rfl rfl dX8_nobodyBolts_43
set_option maxHeartbeats 4000000 in
set_option maxRecDepth 20000 in
theorem w_X8_nobodyBolts_b2 {p : Program} {l : Launch} {e : Env} {s : State} {m : MethodId} {args : Array Value} {below : List Frame} {meth : Method} {c : Code} {D : va_G} {T : Nat → ClassId} {ad zz : Nat → Nat} (C : Cx p s m c cX8_nobodyBolts 3 RX8 (fA ad) D T ad zz) (hr : meth.sig.returnType = (some .boolean)) (hlk : meth.locks = false) {σ : Mem} {r : Int32}  : ∀ (n : Nat), ∀ (x1 : Int32), F_X8_nobodyBolts_b2 σ n x1 = some r → V p l e { frames := 4, cells := 0, slots := 0, locals := 94 } s m args below meth c 0 0 (MQ below (qC (some (.int r)) σ D T ad) args s 0 0 (fA ad)) 3 (fA ad) D T ad σ 2 [(0, .ref (ad 7)), (1, .int x1)] [] := by
  intro n
  induction n with
  | zero =>
    intro x1 hF
    cases (show (none : Option Int32) = some r from hF)
  | succ n ih =>
    intro x1 hF
    rw [F_X8_nobodyBolts_b2] at hF
    refine V_iload_n C 1 dX8_nobodyBolts_2 rfl ?_
    refine V_aload_n C 0 dX8_nobodyBolts_3 rfl ?_
    refine gf_X8_21 C dX8_nobodyBolts_4 ?_
    refine gf_X8_64 C dX8_nobodyBolts_7 ?_
    refine V_icmp_ge C 56 dX8_nobodyBolts_10 (by decide) hF (fun hF => ?_) (fun hF => ?_)
    · refine V_iconst C dX8_nobodyBolts_56 (v := (1 : Int32)) (by decide) ?_
      cases hF
      exact V_zret C hr hlk (Or.inr rfl) rfl rfl dX8_nobodyBolts_57
    · refine V_iconst C dX8_nobodyBolts_13 (v := (0 : Int32)) (by decide) ?_
      refine V_istore_n C (lv' := [(2, .int (0 : Int32)), (0, .ref (ad 7)), (1, .int x1)]) dX8_nobodyBolts_14 rfl (by decide) rfl ?_
      refine V_lv (ks := [1, 2, 0]) rfl ?_
      exact w_X8_nobodyBolts_b15 C hr hlk (F_X8_nobodyBolts_b2 σ n) ih 4000 x1 (0 : Int32) hF
set_option maxHeartbeats 4000000 in
set_option maxRecDepth 20000 in
theorem ct_X8_nobodyBolts {σ : Mem} {r : Int32} (hF : F_X8_nobodyBolts σ = some r) : Ct yX8_nobodyBolts cX8_nobodyBolts 3 (some .boolean) 4 94 (fun ad zz => [.ref (ad 7)]) σ (fun ad => (some (.int r))) σ := by
  refine Ct_of (by decide +kernel) (lv := fun ad zz => [(0, .ref (ad 7))]) (fun _ _ => rfl) (fun _ _ => Nat.le_of_ble_eq_true rfl) (fun p l e s m args below meth c D T ad zz C hr hlk => ?_)
  rw [F_X8_nobodyBolts] at hF
  refine V_iconst C dX8_nobodyBolts_0 (v := (0 : Int32)) (by decide) ?_
  refine V_istore_n C (lv' := [(1, .int (0 : Int32)), (0, .ref (ad 7))]) dX8_nobodyBolts_1 rfl (by decide) rfl ?_
  refine V_lv (ks := [1, 0]) rfl ?_
  exact w_X8_nobodyBolts_b2 C hr hlk 4000 (0 : Int32) hF

def F_X8_addHolding_b30  : Nat → Int32 → Mem → Option Mem
  | 0, _, _ => none
  | n + 1, x1, σ =>
    if (σ.1 2) ≤ x1 then
      some σ
    else
      Option.bind (F_X7_horseOf 18 x1 σ) fun q2 =>
      Option.bind (F_X7_horseOf 19 x1 σ) fun q3 =>
      if q2 = q3 then
        (F_X8_addHolding_b30 n) (x1 + 1) σ
      else
        Option.bind (stI σ 7 ((σ.1 7) ||| ((1 : Int32) <<< (x1 &&& 31)))) fun σ4 =>
        (F_X8_addHolding_b30 n) (x1 + 1) σ4
def F_X8_addHolding (σ : Mem) : Option Mem :=
  if (σ.1 6) = 0 then
    Option.bind (F_X7_copyFrom 19 18 σ) fun σ5 =>
    Option.bind (stI σ5 6 ((σ5.1 6) + (1 : Int32))) fun σ6 =>
    F_X8_addHolding_b30 4000 (0 : Int32) σ6
  else
    Option.bind (stI σ 6 ((σ.1 6) + (1 : Int32))) fun σ1 =>
    F_X8_addHolding_b30 4000 (0 : Int32) σ1
set_option maxHeartbeats 4000000 in
set_option maxRecDepth 20000 in
theorem w_X8_addHolding_b30 {p : Program} {l : Launch} {e : Env} {s : State} {m : MethodId} {args : Array Value} {below : List Frame} {meth : Method} {c : Code} {D : va_G} {T : Nat → ClassId} {ad zz : Nat → Nat} (C : Cx p s m c cX8_addHolding 2 RX8 (fA ad) D T ad zz) (hr : meth.sig.returnType = none) (hlk : meth.locks = false) {r : Mem}  : ∀ (n : Nat), ∀ (x1 : Int32) (σ : Mem), F_X8_addHolding_b30  n x1 σ = some r → V p l e { frames := 2, cells := 0, slots := 0, locals := 61 } s m args below meth c 0 0 (MQ below (qC none r D T ad) args s 0 0 (fA ad)) 2 (fA ad) D T ad σ 30 [(0, .ref (ad 7)), (1, .int x1)] [] := by
  intro n
  induction n with
  | zero =>
    intro x1 σ hF
    cases (show (none : Option Mem) = some r from hF)
  | succ n ih =>
    intro x1 σ hF
    rw [F_X8_addHolding_b30] at hF
    refine V_iload_n C 1 dX8_addHolding_30 rfl ?_
    refine V_aload_n C 0 dX8_addHolding_31 rfl ?_
    refine gf_X8_21 C dX8_addHolding_32 ?_
    refine gf_X8_64 C dX8_addHolding_35 ?_
    refine V_icmp_ge C 78 dX8_addHolding_38 (by decide) hF (fun hF => ?_) (fun hF => ?_)
    · cases hF
      exact V_vret C hr hlk rfl rfl dX8_addHolding_78
    · refine V_aload_n C 0 dX8_addHolding_41 rfl ?_
      refine gf_X8_12 C dX8_addHolding_42 ?_
      refine V_iload_n C 1 dX8_addHolding_45 rfl ?_
      obtain ⟨q2, hq2, hF⟩ := bnd hF
      refine cs_X8_69 C (by decide) (ct_X7_horseOf (by decide) hq2) rfl ⟨by decide, by decide⟩ (Nat.le_of_ble_eq_true rfl) dX8_addHolding_46 ⟨Nat.le_refl 0, Nat.le_refl 0⟩ ?_
      refine V_aload_n C 0 dX8_addHolding_49 rfl ?_
      refine gf_X8_18 C dX8_addHolding_50 ?_
      refine V_iload_n C 1 dX8_addHolding_53 rfl ?_
      obtain ⟨q3, hq3, hF⟩ := bnd hF
      refine cs_X8_69 C (by decide) (ct_X7_horseOf (by decide) hq3) rfl ⟨by decide, by decide⟩ (Nat.le_of_ble_eq_true rfl) dX8_addHolding_54 ⟨Nat.le_refl 0, Nat.le_refl 0⟩ ?_
      refine V_icmp_eq C 72 dX8_addHolding_57 (by decide) hF (fun hF => ?_) (fun hF => ?_)
      · refine V_iinc C (v := (x1 + 1)) (lv' := [(1, .int (x1 + 1)), (0, .ref (ad 7))]) 1 dX8_addHolding_72 rfl rfl (by decide) rfl ?_
        refine V_goto C 30 dX8_addHolding_75 (by decide) ?_
        refine V_lv (ks := [1, 0]) rfl ?_
        exact ih (x1 + 1) σ hF
      · refine V_aload_n C 0 dX8_addHolding_60 rfl ?_
        refine V_dup C dX8_addHolding_61 rfl ?_
        refine gf_X8_33 C dX8_addHolding_62 ?_
        refine V_iconst C dX8_addHolding_65 (v := (1 : Int32)) (by decide) ?_
        refine V_iload_n C 1 dX8_addHolding_66 rfl ?_
        refine V_ishl C dX8_addHolding_67 ?_
        refine V_ior C dX8_addHolding_68 ?_
        obtain ⟨σ4, hs4, hF⟩ := bnd hF
        refine pf_X8_33 C hs4 dX8_addHolding_69 ?_
        refine V_iinc C (v := (x1 + 1)) (lv' := [(1, .int (x1 + 1)), (0, .ref (ad 7))]) 1 dX8_addHolding_72 rfl rfl (by decide) rfl ?_
        refine V_goto C 30 dX8_addHolding_75 (by decide) ?_
        refine V_lv (ks := [1, 0]) rfl ?_
        exact ih (x1 + 1) σ4 hF
set_option maxHeartbeats 4000000 in
set_option maxRecDepth 20000 in
theorem ct_X8_addHolding {σ : Mem} {r : Mem} (hF : F_X8_addHolding σ = some r) : Ct yX8_addHolding cX8_addHolding 2 none 2 61 (fun ad zz => [.ref (ad 7)]) σ (fun ad => none) r := by
  refine Ct_of (by decide +kernel) (lv := fun ad zz => [(0, .ref (ad 7))]) (fun _ _ => rfl) (fun _ _ => Nat.le_of_ble_eq_true rfl) (fun p l e s m args below meth c D T ad zz C hr hlk => ?_)
  rw [F_X8_addHolding] at hF
  refine V_aload_n C 0 dX8_addHolding_0 rfl ?_
  refine gf_X8_29 C dX8_addHolding_1 ?_
  refine V_if_ne C 18 dX8_addHolding_4 (by decide) hF (fun hF => ?_) (fun hF => ?_)
  · refine V_aload_n C 0 dX8_addHolding_18 rfl ?_
    refine V_dup C dX8_addHolding_19 rfl ?_
    refine gf_X8_29 C dX8_addHolding_20 ?_
    refine V_iconst C dX8_addHolding_23 (v := (1 : Int32)) (by decide) ?_
    refine V_iadd C dX8_addHolding_24 ?_
    obtain ⟨σ1, hs1, hF⟩ := bnd hF
    refine pf_X8_29 C hs1 dX8_addHolding_25 ?_
    refine V_iconst C dX8_addHolding_28 (v := (0 : Int32)) (by decide) ?_
    refine V_istore_n C (lv' := [(1, .int (0 : Int32)), (0, .ref (ad 7))]) dX8_addHolding_29 rfl (by decide) rfl ?_
    refine V_lv (ks := [1, 0]) rfl ?_
    exact w_X8_addHolding_b30 C hr hlk 4000 (0 : Int32) σ1 hF
  · refine V_aload_n C 0 dX8_addHolding_7 rfl ?_
    refine gf_X8_18 C dX8_addHolding_8 ?_
    refine V_aload_n C 0 dX8_addHolding_11 rfl ?_
    refine gf_X8_12 C dX8_addHolding_12 ?_
    obtain ⟨σ5, hs5, hF⟩ := bnd hF
    refine cs_X8_60 C (by decide) (ct_X7_copyFrom (by decide) (by decide) hs5) rfl ⟨by decide, by decide⟩ (Nat.le_of_ble_eq_true rfl) dX8_addHolding_15 ⟨Nat.le_refl 0, Nat.le_refl 0⟩ ?_
    refine V_aload_n C 0 dX8_addHolding_18 rfl ?_
    refine V_dup C dX8_addHolding_19 rfl ?_
    refine gf_X8_29 C dX8_addHolding_20 ?_
    refine V_iconst C dX8_addHolding_23 (v := (1 : Int32)) (by decide) ?_
    refine V_iadd C dX8_addHolding_24 ?_
    obtain ⟨σ6, hs6, hF⟩ := bnd hF
    refine pf_X8_29 C hs6 dX8_addHolding_25 ?_
    refine V_iconst C dX8_addHolding_28 (v := (0 : Int32)) (by decide) ?_
    refine V_istore_n C (lv' := [(1, .int (0 : Int32)), (0, .ref (ad 7))]) dX8_addHolding_29 rfl (by decide) rfl ?_
    refine V_lv (ks := [1, 0]) rfl ?_
    exact w_X8_addHolding_b30 C hr hlk 4000 (0 : Int32) σ6 hF
