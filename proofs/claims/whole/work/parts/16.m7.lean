-- walks: X10_forged X10_left X10_race X10_raceOf X10_choose X10_unchoose J13_bitCount_95d88 X10_learnt
def F_X10_forged_b58  : Nat → Int32 → Int32 → Int32 → Int32 → Int32 → Int32 → Mem → Option (Int32 × Mem)
  | 0, _, _, _, _, _, _, _ => none
  | n + 1, x1, x2, x3, x4, x5, x6, σ =>
    if (999 : Int32) < x6 then
      if x4 = (-9 : Int32) then
        some (x4, σ)
      else
        if x3 = (1 : Int32) then
          some (x4, σ)
        else
          some (x5, σ)
    else
      if x5 ≤ (((x6 / (100 : Int32)) + ((x6 / (10 : Int32)) - (x6 / (10 : Int32)) / (10 : Int32) * (10 : Int32))) + (x6 - x6 / (10 : Int32) * (10 : Int32))) then
        (F_X10_forged_b58 n) x1 x2 x3 x4 x5 (x6 + 1) σ
      else
        Option.bind (F_X10_hasWhenForged x1 x2 x6 σ) fun q4 =>
        if q4.1 = 0 then
          (F_X10_forged_b58 n) x1 x2 x3 x4 x5 (x6 + 1) q4.2
        else
          (F_X10_forged_b58 n) x1 x2 x3 x6 (((x6 / (100 : Int32)) + ((x6 / (10 : Int32)) - (x6 / (10 : Int32)) / (10 : Int32) * (10 : Int32))) + (x6 - x6 / (10 : Int32) * (10 : Int32))) (x6 + 1) q4.2
def F_X10_forged (a1 : Int32) (a2 : Int32) (a3 : Int32) (σ : Mem) : Option (Int32 × Mem) :=
  Option.bind (F_X3_hasRider a1 σ) fun q1 =>
  if q1 = 0 then
    some ((-1 : Int32), σ)
  else
    Option.bind (F_X3_hasHorse a2 σ) fun q2 =>
    if q2 = 0 then
      some ((-1 : Int32), σ)
    else
      if a3 = 0 then
        Option.bind (F_X9_weigh 0 σ) fun σ3 =>
        F_X10_forged_b58 4000 a1 a2 a3 (-9 : Int32) (28 : Int32) (0 : Int32) σ3
      else
        if a3 = (1 : Int32) then
          Option.bind (F_X9_weigh 0 σ) fun σ5 =>
          F_X10_forged_b58 4000 a1 a2 a3 (-9 : Int32) (28 : Int32) (0 : Int32) σ5
        else
          some ((-2 : Int32), σ)
set_option maxHeartbeats 4000000 in
set_option maxRecDepth 20000 in
theorem w_X10_forged_b58 {p : Program} {l : Launch} {e : Env} {s : State} {m : MethodId} {args : Array Value} {below : List Frame} {meth : Method} {c : Code} {D : va_G} {T : Nat → ClassId} {ad zz : Nat → Nat} (C : Cx p s m c cX10_forged 8 RX10 (fA ad) D T ad zz) (hr : meth.sig.returnType = (some .int)) (hlk : meth.locks = false) {r : (Int32 × Mem)}  : ∀ (n : Nat), ∀ (x1 : Int32) (x2 : Int32) (x3 : Int32) (x4 : Int32) (x5 : Int32) (x6 : Int32) (σ : Mem), F_X10_forged_b58  n x1 x2 x3 x4 x5 x6 σ = some r → V p l e { frames := 6, cells := 0, slots := 0, locals := 144 } s m args below meth c 0 0 (MQ below (qC (some (.int r.1)) r.2 D T ad) args s 0 0 (fA ad)) 8 (fA ad) D T ad σ 58 [(0, .ref (ad 0)), (1, .int x1), (2, .int x2), (3, .int x3), (4, .int x4), (5, .int x5), (6, .int x6)] [] := by
  intro n
  induction n with
  | zero =>
    intro x1 x2 x3 x4 x5 x6 σ hF
    cases (show (none : Option (Int32 × Mem)) = some r from hF)
  | succ n ih =>
    intro x1 x2 x3 x4 x5 x6 σ hF
    rw [F_X10_forged_b58] at hF
    refine V_iload C 6 dX10_forged_58 rfl ?_
    refine V_sipush C dX10_forged_60 (v := (999 : Int32)) (by decide) ?_
    refine V_icmp_gt C 120 dX10_forged_63 (by decide) hF (fun hF => ?_) (fun hF => ?_)
    · refine V_iload C 4 dX10_forged_120 rfl ?_
      refine V_bipush C dX10_forged_122 (v := (-9 : Int32)) (by decide) ?_
      refine V_icmp_eq C 132 dX10_forged_124 (by decide) hF (fun hF => ?_) (fun hF => ?_)
      · refine V_iload C 4 dX10_forged_132 rfl ?_
        refine V_goto C 139 dX10_forged_134 (by decide) ?_
        cases hF
        exact V_iret C hr hlk rfl rfl dX10_forged_139
      · refine V_iload_n C 3 dX10_forged_127 rfl ?_
        refine V_iconst C dX10_forged_128 (v := (1 : Int32)) (by decide) ?_
        refine V_icmp_ne C 137 dX10_forged_129 (by decide) hF (fun hF => ?_) (fun hF => ?_)
        · refine V_iload C 5 dX10_forged_137 rfl ?_
          cases hF
          exact V_iret C hr hlk rfl rfl dX10_forged_139
        · refine V_iload C 4 dX10_forged_132 rfl ?_
          refine V_goto C 139 dX10_forged_134 (by decide) ?_
          cases hF
          exact V_iret C hr hlk rfl rfl dX10_forged_139
    · refine V_iload C 6 dX10_forged_66 rfl ?_
      refine V_bipush C dX10_forged_68 (v := (100 : Int32)) (by decide) ?_
      refine V_idivc C dX10_forged_70 (by decide) ?_
      refine V_iload C 6 dX10_forged_71 rfl ?_
      refine V_bipush C dX10_forged_73 (v := (10 : Int32)) (by decide) ?_
      refine V_idivc C dX10_forged_75 (by decide) ?_
      refine V_bipush C dX10_forged_76 (v := (10 : Int32)) (by decide) ?_
      refine V_iremc C dX10_forged_78 (by decide) ?_
      refine V_iadd C dX10_forged_79 ?_
      refine V_iload C 6 dX10_forged_80 rfl ?_
      refine V_bipush C dX10_forged_82 (v := (10 : Int32)) (by decide) ?_
      refine V_iremc C dX10_forged_84 (by decide) ?_
      refine V_iadd C dX10_forged_85 ?_
      refine V_istore C (lv' := [(7, .int (((x6 / (100 : Int32)) + ((x6 / (10 : Int32)) - (x6 / (10 : Int32)) / (10 : Int32) * (10 : Int32))) + (x6 - x6 / (10 : Int32) * (10 : Int32)))), (0, .ref (ad 0)), (1, .int x1), (2, .int x2), (3, .int x3), (4, .int x4), (5, .int x5), (6, .int x6)]) dX10_forged_86 (by decide) rfl ?_
      refine V_iload C 0 dX10_forged_88 rfl ?_
      refine V_iload C 6 dX10_forged_90 rfl ?_
      refine V_icmp_ge C 114 dX10_forged_92 (by decide) hF (fun hF => ?_) (fun hF => ?_)
      · refine V_iinc C (v := (x6 + 1)) (lv' := [(6, .int (x6 + 1)), (7, .int (((x6 / (100 : Int32)) + ((x6 / (10 : Int32)) - (x6 / (10 : Int32)) / (10 : Int32) * (10 : Int32))) + (x6 - x6 / (10 : Int32) * (10 : Int32)))), (0, .ref (ad 0)), (1, .int x1), (2, .int x2), (3, .int x3), (4, .int x4), (5, .int x5)]) 7 dX10_forged_114 rfl rfl (by decide) rfl ?_
        refine V_goto C 58 dX10_forged_117 (by decide) ?_
        refine V_lv (ks := [2, 3, 4, 5, 6, 7, 0]) rfl ?_
        exact ih x1 x2 x3 x4 x5 (x6 + 1) σ hF
      · refine V_aload_n C 1 dX10_forged_95 rfl ?_
        refine V_iload_n C 2 dX10_forged_96 rfl ?_
        refine V_iload_n C 3 dX10_forged_97 rfl ?_
        refine V_iload C 7 dX10_forged_98 rfl ?_
        obtain ⟨q4, hq4, hF⟩ := bnd hF
        refine cs_X10_258 C (ct_X10_hasWhenForged hq4) rfl ⟨by decide, by decide⟩ (Nat.le_of_ble_eq_true rfl) dX10_forged_100 ⟨Nat.le_refl 0, Nat.le_refl 0⟩ ?_
        refine V_if_eq C 114 dX10_forged_103 (by decide) hF (fun hF => ?_) (fun hF => ?_)
        · refine V_iinc C (v := (x6 + 1)) (lv' := [(6, .int (x6 + 1)), (7, .int (((x6 / (100 : Int32)) + ((x6 / (10 : Int32)) - (x6 / (10 : Int32)) / (10 : Int32) * (10 : Int32))) + (x6 - x6 / (10 : Int32) * (10 : Int32)))), (0, .ref (ad 0)), (1, .int x1), (2, .int x2), (3, .int x3), (4, .int x4), (5, .int x5)]) 7 dX10_forged_114 rfl rfl (by decide) rfl ?_
          refine V_goto C 58 dX10_forged_117 (by decide) ?_
          refine V_lv (ks := [2, 3, 4, 5, 6, 7, 0]) rfl ?_
          exact ih x1 x2 x3 x4 x5 (x6 + 1) q4.2 hF
        · refine V_iload C 0 dX10_forged_106 rfl ?_
          refine V_istore C (lv' := [(5, .int (((x6 / (100 : Int32)) + ((x6 / (10 : Int32)) - (x6 / (10 : Int32)) / (10 : Int32) * (10 : Int32))) + (x6 - x6 / (10 : Int32) * (10 : Int32)))), (7, .int (((x6 / (100 : Int32)) + ((x6 / (10 : Int32)) - (x6 / (10 : Int32)) / (10 : Int32) * (10 : Int32))) + (x6 - x6 / (10 : Int32) * (10 : Int32)))), (0, .ref (ad 0)), (1, .int x1), (2, .int x2), (3, .int x3), (4, .int x4), (6, .int x6)]) dX10_forged_108 (by decide) rfl ?_
          refine V_iload C 7 dX10_forged_110 rfl ?_
          refine V_istore C (lv' := [(4, .int x6), (5, .int (((x6 / (100 : Int32)) + ((x6 / (10 : Int32)) - (x6 / (10 : Int32)) / (10 : Int32) * (10 : Int32))) + (x6 - x6 / (10 : Int32) * (10 : Int32)))), (7, .int (((x6 / (100 : Int32)) + ((x6 / (10 : Int32)) - (x6 / (10 : Int32)) / (10 : Int32) * (10 : Int32))) + (x6 - x6 / (10 : Int32) * (10 : Int32)))), (0, .ref (ad 0)), (1, .int x1), (2, .int x2), (3, .int x3), (6, .int x6)]) dX10_forged_112 (by decide) rfl ?_
          refine V_iinc C (v := (x6 + 1)) (lv' := [(6, .int (x6 + 1)), (4, .int x6), (5, .int (((x6 / (100 : Int32)) + ((x6 / (10 : Int32)) - (x6 / (10 : Int32)) / (10 : Int32) * (10 : Int32))) + (x6 - x6 / (10 : Int32) * (10 : Int32)))), (7, .int (((x6 / (100 : Int32)) + ((x6 / (10 : Int32)) - (x6 / (10 : Int32)) / (10 : Int32) * (10 : Int32))) + (x6 - x6 / (10 : Int32) * (10 : Int32)))), (0, .ref (ad 0)), (1, .int x1), (2, .int x2), (3, .int x3)]) 7 dX10_forged_114 rfl rfl (by decide) rfl ?_
          refine V_goto C 58 dX10_forged_117 (by decide) ?_
          refine V_lv (ks := [4, 5, 6, 7, 1, 2, 0]) rfl ?_
          exact ih x1 x2 x3 x6 (((x6 / (100 : Int32)) + ((x6 / (10 : Int32)) - (x6 / (10 : Int32)) / (10 : Int32) * (10 : Int32))) + (x6 - x6 / (10 : Int32) * (10 : Int32))) (x6 + 1) q4.2 hF
set_option maxHeartbeats 4000000 in
set_option maxRecDepth 20000 in
theorem ct_X10_forged {a1 : Int32} {a2 : Int32} {a3 : Int32} {σ : Mem} {r : (Int32 × Mem)} (hF : F_X10_forged a1 a2 a3 σ = some r) : Ct yX10_forged cX10_forged 8 (some .int) 6 144 (fun ad zz => [.ref (ad 0), .int a1, .int a2, .int a3]) σ (fun ad => (some (.int r.1))) r.2 := by
  refine Ct_of (by decide +kernel) (lv := fun ad zz => [(0, .ref (ad 0)), (1, .int a1), (2, .int a2), (3, .int a3)]) (fun _ _ => rfl) (fun _ _ => Nat.le_of_ble_eq_true rfl) (fun p l e s m args below meth c D T ad zz C hr hlk => ?_)
  rw [F_X10_forged] at hF
  refine V_aload_n C 0 dX10_forged_0 rfl ?_
  refine gf_X10_19 C dX10_forged_1 ?_
  refine V_iload_n C 1 dX10_forged_4 rfl ?_
  obtain ⟨q1, hq1, hF⟩ := bnd hF
  refine cs_X10_165 C (ct_X3_hasRider hq1) rfl ⟨by decide, by decide⟩ (Nat.le_of_ble_eq_true rfl) dX10_forged_5 ⟨Nat.le_refl 0, Nat.le_refl 0⟩ ?_
  refine V_if_eq C 22 dX10_forged_8 (by decide) hF (fun hF => ?_) (fun hF => ?_)
  · refine V_iconst C dX10_forged_22 (v := (-1 : Int32)) (by decide) ?_
    cases hF
    exact V_iret C hr hlk rfl rfl dX10_forged_23
  · refine V_aload_n C 0 dX10_forged_11 rfl ?_
    refine gf_X10_19 C dX10_forged_12 ?_
    refine V_iload_n C 2 dX10_forged_15 rfl ?_
    obtain ⟨q2, hq2, hF⟩ := bnd hF
    refine cs_X10_135 C (ct_X3_hasHorse hq2) rfl ⟨by decide, by decide⟩ (Nat.le_of_ble_eq_true rfl) dX10_forged_16 ⟨Nat.le_refl 0, Nat.le_refl 0⟩ ?_
    refine V_if_ne C 24 dX10_forged_19 (by decide) hF (fun hF => ?_) (fun hF => ?_)
    · refine V_iload_n C 3 dX10_forged_24 rfl ?_
      refine V_if_eq C 36 dX10_forged_25 (by decide) hF (fun hF => ?_) (fun hF => ?_)
      · refine V_aload_n C 0 dX10_forged_36 rfl ?_
        refine gf_X10_53 C dX10_forged_37 ?_
        refine V_aload_n C 0 dX10_forged_40 rfl ?_
        refine gf_X10_26 C dX10_forged_41 ?_
        obtain ⟨σ3, hs3, hF⟩ := bnd hF
        refine cs_X10_184 C (ct_X9_weigh (by decide) hs3) rfl ⟨by decide, by decide⟩ (Nat.le_of_ble_eq_true rfl) dX10_forged_44 ⟨Nat.le_refl 0, Nat.le_refl 0⟩ ?_
        refine V_bipush C dX10_forged_47 (v := (-9 : Int32)) (by decide) ?_
        refine V_istore C (lv' := [(4, .int (-9 : Int32)), (0, .ref (ad 0)), (1, .int a1), (2, .int a2), (3, .int a3)]) dX10_forged_49 (by decide) rfl ?_
        refine V_bipush C dX10_forged_51 (v := (28 : Int32)) (by decide) ?_
        refine V_istore C (lv' := [(5, .int (28 : Int32)), (4, .int (-9 : Int32)), (0, .ref (ad 0)), (1, .int a1), (2, .int a2), (3, .int a3)]) dX10_forged_53 (by decide) rfl ?_
        refine V_iconst C dX10_forged_55 (v := (0 : Int32)) (by decide) ?_
        refine V_istore C (lv' := [(6, .int (0 : Int32)), (5, .int (28 : Int32)), (4, .int (-9 : Int32)), (0, .ref (ad 0)), (1, .int a1), (2, .int a2), (3, .int a3)]) dX10_forged_56 (by decide) rfl ?_
        refine V_lv (ks := [3, 4, 5, 6, 2, 1, 0]) rfl ?_
        exact w_X10_forged_b58 C hr hlk 4000 a1 a2 a3 (-9 : Int32) (28 : Int32) (0 : Int32) σ3 hF
      · refine V_iload_n C 3 dX10_forged_28 rfl ?_
        refine V_iconst C dX10_forged_29 (v := (1 : Int32)) (by decide) ?_
        refine V_icmp_eq C 36 dX10_forged_30 (by decide) hF (fun hF => ?_) (fun hF => ?_)
        · refine V_aload_n C 0 dX10_forged_36 rfl ?_
          refine gf_X10_53 C dX10_forged_37 ?_
          refine V_aload_n C 0 dX10_forged_40 rfl ?_
          refine gf_X10_26 C dX10_forged_41 ?_
          obtain ⟨σ5, hs5, hF⟩ := bnd hF
          refine cs_X10_184 C (ct_X9_weigh (by decide) hs5) rfl ⟨by decide, by decide⟩ (Nat.le_of_ble_eq_true rfl) dX10_forged_44 ⟨Nat.le_refl 0, Nat.le_refl 0⟩ ?_
          refine V_bipush C dX10_forged_47 (v := (-9 : Int32)) (by decide) ?_
          refine V_istore C (lv' := [(4, .int (-9 : Int32)), (0, .ref (ad 0)), (1, .int a1), (2, .int a2), (3, .int a3)]) dX10_forged_49 (by decide) rfl ?_
          refine V_bipush C dX10_forged_51 (v := (28 : Int32)) (by decide) ?_
          refine V_istore C (lv' := [(5, .int (28 : Int32)), (4, .int (-9 : Int32)), (0, .ref (ad 0)), (1, .int a1), (2, .int a2), (3, .int a3)]) dX10_forged_53 (by decide) rfl ?_
          refine V_iconst C dX10_forged_55 (v := (0 : Int32)) (by decide) ?_
          refine V_istore C (lv' := [(6, .int (0 : Int32)), (5, .int (28 : Int32)), (4, .int (-9 : Int32)), (0, .ref (ad 0)), (1, .int a1), (2, .int a2), (3, .int a3)]) dX10_forged_56 (by decide) rfl ?_
          refine V_lv (ks := [3, 4, 5, 6, 2, 1, 0]) rfl ?_
          exact w_X10_forged_b58 C hr hlk 4000 a1 a2 a3 (-9 : Int32) (28 : Int32) (0 : Int32) σ5 hF
        · refine V_bipush C dX10_forged_33 (v := (-2 : Int32)) (by decide) ?_
          cases hF
          exact V_iret C hr hlk rfl rfl dX10_forged_35
    · refine V_iconst C dX10_forged_22 (v := (-1 : Int32)) (by decide) ?_
      cases hF
      exact V_iret C hr hlk rfl rfl dX10_forged_23

def F_X10_left_b29  : Nat → Int32 → Int32 → Mem → Option (Int32 × Mem)
  | 0, _, _, _ => none
  | n + 1, x1, x2, σ =>
    if (σ.1 1) ≤ x2 then
      some (x1, σ)
    else
      Option.bind (F_X7_keptCount 17 x2 σ) fun q4 =>
      Option.bind (F_X10_at 1 x2 σ) fun q5 =>
      if q5 ≤ q4 then
        (F_X10_left_b29 n) x1 (x2 + 1) σ
      else
        (F_X10_left_b29 n) (x1 ||| ((1 : Int32) <<< (x2 &&& 31))) (x2 + 1) σ
def F_X10_left (σ : Mem) : Option (Int32 × Mem) :=
  Option.bind (F_X9_weigh 0 σ) fun σ1 =>
  Option.bind (F_X3_allRiders σ1) fun q2 =>
  Option.bind (F_X4_holdByRiders q2 σ1) fun σ3 =>
  F_X10_left_b29 4000 (0 : Int32) (0 : Int32) σ3
set_option maxHeartbeats 4000000 in
set_option maxRecDepth 20000 in
theorem w_X10_left_b29 {p : Program} {l : Launch} {e : Env} {s : State} {m : MethodId} {args : Array Value} {below : List Frame} {meth : Method} {c : Code} {D : va_G} {T : Nat → ClassId} {ad zz : Nat → Nat} (C : Cx p s m c cX10_left 3 RX10 (fA ad) D T ad zz) (hr : meth.sig.returnType = (some .int)) (hlk : meth.locks = false) {r : (Int32 × Mem)}  : ∀ (n : Nat), ∀ (x1 : Int32) (x2 : Int32) (σ : Mem), F_X10_left_b29  n x1 x2 σ = some r → V p l e { frames := 5, cells := 0, slots := 0, locals := 118 } s m args below meth c 0 0 (MQ below (qC (some (.int r.1)) r.2 D T ad) args s 0 0 (fA ad)) 3 (fA ad) D T ad σ 29 [(0, .ref (ad 0)), (1, .int x1), (2, .int x2)] [] := by
  intro n
  induction n with
  | zero =>
    intro x1 x2 σ hF
    cases (show (none : Option (Int32 × Mem)) = some r from hF)
  | succ n ih =>
    intro x1 x2 σ hF
    rw [F_X10_left_b29] at hF
    refine V_iload_n C 2 dX10_left_29 rfl ?_
    refine V_aload_n C 0 dX10_left_30 rfl ?_
    refine gf_X10_19 C dX10_left_31 ?_
    refine gf_X10_116 C dX10_left_34 ?_
    refine V_icmp_ge C 77 dX10_left_37 (by decide) hF (fun hF => ?_) (fun hF => ?_)
    · refine V_iload_n C 1 dX10_left_77 rfl ?_
      cases hF
      exact V_iret C hr hlk rfl rfl dX10_left_78
    · refine V_aload_n C 0 dX10_left_40 rfl ?_
      refine gf_X10_62 C dX10_left_41 ?_
      refine gf_X10_242 C dX10_left_44 ?_
      refine V_iload_n C 2 dX10_left_47 rfl ?_
      obtain ⟨q4, hq4, hF⟩ := bnd hF
      refine cs_X10_262 C (by decide) (ct_X7_keptCount (by decide) hq4) rfl ⟨by decide, by decide⟩ (Nat.le_of_ble_eq_true rfl) dX10_left_48 ⟨Nat.le_refl 0, Nat.le_refl 0⟩ ?_
      refine V_aload_n C 0 dX10_left_51 rfl ?_
      refine gf_X10_19 C dX10_left_52 ?_
      refine gf_X10_138 C dX10_left_55 ?_
      refine V_iload_n C 2 dX10_left_58 rfl ?_
      obtain ⟨q5, hq5, hF⟩ := bnd hF
      refine cs_X10_142 C (ct_X10_at (by decide) hq5) rfl ⟨by decide, by decide⟩ (Nat.le_of_ble_eq_true rfl) dX10_left_59 ⟨Nat.le_refl 0, Nat.le_refl 0⟩ ?_
      refine V_icmp_ge C 71 dX10_left_62 (by decide) hF (fun hF => ?_) (fun hF => ?_)
      · refine V_iinc C (v := (x2 + 1)) (lv' := [(2, .int (x2 + 1)), (0, .ref (ad 0)), (1, .int x1)]) 2 dX10_left_71 rfl rfl (by decide) rfl ?_
        refine V_goto C 29 dX10_left_74 (by decide) ?_
        refine V_lv (ks := [1, 2, 0]) rfl ?_
        exact ih x1 (x2 + 1) σ hF
      · refine V_iload_n C 1 dX10_left_65 rfl ?_
        refine V_iconst C dX10_left_66 (v := (1 : Int32)) (by decide) ?_
        refine V_iload_n C 2 dX10_left_67 rfl ?_
        refine V_ishl C dX10_left_68 ?_
        refine V_ior C dX10_left_69 ?_
        refine V_istore_n C (lv' := [(1, .int (x1 ||| ((1 : Int32) <<< (x2 &&& 31)))), (0, .ref (ad 0)), (2, .int x2)]) dX10_left_70 rfl (by decide) rfl ?_
        refine V_iinc C (v := (x2 + 1)) (lv' := [(2, .int (x2 + 1)), (1, .int (x1 ||| ((1 : Int32) <<< (x2 &&& 31)))), (0, .ref (ad 0))]) 2 dX10_left_71 rfl rfl (by decide) rfl ?_
        refine V_goto C 29 dX10_left_74 (by decide) ?_
        refine V_lv (ks := [2, 1, 0]) rfl ?_
        exact ih (x1 ||| ((1 : Int32) <<< (x2 &&& 31))) (x2 + 1) σ hF
set_option maxHeartbeats 4000000 in
set_option maxRecDepth 20000 in
theorem ct_X10_left {σ : Mem} {r : (Int32 × Mem)} (hF : F_X10_left σ = some r) : Ct yX10_left cX10_left 3 (some .int) 5 118 (fun ad zz => [.ref (ad 0)]) σ (fun ad => (some (.int r.1))) r.2 := by
  refine Ct_of (by decide +kernel) (lv := fun ad zz => [(0, .ref (ad 0))]) (fun _ _ => rfl) (fun _ _ => Nat.le_of_ble_eq_true rfl) (fun p l e s m args below meth c D T ad zz C hr hlk => ?_)
  rw [F_X10_left] at hF
  refine V_aload_n C 0 dX10_left_0 rfl ?_
  refine gf_X10_53 C dX10_left_1 ?_
  refine V_aload_n C 0 dX10_left_4 rfl ?_
  refine gf_X10_26 C dX10_left_5 ?_
  obtain ⟨σ1, hs1, hF⟩ := bnd hF
  refine cs_X10_184 C (ct_X9_weigh (by decide) hs1) rfl ⟨by decide, by decide⟩ (Nat.le_of_ble_eq_true rfl) dX10_left_8 ⟨Nat.le_refl 0, Nat.le_refl 0⟩ ?_
  refine V_aload_n C 0 dX10_left_11 rfl ?_
  refine gf_X10_62 C dX10_left_12 ?_
  refine V_aload_n C 0 dX10_left_15 rfl ?_
  refine gf_X10_19 C dX10_left_16 ?_
  obtain ⟨q2, hq2, hF⟩ := bnd hF
  refine cs_X10_235 C (ct_X3_allRiders hq2) rfl ⟨by decide, by decide⟩ (Nat.le_of_ble_eq_true rfl) dX10_left_19 ⟨Nat.le_refl 0, Nat.le_refl 0⟩ ?_
  obtain ⟨σ3, hs3, hF⟩ := bnd hF
  refine cs_X10_238 C (ct_X4_holdByRiders hs3) rfl ⟨by decide, by decide⟩ (Nat.le_of_ble_eq_true rfl) dX10_left_22 ⟨Nat.le_refl 0, Nat.le_refl 0⟩ ?_
  refine V_iconst C dX10_left_25 (v := (0 : Int32)) (by decide) ?_
  refine V_istore_n C (lv' := [(1, .int (0 : Int32)), (0, .ref (ad 0))]) dX10_left_26 rfl (by decide) rfl ?_
  refine V_iconst C dX10_left_27 (v := (0 : Int32)) (by decide) ?_
  refine V_istore_n C (lv' := [(2, .int (0 : Int32)), (1, .int (0 : Int32)), (0, .ref (ad 0))]) dX10_left_28 rfl (by decide) rfl ?_
  refine V_lv (ks := [2, 1, 0]) rfl ?_
  exact w_X10_left_b29 C hr hlk 4000 (0 : Int32) (0 : Int32) σ3 hF

def F_X10_race (σ : Mem) : Option (Int32 × Mem) :=
  Option.bind (F_X9_weigh 0 σ) fun σ1 =>
  Option.bind (F_X8_findRace σ1) fun σ2 =>
  some ((σ2.1 8), σ2)
set_option maxHeartbeats 4000000 in
set_option maxRecDepth 20000 in
theorem ct_X10_race {σ : Mem} {r : (Int32 × Mem)} (hF : F_X10_race σ = some r) : Ct yX10_race cX10_race 1 (some .int) 5 111 (fun ad zz => [.ref (ad 0)]) σ (fun ad => (some (.int r.1))) r.2 := by
  refine Ct_of (by decide +kernel) (lv := fun ad zz => [(0, .ref (ad 0))]) (fun _ _ => rfl) (fun _ _ => Nat.le_of_ble_eq_true rfl) (fun p l e s m args below meth c D T ad zz C hr hlk => ?_)
  rw [F_X10_race] at hF
  refine V_aload_n C 0 dX10_race_0 rfl ?_
  refine gf_X10_53 C dX10_race_1 ?_
  refine V_aload_n C 0 dX10_race_4 rfl ?_
  refine gf_X10_26 C dX10_race_5 ?_
  obtain ⟨σ1, hs1, hF⟩ := bnd hF
  refine cs_X10_184 C (ct_X9_weigh (by decide) hs1) rfl ⟨by decide, by decide⟩ (Nat.le_of_ble_eq_true rfl) dX10_race_8 ⟨Nat.le_refl 0, Nat.le_refl 0⟩ ?_
  refine V_aload_n C 0 dX10_race_11 rfl ?_
  refine gf_X10_69 C dX10_race_12 ?_
  obtain ⟨σ2, hs2, hF⟩ := bnd hF
  refine cs_X10_265 C (ct_X8_findRace hs2) rfl ⟨by decide, by decide⟩ (Nat.le_of_ble_eq_true rfl) dX10_race_15 ⟨Nat.le_refl 0, Nat.le_refl 0⟩ ?_
  refine V_aload_n C 0 dX10_race_18 rfl ?_
  refine gf_X10_69 C dX10_race_19 ?_
  refine gf_X10_268 C dX10_race_22 ?_
  cases hF
  exact V_iret C hr hlk rfl rfl dX10_race_25

def F_X10_raceOf (a1 : Int32) (σ : Mem) : Option (Int32 × Mem) :=
  Option.bind (F_X3_hasRider a1 σ) fun q1 =>
  if q1 = 0 then
    some ((-1 : Int32), σ)
  else
    Option.bind (F_X9_weigh 0 σ) fun σ2 =>
    Option.bind (F_X8_findRace σ2) fun σ3 =>
    Option.bind (F_X7_horseOf 19 a1 σ3) fun q4 =>
    if q4 = (-9 : Int32) then
      some ((9 : Int32), σ3)
    else
      some (q4, σ3)
set_option maxHeartbeats 4000000 in
set_option maxRecDepth 20000 in
theorem ct_X10_raceOf {a1 : Int32} {σ : Mem} {r : (Int32 × Mem)} (hF : F_X10_raceOf a1 σ = some r) : Ct yX10_raceOf cX10_raceOf 3 (some .int) 5 111 (fun ad zz => [.ref (ad 0), .int a1]) σ (fun ad => (some (.int r.1))) r.2 := by
  refine Ct_of (by decide +kernel) (lv := fun ad zz => [(0, .ref (ad 0)), (1, .int a1)]) (fun _ _ => rfl) (fun _ _ => Nat.le_of_ble_eq_true rfl) (fun p l e s m args below meth c D T ad zz C hr hlk => ?_)
  rw [F_X10_raceOf] at hF
  refine V_aload_n C 0 dX10_raceOf_0 rfl ?_
  refine gf_X10_19 C dX10_raceOf_1 ?_
  refine V_iload_n C 1 dX10_raceOf_4 rfl ?_
  obtain ⟨q1, hq1, hF⟩ := bnd hF
  refine cs_X10_165 C (ct_X3_hasRider hq1) rfl ⟨by decide, by decide⟩ (Nat.le_of_ble_eq_true rfl) dX10_raceOf_5 ⟨Nat.le_refl 0, Nat.le_refl 0⟩ ?_
  refine V_if_ne C 13 dX10_raceOf_8 (by decide) hF (fun hF => ?_) (fun hF => ?_)
  · refine V_aload_n C 0 dX10_raceOf_13 rfl ?_
    refine gf_X10_53 C dX10_raceOf_14 ?_
    refine V_aload_n C 0 dX10_raceOf_17 rfl ?_
    refine gf_X10_26 C dX10_raceOf_18 ?_
    obtain ⟨σ2, hs2, hF⟩ := bnd hF
    refine cs_X10_184 C (ct_X9_weigh (by decide) hs2) rfl ⟨by decide, by decide⟩ (Nat.le_of_ble_eq_true rfl) dX10_raceOf_21 ⟨Nat.le_refl 0, Nat.le_refl 0⟩ ?_
    refine V_aload_n C 0 dX10_raceOf_24 rfl ?_
    refine gf_X10_69 C dX10_raceOf_25 ?_
    obtain ⟨σ3, hs3, hF⟩ := bnd hF
    refine cs_X10_265 C (ct_X8_findRace hs3) rfl ⟨by decide, by decide⟩ (Nat.le_of_ble_eq_true rfl) dX10_raceOf_28 ⟨Nat.le_refl 0, Nat.le_refl 0⟩ ?_
    refine V_aload_n C 0 dX10_raceOf_31 rfl ?_
    refine gf_X10_69 C dX10_raceOf_32 ?_
    refine gf_X10_255 C dX10_raceOf_35 ?_
    refine V_iload_n C 1 dX10_raceOf_38 rfl ?_
    obtain ⟨q4, hq4, hF⟩ := bnd hF
    refine cs_X10_177 C (by decide) (ct_X7_horseOf (by decide) hq4) rfl ⟨by decide, by decide⟩ (Nat.le_of_ble_eq_true rfl) dX10_raceOf_39 ⟨Nat.le_refl 0, Nat.le_refl 0⟩ ?_
    refine V_istore_n C (lv' := [(2, .int q4), (0, .ref (ad 0)), (1, .int a1)]) dX10_raceOf_42 rfl (by decide) rfl ?_
    refine V_iload_n C 0 dX10_raceOf_43 rfl ?_
    refine V_bipush C dX10_raceOf_44 (v := (-9 : Int32)) (by decide) ?_
    refine V_icmp_ne C 54 dX10_raceOf_46 (by decide) hF (fun hF => ?_) (fun hF => ?_)
    · refine V_iload_n C 0 dX10_raceOf_54 rfl ?_
      cases hF
      exact V_iret C hr hlk rfl rfl dX10_raceOf_55
    · refine V_bipush C dX10_raceOf_49 (v := (9 : Int32)) (by decide) ?_
      refine V_goto C 55 dX10_raceOf_51 (by decide) ?_
      cases hF
      exact V_iret C hr hlk rfl rfl dX10_raceOf_55
  · refine V_iconst C dX10_raceOf_11 (v := (-1 : Int32)) (by decide) ?_
    cases hF
    exact V_iret C hr hlk rfl rfl dX10_raceOf_12

def F_X10_choose (a1 : Int32) (a2 : Int32) (σ : Mem) : Option (Int32 × Mem) :=
  Option.bind (F_X3_hasRider a1 σ) fun q1 =>
  if q1 = 0 then
    some ((-1 : Int32), σ)
  else
    Option.bind (F_X3_hasRider a2 σ) fun q2 =>
    if q2 = 0 then
      some ((-1 : Int32), σ)
    else
      if a1 = a2 then
        some ((-2 : Int32), σ)
      else
        Option.bind (F_X2_add a1 a2 σ) fun q3 =>
        if q3.1 = 0 then
          some ((-4 : Int32), q3.2)
        else
          some ((q3.2.1 5), q3.2)
set_option maxHeartbeats 4000000 in
set_option maxRecDepth 20000 in
theorem ct_X10_choose {a1 : Int32} {a2 : Int32} {σ : Mem} {r : (Int32 × Mem)} (hF : F_X10_choose a1 a2 σ = some r) : Ct yX10_choose cX10_choose 3 (some .int) 2 44 (fun ad zz => [.ref (ad 0), .int a1, .int a2]) σ (fun ad => (some (.int r.1))) r.2 := by
  refine Ct_of (by decide +kernel) (lv := fun ad zz => [(0, .ref (ad 0)), (1, .int a1), (2, .int a2)]) (fun _ _ => rfl) (fun _ _ => Nat.le_of_ble_eq_true rfl) (fun p l e s m args below meth c D T ad zz C hr hlk => ?_)
  rw [F_X10_choose] at hF
  refine V_aload_n C 0 dX10_choose_0 rfl ?_
  refine gf_X10_19 C dX10_choose_1 ?_
  refine V_iload_n C 1 dX10_choose_4 rfl ?_
  obtain ⟨q1, hq1, hF⟩ := bnd hF
  refine cs_X10_165 C (ct_X3_hasRider hq1) rfl ⟨by decide, by decide⟩ (Nat.le_of_ble_eq_true rfl) dX10_choose_5 ⟨Nat.le_refl 0, Nat.le_refl 0⟩ ?_
  refine V_if_eq C 22 dX10_choose_8 (by decide) hF (fun hF => ?_) (fun hF => ?_)
  · refine V_iconst C dX10_choose_22 (v := (-1 : Int32)) (by decide) ?_
    cases hF
    exact V_iret C hr hlk rfl rfl dX10_choose_23
  · refine V_aload_n C 0 dX10_choose_11 rfl ?_
    refine gf_X10_19 C dX10_choose_12 ?_
    refine V_iload_n C 2 dX10_choose_15 rfl ?_
    obtain ⟨q2, hq2, hF⟩ := bnd hF
    refine cs_X10_165 C (ct_X3_hasRider hq2) rfl ⟨by decide, by decide⟩ (Nat.le_of_ble_eq_true rfl) dX10_choose_16 ⟨Nat.le_refl 0, Nat.le_refl 0⟩ ?_
    refine V_if_ne C 24 dX10_choose_19 (by decide) hF (fun hF => ?_) (fun hF => ?_)
    · refine V_iload_n C 1 dX10_choose_24 rfl ?_
      refine V_iload_n C 2 dX10_choose_25 rfl ?_
      refine V_icmp_ne C 32 dX10_choose_26 (by decide) hF (fun hF => ?_) (fun hF => ?_)
      · refine V_aload_n C 0 dX10_choose_32 rfl ?_
        refine gf_X10_44 C dX10_choose_33 ?_
        refine V_iload_n C 1 dX10_choose_36 rfl ?_
        refine V_iload_n C 2 dX10_choose_37 rfl ?_
        obtain ⟨q3, hq3, hF⟩ := bnd hF
        refine cs_X10_271 C (ct_X2_add hq3) rfl ⟨by decide, by decide⟩ (Nat.le_of_ble_eq_true rfl) dX10_choose_38 ⟨Nat.le_refl 0, Nat.le_refl 0⟩ ?_
        refine V_if_eq C 54 dX10_choose_41 (by decide) hF (fun hF => ?_) (fun hF => ?_)
        · refine V_bipush C dX10_choose_54 (v := (-4 : Int32)) (by decide) ?_
          cases hF
          exact V_iret C hr hlk rfl rfl dX10_choose_56
        · refine V_aload_n C 0 dX10_choose_44 rfl ?_
          refine gf_X10_44 C dX10_choose_45 ?_
          refine gf_X10_131 C dX10_choose_48 ?_
          refine V_goto C 56 dX10_choose_51 (by decide) ?_
          cases hF
          exact V_iret C hr hlk rfl rfl dX10_choose_56
      · refine V_bipush C dX10_choose_29 (v := (-2 : Int32)) (by decide) ?_
        cases hF
        exact V_iret C hr hlk rfl rfl dX10_choose_31
    · refine V_iconst C dX10_choose_22 (v := (-1 : Int32)) (by decide) ?_
      cases hF
      exact V_iret C hr hlk rfl rfl dX10_choose_23

def F_X10_unchoose (σ : Mem) : Option (Int32 × Mem) :=
  Option.bind (stI σ 5 (0 : Int32)) fun σ1 =>
  some ((σ.1 5), σ1)
set_option maxHeartbeats 4000000 in
set_option maxRecDepth 20000 in
theorem ct_X10_unchoose {σ : Mem} {r : (Int32 × Mem)} (hF : F_X10_unchoose σ = some r) : Ct yX10_unchoose cX10_unchoose 2 (some .int) 0 0 (fun ad zz => [.ref (ad 0)]) σ (fun ad => (some (.int r.1))) r.2 := by
  refine Ct_of (by decide +kernel) (lv := fun ad zz => [(0, .ref (ad 0))]) (fun _ _ => rfl) (fun _ _ => Nat.le_of_ble_eq_true rfl) (fun p l e s m args below meth c D T ad zz C hr hlk => ?_)
  rw [F_X10_unchoose] at hF
  refine V_aload_n C 0 dX10_unchoose_0 rfl ?_
  refine gf_X10_44 C dX10_unchoose_1 ?_
  refine gf_X10_131 C dX10_unchoose_4 ?_
  refine V_istore_n C (lv' := [(1, .int (σ.1 5)), (0, .ref (ad 0))]) dX10_unchoose_7 rfl (by decide) rfl ?_
  refine V_aload_n C 1 dX10_unchoose_8 rfl ?_
  refine gf_X10_44 C dX10_unchoose_9 ?_
  refine V_iconst C dX10_unchoose_12 (v := (0 : Int32)) (by decide) ?_
  obtain ⟨σ1, hs1, hF⟩ := bnd hF
  refine pf_X10_131 C hs1 dX10_unchoose_13 ?_
  refine V_iload_n C 0 dX10_unchoose_16 rfl ?_
  cases hF
  exact V_iret C hr hlk rfl rfl dX10_unchoose_17

def F_J13_bitCount_95d88 (a1 : Int64) (σ : Mem) : Option Int32 :=
  some ((((((((((a1 - (((a1).toUInt64 >>> (((1 : Int32)).toInt64.toUInt64 &&& Int64.toUInt64 63)).toInt64 &&& (6148914691236517205 : Int64))) &&& (3689348814741910323 : Int64)) + ((((a1 - (((a1).toUInt64 >>> (((1 : Int32)).toInt64.toUInt64 &&& Int64.toUInt64 63)).toInt64 &&& (6148914691236517205 : Int64)))).toUInt64 >>> (((2 : Int32)).toInt64.toUInt64 &&& Int64.toUInt64 63)).toInt64 &&& (3689348814741910323 : Int64))) + (((((a1 - (((a1).toUInt64 >>> (((1 : Int32)).toInt64.toUInt64 &&& Int64.toUInt64 63)).toInt64 &&& (6148914691236517205 : Int64))) &&& (3689348814741910323 : Int64)) + ((((a1 - (((a1).toUInt64 >>> (((1 : Int32)).toInt64.toUInt64 &&& Int64.toUInt64 63)).toInt64 &&& (6148914691236517205 : Int64)))).toUInt64 >>> (((2 : Int32)).toInt64.toUInt64 &&& Int64.toUInt64 63)).toInt64 &&& (3689348814741910323 : Int64)))).toUInt64 >>> (((4 : Int32)).toInt64.toUInt64 &&& Int64.toUInt64 63)).toInt64) &&& (1085102592571150095 : Int64)) + (((((((a1 - (((a1).toUInt64 >>> (((1 : Int32)).toInt64.toUInt64 &&& Int64.toUInt64 63)).toInt64 &&& (6148914691236517205 : Int64))) &&& (3689348814741910323 : Int64)) + ((((a1 - (((a1).toUInt64 >>> (((1 : Int32)).toInt64.toUInt64 &&& Int64.toUInt64 63)).toInt64 &&& (6148914691236517205 : Int64)))).toUInt64 >>> (((2 : Int32)).toInt64.toUInt64 &&& Int64.toUInt64 63)).toInt64 &&& (3689348814741910323 : Int64))) + (((((a1 - (((a1).toUInt64 >>> (((1 : Int32)).toInt64.toUInt64 &&& Int64.toUInt64 63)).toInt64 &&& (6148914691236517205 : Int64))) &&& (3689348814741910323 : Int64)) + ((((a1 - (((a1).toUInt64 >>> (((1 : Int32)).toInt64.toUInt64 &&& Int64.toUInt64 63)).toInt64 &&& (6148914691236517205 : Int64)))).toUInt64 >>> (((2 : Int32)).toInt64.toUInt64 &&& Int64.toUInt64 63)).toInt64 &&& (3689348814741910323 : Int64)))).toUInt64 >>> (((4 : Int32)).toInt64.toUInt64 &&& Int64.toUInt64 63)).toInt64) &&& (1085102592571150095 : Int64))).toUInt64 >>> (((8 : Int32)).toInt64.toUInt64 &&& Int64.toUInt64 63)).toInt64) + ((((((((a1 - (((a1).toUInt64 >>> (((1 : Int32)).toInt64.toUInt64 &&& Int64.toUInt64 63)).toInt64 &&& (6148914691236517205 : Int64))) &&& (3689348814741910323 : Int64)) + ((((a1 - (((a1).toUInt64 >>> (((1 : Int32)).toInt64.toUInt64 &&& Int64.toUInt64 63)).toInt64 &&& (6148914691236517205 : Int64)))).toUInt64 >>> (((2 : Int32)).toInt64.toUInt64 &&& Int64.toUInt64 63)).toInt64 &&& (3689348814741910323 : Int64))) + (((((a1 - (((a1).toUInt64 >>> (((1 : Int32)).toInt64.toUInt64 &&& Int64.toUInt64 63)).toInt64 &&& (6148914691236517205 : Int64))) &&& (3689348814741910323 : Int64)) + ((((a1 - (((a1).toUInt64 >>> (((1 : Int32)).toInt64.toUInt64 &&& Int64.toUInt64 63)).toInt64 &&& (6148914691236517205 : Int64)))).toUInt64 >>> (((2 : Int32)).toInt64.toUInt64 &&& Int64.toUInt64 63)).toInt64 &&& (3689348814741910323 : Int64)))).toUInt64 >>> (((4 : Int32)).toInt64.toUInt64 &&& Int64.toUInt64 63)).toInt64) &&& (1085102592571150095 : Int64)) + (((((((a1 - (((a1).toUInt64 >>> (((1 : Int32)).toInt64.toUInt64 &&& Int64.toUInt64 63)).toInt64 &&& (6148914691236517205 : Int64))) &&& (3689348814741910323 : Int64)) + ((((a1 - (((a1).toUInt64 >>> (((1 : Int32)).toInt64.toUInt64 &&& Int64.toUInt64 63)).toInt64 &&& (6148914691236517205 : Int64)))).toUInt64 >>> (((2 : Int32)).toInt64.toUInt64 &&& Int64.toUInt64 63)).toInt64 &&& (3689348814741910323 : Int64))) + (((((a1 - (((a1).toUInt64 >>> (((1 : Int32)).toInt64.toUInt64 &&& Int64.toUInt64 63)).toInt64 &&& (6148914691236517205 : Int64))) &&& (3689348814741910323 : Int64)) + ((((a1 - (((a1).toUInt64 >>> (((1 : Int32)).toInt64.toUInt64 &&& Int64.toUInt64 63)).toInt64 &&& (6148914691236517205 : Int64)))).toUInt64 >>> (((2 : Int32)).toInt64.toUInt64 &&& Int64.toUInt64 63)).toInt64 &&& (3689348814741910323 : Int64)))).toUInt64 >>> (((4 : Int32)).toInt64.toUInt64 &&& Int64.toUInt64 63)).toInt64) &&& (1085102592571150095 : Int64))).toUInt64 >>> (((8 : Int32)).toInt64.toUInt64 &&& Int64.toUInt64 63)).toInt64)).toUInt64 >>> (((16 : Int32)).toInt64.toUInt64 &&& Int64.toUInt64 63)).toInt64) + (((((((((a1 - (((a1).toUInt64 >>> (((1 : Int32)).toInt64.toUInt64 &&& Int64.toUInt64 63)).toInt64 &&& (6148914691236517205 : Int64))) &&& (3689348814741910323 : Int64)) + ((((a1 - (((a1).toUInt64 >>> (((1 : Int32)).toInt64.toUInt64 &&& Int64.toUInt64 63)).toInt64 &&& (6148914691236517205 : Int64)))).toUInt64 >>> (((2 : Int32)).toInt64.toUInt64 &&& Int64.toUInt64 63)).toInt64 &&& (3689348814741910323 : Int64))) + (((((a1 - (((a1).toUInt64 >>> (((1 : Int32)).toInt64.toUInt64 &&& Int64.toUInt64 63)).toInt64 &&& (6148914691236517205 : Int64))) &&& (3689348814741910323 : Int64)) + ((((a1 - (((a1).toUInt64 >>> (((1 : Int32)).toInt64.toUInt64 &&& Int64.toUInt64 63)).toInt64 &&& (6148914691236517205 : Int64)))).toUInt64 >>> (((2 : Int32)).toInt64.toUInt64 &&& Int64.toUInt64 63)).toInt64 &&& (3689348814741910323 : Int64)))).toUInt64 >>> (((4 : Int32)).toInt64.toUInt64 &&& Int64.toUInt64 63)).toInt64) &&& (1085102592571150095 : Int64)) + (((((((a1 - (((a1).toUInt64 >>> (((1 : Int32)).toInt64.toUInt64 &&& Int64.toUInt64 63)).toInt64 &&& (6148914691236517205 : Int64))) &&& (3689348814741910323 : Int64)) + ((((a1 - (((a1).toUInt64 >>> (((1 : Int32)).toInt64.toUInt64 &&& Int64.toUInt64 63)).toInt64 &&& (6148914691236517205 : Int64)))).toUInt64 >>> (((2 : Int32)).toInt64.toUInt64 &&& Int64.toUInt64 63)).toInt64 &&& (3689348814741910323 : Int64))) + (((((a1 - (((a1).toUInt64 >>> (((1 : Int32)).toInt64.toUInt64 &&& Int64.toUInt64 63)).toInt64 &&& (6148914691236517205 : Int64))) &&& (3689348814741910323 : Int64)) + ((((a1 - (((a1).toUInt64 >>> (((1 : Int32)).toInt64.toUInt64 &&& Int64.toUInt64 63)).toInt64 &&& (6148914691236517205 : Int64)))).toUInt64 >>> (((2 : Int32)).toInt64.toUInt64 &&& Int64.toUInt64 63)).toInt64 &&& (3689348814741910323 : Int64)))).toUInt64 >>> (((4 : Int32)).toInt64.toUInt64 &&& Int64.toUInt64 63)).toInt64) &&& (1085102592571150095 : Int64))).toUInt64 >>> (((8 : Int32)).toInt64.toUInt64 &&& Int64.toUInt64 63)).toInt64) + ((((((((a1 - (((a1).toUInt64 >>> (((1 : Int32)).toInt64.toUInt64 &&& Int64.toUInt64 63)).toInt64 &&& (6148914691236517205 : Int64))) &&& (3689348814741910323 : Int64)) + ((((a1 - (((a1).toUInt64 >>> (((1 : Int32)).toInt64.toUInt64 &&& Int64.toUInt64 63)).toInt64 &&& (6148914691236517205 : Int64)))).toUInt64 >>> (((2 : Int32)).toInt64.toUInt64 &&& Int64.toUInt64 63)).toInt64 &&& (3689348814741910323 : Int64))) + (((((a1 - (((a1).toUInt64 >>> (((1 : Int32)).toInt64.toUInt64 &&& Int64.toUInt64 63)).toInt64 &&& (6148914691236517205 : Int64))) &&& (3689348814741910323 : Int64)) + ((((a1 - (((a1).toUInt64 >>> (((1 : Int32)).toInt64.toUInt64 &&& Int64.toUInt64 63)).toInt64 &&& (6148914691236517205 : Int64)))).toUInt64 >>> (((2 : Int32)).toInt64.toUInt64 &&& Int64.toUInt64 63)).toInt64 &&& (3689348814741910323 : Int64)))).toUInt64 >>> (((4 : Int32)).toInt64.toUInt64 &&& Int64.toUInt64 63)).toInt64) &&& (1085102592571150095 : Int64)) + (((((((a1 - (((a1).toUInt64 >>> (((1 : Int32)).toInt64.toUInt64 &&& Int64.toUInt64 63)).toInt64 &&& (6148914691236517205 : Int64))) &&& (3689348814741910323 : Int64)) + ((((a1 - (((a1).toUInt64 >>> (((1 : Int32)).toInt64.toUInt64 &&& Int64.toUInt64 63)).toInt64 &&& (6148914691236517205 : Int64)))).toUInt64 >>> (((2 : Int32)).toInt64.toUInt64 &&& Int64.toUInt64 63)).toInt64 &&& (3689348814741910323 : Int64))) + (((((a1 - (((a1).toUInt64 >>> (((1 : Int32)).toInt64.toUInt64 &&& Int64.toUInt64 63)).toInt64 &&& (6148914691236517205 : Int64))) &&& (3689348814741910323 : Int64)) + ((((a1 - (((a1).toUInt64 >>> (((1 : Int32)).toInt64.toUInt64 &&& Int64.toUInt64 63)).toInt64 &&& (6148914691236517205 : Int64)))).toUInt64 >>> (((2 : Int32)).toInt64.toUInt64 &&& Int64.toUInt64 63)).toInt64 &&& (3689348814741910323 : Int64)))).toUInt64 >>> (((4 : Int32)).toInt64.toUInt64 &&& Int64.toUInt64 63)).toInt64) &&& (1085102592571150095 : Int64))).toUInt64 >>> (((8 : Int32)).toInt64.toUInt64 &&& Int64.toUInt64 63)).toInt64)).toUInt64 >>> (((16 : Int32)).toInt64.toUInt64 &&& Int64.toUInt64 63)).toInt64)).toUInt64 >>> (((32 : Int32)).toInt64.toUInt64 &&& Int64.toUInt64 63)).toInt64)).toInt32 &&& (127 : Int32))
set_option maxHeartbeats 4000000 in
set_option maxRecDepth 20000 in
theorem ct_J13_bitCount_95d88 {a1 : Int64} {σ : Mem} {r : Int32} (hF : F_J13_bitCount_95d88 a1 σ = some r) : Ct yJ13_bitCount_95d88 cJ13_bitCount_95d88 2 (some .int) 0 0 (fun ad zz => [.long a1]) σ (fun ad => (some (.int r))) σ := by
  refine Ct_of (by decide +kernel) (lv := fun ad zz => [(0, .long a1)]) (fun _ _ => rfl) (fun _ _ => Nat.le_of_ble_eq_true rfl) (fun p l e s m args below meth c D T ad zz C hr hlk => ?_)
  rw [F_J13_bitCount_95d88] at hF
  refine V_lload_n C 0 dJ13_bitCount_95d88_0 rfl ?_
  refine V_lload_n C 0 dJ13_bitCount_95d88_1 rfl ?_
  refine V_iconst C dJ13_bitCount_95d88_2 (v := (1 : Int32)) (by decide) ?_
  refine V_lushr C dJ13_bitCount_95d88_3 ?_
  refine V_ldc2 C dJ13_bitCount_95d88_4 (v := (6148914691236517205 : Int64)) (TB_in 812 (by decide +kernel) (by decide +kernel)) ?_
  refine V_land C dJ13_bitCount_95d88_7 ?_
  refine V_lsub C dJ13_bitCount_95d88_8 ?_
  refine V_lstore_n C (lv' := [(0, .long (a1 - (((a1).toUInt64 >>> (((1 : Int32)).toInt64.toUInt64 &&& Int64.toUInt64 63)).toInt64 &&& (6148914691236517205 : Int64))))]) dJ13_bitCount_95d88_9 rfl (by decide) rfl ?_
  refine V_lload_n C 0 dJ13_bitCount_95d88_10 rfl ?_
  refine V_ldc2 C dJ13_bitCount_95d88_11 (v := (3689348814741910323 : Int64)) (TB_in 813 (by decide +kernel) (by decide +kernel)) ?_
  refine V_land C dJ13_bitCount_95d88_14 ?_
  refine V_lload_n C 0 dJ13_bitCount_95d88_15 rfl ?_
  refine V_iconst C dJ13_bitCount_95d88_16 (v := (2 : Int32)) (by decide) ?_
  refine V_lushr C dJ13_bitCount_95d88_17 ?_
  refine V_ldc2 C dJ13_bitCount_95d88_18 (v := (3689348814741910323 : Int64)) (TB_in 813 (by decide +kernel) (by decide +kernel)) ?_
  refine V_land C dJ13_bitCount_95d88_21 ?_
  refine V_ladd C dJ13_bitCount_95d88_22 ?_
  refine V_lstore_n C (lv' := [(0, .long (((a1 - (((a1).toUInt64 >>> (((1 : Int32)).toInt64.toUInt64 &&& Int64.toUInt64 63)).toInt64 &&& (6148914691236517205 : Int64))) &&& (3689348814741910323 : Int64)) + ((((a1 - (((a1).toUInt64 >>> (((1 : Int32)).toInt64.toUInt64 &&& Int64.toUInt64 63)).toInt64 &&& (6148914691236517205 : Int64)))).toUInt64 >>> (((2 : Int32)).toInt64.toUInt64 &&& Int64.toUInt64 63)).toInt64 &&& (3689348814741910323 : Int64))))]) dJ13_bitCount_95d88_23 rfl (by decide) rfl ?_
  refine V_lload_n C 0 dJ13_bitCount_95d88_24 rfl ?_
  refine V_lload_n C 0 dJ13_bitCount_95d88_25 rfl ?_
  refine V_iconst C dJ13_bitCount_95d88_26 (v := (4 : Int32)) (by decide) ?_
  refine V_lushr C dJ13_bitCount_95d88_27 ?_
  refine V_ladd C dJ13_bitCount_95d88_28 ?_
  refine V_ldc2 C dJ13_bitCount_95d88_29 (v := (1085102592571150095 : Int64)) (TB_in 814 (by decide +kernel) (by decide +kernel)) ?_
  refine V_land C dJ13_bitCount_95d88_32 ?_
  refine V_lstore_n C (lv' := [(0, .long (((((a1 - (((a1).toUInt64 >>> (((1 : Int32)).toInt64.toUInt64 &&& Int64.toUInt64 63)).toInt64 &&& (6148914691236517205 : Int64))) &&& (3689348814741910323 : Int64)) + ((((a1 - (((a1).toUInt64 >>> (((1 : Int32)).toInt64.toUInt64 &&& Int64.toUInt64 63)).toInt64 &&& (6148914691236517205 : Int64)))).toUInt64 >>> (((2 : Int32)).toInt64.toUInt64 &&& Int64.toUInt64 63)).toInt64 &&& (3689348814741910323 : Int64))) + (((((a1 - (((a1).toUInt64 >>> (((1 : Int32)).toInt64.toUInt64 &&& Int64.toUInt64 63)).toInt64 &&& (6148914691236517205 : Int64))) &&& (3689348814741910323 : Int64)) + ((((a1 - (((a1).toUInt64 >>> (((1 : Int32)).toInt64.toUInt64 &&& Int64.toUInt64 63)).toInt64 &&& (6148914691236517205 : Int64)))).toUInt64 >>> (((2 : Int32)).toInt64.toUInt64 &&& Int64.toUInt64 63)).toInt64 &&& (3689348814741910323 : Int64)))).toUInt64 >>> (((4 : Int32)).toInt64.toUInt64 &&& Int64.toUInt64 63)).toInt64) &&& (1085102592571150095 : Int64)))]) dJ13_bitCount_95d88_33 rfl (by decide) rfl ?_
  refine V_lload_n C 0 dJ13_bitCount_95d88_34 rfl ?_
  refine V_lload_n C 0 dJ13_bitCount_95d88_35 rfl ?_
  refine V_bipush C dJ13_bitCount_95d88_36 (v := (8 : Int32)) (by decide) ?_
  refine V_lushr C dJ13_bitCount_95d88_38 ?_
  refine V_ladd C dJ13_bitCount_95d88_39 ?_
  refine V_lstore_n C (lv' := [(0, .long ((((((a1 - (((a1).toUInt64 >>> (((1 : Int32)).toInt64.toUInt64 &&& Int64.toUInt64 63)).toInt64 &&& (6148914691236517205 : Int64))) &&& (3689348814741910323 : Int64)) + ((((a1 - (((a1).toUInt64 >>> (((1 : Int32)).toInt64.toUInt64 &&& Int64.toUInt64 63)).toInt64 &&& (6148914691236517205 : Int64)))).toUInt64 >>> (((2 : Int32)).toInt64.toUInt64 &&& Int64.toUInt64 63)).toInt64 &&& (3689348814741910323 : Int64))) + (((((a1 - (((a1).toUInt64 >>> (((1 : Int32)).toInt64.toUInt64 &&& Int64.toUInt64 63)).toInt64 &&& (6148914691236517205 : Int64))) &&& (3689348814741910323 : Int64)) + ((((a1 - (((a1).toUInt64 >>> (((1 : Int32)).toInt64.toUInt64 &&& Int64.toUInt64 63)).toInt64 &&& (6148914691236517205 : Int64)))).toUInt64 >>> (((2 : Int32)).toInt64.toUInt64 &&& Int64.toUInt64 63)).toInt64 &&& (3689348814741910323 : Int64)))).toUInt64 >>> (((4 : Int32)).toInt64.toUInt64 &&& Int64.toUInt64 63)).toInt64) &&& (1085102592571150095 : Int64)) + (((((((a1 - (((a1).toUInt64 >>> (((1 : Int32)).toInt64.toUInt64 &&& Int64.toUInt64 63)).toInt64 &&& (6148914691236517205 : Int64))) &&& (3689348814741910323 : Int64)) + ((((a1 - (((a1).toUInt64 >>> (((1 : Int32)).toInt64.toUInt64 &&& Int64.toUInt64 63)).toInt64 &&& (6148914691236517205 : Int64)))).toUInt64 >>> (((2 : Int32)).toInt64.toUInt64 &&& Int64.toUInt64 63)).toInt64 &&& (3689348814741910323 : Int64))) + (((((a1 - (((a1).toUInt64 >>> (((1 : Int32)).toInt64.toUInt64 &&& Int64.toUInt64 63)).toInt64 &&& (6148914691236517205 : Int64))) &&& (3689348814741910323 : Int64)) + ((((a1 - (((a1).toUInt64 >>> (((1 : Int32)).toInt64.toUInt64 &&& Int64.toUInt64 63)).toInt64 &&& (6148914691236517205 : Int64)))).toUInt64 >>> (((2 : Int32)).toInt64.toUInt64 &&& Int64.toUInt64 63)).toInt64 &&& (3689348814741910323 : Int64)))).toUInt64 >>> (((4 : Int32)).toInt64.toUInt64 &&& Int64.toUInt64 63)).toInt64) &&& (1085102592571150095 : Int64))).toUInt64 >>> (((8 : Int32)).toInt64.toUInt64 &&& Int64.toUInt64 63)).toInt64))]) dJ13_bitCount_95d88_40 rfl (by decide) rfl ?_
  refine V_lload_n C 0 dJ13_bitCount_95d88_41 rfl ?_
  refine V_lload_n C 0 dJ13_bitCount_95d88_42 rfl ?_
  refine V_bipush C dJ13_bitCount_95d88_43 (v := (16 : Int32)) (by decide) ?_
  refine V_lushr C dJ13_bitCount_95d88_45 ?_
  refine V_ladd C dJ13_bitCount_95d88_46 ?_
  refine V_lstore_n C (lv' := [(0, .long (((((((a1 - (((a1).toUInt64 >>> (((1 : Int32)).toInt64.toUInt64 &&& Int64.toUInt64 63)).toInt64 &&& (6148914691236517205 : Int64))) &&& (3689348814741910323 : Int64)) + ((((a1 - (((a1).toUInt64 >>> (((1 : Int32)).toInt64.toUInt64 &&& Int64.toUInt64 63)).toInt64 &&& (6148914691236517205 : Int64)))).toUInt64 >>> (((2 : Int32)).toInt64.toUInt64 &&& Int64.toUInt64 63)).toInt64 &&& (3689348814741910323 : Int64))) + (((((a1 - (((a1).toUInt64 >>> (((1 : Int32)).toInt64.toUInt64 &&& Int64.toUInt64 63)).toInt64 &&& (6148914691236517205 : Int64))) &&& (3689348814741910323 : Int64)) + ((((a1 - (((a1).toUInt64 >>> (((1 : Int32)).toInt64.toUInt64 &&& Int64.toUInt64 63)).toInt64 &&& (6148914691236517205 : Int64)))).toUInt64 >>> (((2 : Int32)).toInt64.toUInt64 &&& Int64.toUInt64 63)).toInt64 &&& (3689348814741910323 : Int64)))).toUInt64 >>> (((4 : Int32)).toInt64.toUInt64 &&& Int64.toUInt64 63)).toInt64) &&& (1085102592571150095 : Int64)) + (((((((a1 - (((a1).toUInt64 >>> (((1 : Int32)).toInt64.toUInt64 &&& Int64.toUInt64 63)).toInt64 &&& (6148914691236517205 : Int64))) &&& (3689348814741910323 : Int64)) + ((((a1 - (((a1).toUInt64 >>> (((1 : Int32)).toInt64.toUInt64 &&& Int64.toUInt64 63)).toInt64 &&& (6148914691236517205 : Int64)))).toUInt64 >>> (((2 : Int32)).toInt64.toUInt64 &&& Int64.toUInt64 63)).toInt64 &&& (3689348814741910323 : Int64))) + (((((a1 - (((a1).toUInt64 >>> (((1 : Int32)).toInt64.toUInt64 &&& Int64.toUInt64 63)).toInt64 &&& (6148914691236517205 : Int64))) &&& (3689348814741910323 : Int64)) + ((((a1 - (((a1).toUInt64 >>> (((1 : Int32)).toInt64.toUInt64 &&& Int64.toUInt64 63)).toInt64 &&& (6148914691236517205 : Int64)))).toUInt64 >>> (((2 : Int32)).toInt64.toUInt64 &&& Int64.toUInt64 63)).toInt64 &&& (3689348814741910323 : Int64)))).toUInt64 >>> (((4 : Int32)).toInt64.toUInt64 &&& Int64.toUInt64 63)).toInt64) &&& (1085102592571150095 : Int64))).toUInt64 >>> (((8 : Int32)).toInt64.toUInt64 &&& Int64.toUInt64 63)).toInt64) + ((((((((a1 - (((a1).toUInt64 >>> (((1 : Int32)).toInt64.toUInt64 &&& Int64.toUInt64 63)).toInt64 &&& (6148914691236517205 : Int64))) &&& (3689348814741910323 : Int64)) + ((((a1 - (((a1).toUInt64 >>> (((1 : Int32)).toInt64.toUInt64 &&& Int64.toUInt64 63)).toInt64 &&& (6148914691236517205 : Int64)))).toUInt64 >>> (((2 : Int32)).toInt64.toUInt64 &&& Int64.toUInt64 63)).toInt64 &&& (3689348814741910323 : Int64))) + (((((a1 - (((a1).toUInt64 >>> (((1 : Int32)).toInt64.toUInt64 &&& Int64.toUInt64 63)).toInt64 &&& (6148914691236517205 : Int64))) &&& (3689348814741910323 : Int64)) + ((((a1 - (((a1).toUInt64 >>> (((1 : Int32)).toInt64.toUInt64 &&& Int64.toUInt64 63)).toInt64 &&& (6148914691236517205 : Int64)))).toUInt64 >>> (((2 : Int32)).toInt64.toUInt64 &&& Int64.toUInt64 63)).toInt64 &&& (3689348814741910323 : Int64)))).toUInt64 >>> (((4 : Int32)).toInt64.toUInt64 &&& Int64.toUInt64 63)).toInt64) &&& (1085102592571150095 : Int64)) + (((((((a1 - (((a1).toUInt64 >>> (((1 : Int32)).toInt64.toUInt64 &&& Int64.toUInt64 63)).toInt64 &&& (6148914691236517205 : Int64))) &&& (3689348814741910323 : Int64)) + ((((a1 - (((a1).toUInt64 >>> (((1 : Int32)).toInt64.toUInt64 &&& Int64.toUInt64 63)).toInt64 &&& (6148914691236517205 : Int64)))).toUInt64 >>> (((2 : Int32)).toInt64.toUInt64 &&& Int64.toUInt64 63)).toInt64 &&& (3689348814741910323 : Int64))) + (((((a1 - (((a1).toUInt64 >>> (((1 : Int32)).toInt64.toUInt64 &&& Int64.toUInt64 63)).toInt64 &&& (6148914691236517205 : Int64))) &&& (3689348814741910323 : Int64)) + ((((a1 - (((a1).toUInt64 >>> (((1 : Int32)).toInt64.toUInt64 &&& Int64.toUInt64 63)).toInt64 &&& (6148914691236517205 : Int64)))).toUInt64 >>> (((2 : Int32)).toInt64.toUInt64 &&& Int64.toUInt64 63)).toInt64 &&& (3689348814741910323 : Int64)))).toUInt64 >>> (((4 : Int32)).toInt64.toUInt64 &&& Int64.toUInt64 63)).toInt64) &&& (1085102592571150095 : Int64))).toUInt64 >>> (((8 : Int32)).toInt64.toUInt64 &&& Int64.toUInt64 63)).toInt64)).toUInt64 >>> (((16 : Int32)).toInt64.toUInt64 &&& Int64.toUInt64 63)).toInt64))]) dJ13_bitCount_95d88_47 rfl (by decide) rfl ?_
  refine V_lload_n C 0 dJ13_bitCount_95d88_48 rfl ?_
  refine V_lload_n C 0 dJ13_bitCount_95d88_49 rfl ?_
  refine V_bipush C dJ13_bitCount_95d88_50 (v := (32 : Int32)) (by decide) ?_
  refine V_lushr C dJ13_bitCount_95d88_52 ?_
  refine V_ladd C dJ13_bitCount_95d88_53 ?_
  refine V_lstore_n C (lv' := [(0, .long ((((((((a1 - (((a1).toUInt64 >>> (((1 : Int32)).toInt64.toUInt64 &&& Int64.toUInt64 63)).toInt64 &&& (6148914691236517205 : Int64))) &&& (3689348814741910323 : Int64)) + ((((a1 - (((a1).toUInt64 >>> (((1 : Int32)).toInt64.toUInt64 &&& Int64.toUInt64 63)).toInt64 &&& (6148914691236517205 : Int64)))).toUInt64 >>> (((2 : Int32)).toInt64.toUInt64 &&& Int64.toUInt64 63)).toInt64 &&& (3689348814741910323 : Int64))) + (((((a1 - (((a1).toUInt64 >>> (((1 : Int32)).toInt64.toUInt64 &&& Int64.toUInt64 63)).toInt64 &&& (6148914691236517205 : Int64))) &&& (3689348814741910323 : Int64)) + ((((a1 - (((a1).toUInt64 >>> (((1 : Int32)).toInt64.toUInt64 &&& Int64.toUInt64 63)).toInt64 &&& (6148914691236517205 : Int64)))).toUInt64 >>> (((2 : Int32)).toInt64.toUInt64 &&& Int64.toUInt64 63)).toInt64 &&& (3689348814741910323 : Int64)))).toUInt64 >>> (((4 : Int32)).toInt64.toUInt64 &&& Int64.toUInt64 63)).toInt64) &&& (1085102592571150095 : Int64)) + (((((((a1 - (((a1).toUInt64 >>> (((1 : Int32)).toInt64.toUInt64 &&& Int64.toUInt64 63)).toInt64 &&& (6148914691236517205 : Int64))) &&& (3689348814741910323 : Int64)) + ((((a1 - (((a1).toUInt64 >>> (((1 : Int32)).toInt64.toUInt64 &&& Int64.toUInt64 63)).toInt64 &&& (6148914691236517205 : Int64)))).toUInt64 >>> (((2 : Int32)).toInt64.toUInt64 &&& Int64.toUInt64 63)).toInt64 &&& (3689348814741910323 : Int64))) + (((((a1 - (((a1).toUInt64 >>> (((1 : Int32)).toInt64.toUInt64 &&& Int64.toUInt64 63)).toInt64 &&& (6148914691236517205 : Int64))) &&& (3689348814741910323 : Int64)) + ((((a1 - (((a1).toUInt64 >>> (((1 : Int32)).toInt64.toUInt64 &&& Int64.toUInt64 63)).toInt64 &&& (6148914691236517205 : Int64)))).toUInt64 >>> (((2 : Int32)).toInt64.toUInt64 &&& Int64.toUInt64 63)).toInt64 &&& (3689348814741910323 : Int64)))).toUInt64 >>> (((4 : Int32)).toInt64.toUInt64 &&& Int64.toUInt64 63)).toInt64) &&& (1085102592571150095 : Int64))).toUInt64 >>> (((8 : Int32)).toInt64.toUInt64 &&& Int64.toUInt64 63)).toInt64) + ((((((((a1 - (((a1).toUInt64 >>> (((1 : Int32)).toInt64.toUInt64 &&& Int64.toUInt64 63)).toInt64 &&& (6148914691236517205 : Int64))) &&& (3689348814741910323 : Int64)) + ((((a1 - (((a1).toUInt64 >>> (((1 : Int32)).toInt64.toUInt64 &&& Int64.toUInt64 63)).toInt64 &&& (6148914691236517205 : Int64)))).toUInt64 >>> (((2 : Int32)).toInt64.toUInt64 &&& Int64.toUInt64 63)).toInt64 &&& (3689348814741910323 : Int64))) + (((((a1 - (((a1).toUInt64 >>> (((1 : Int32)).toInt64.toUInt64 &&& Int64.toUInt64 63)).toInt64 &&& (6148914691236517205 : Int64))) &&& (3689348814741910323 : Int64)) + ((((a1 - (((a1).toUInt64 >>> (((1 : Int32)).toInt64.toUInt64 &&& Int64.toUInt64 63)).toInt64 &&& (6148914691236517205 : Int64)))).toUInt64 >>> (((2 : Int32)).toInt64.toUInt64 &&& Int64.toUInt64 63)).toInt64 &&& (3689348814741910323 : Int64)))).toUInt64 >>> (((4 : Int32)).toInt64.toUInt64 &&& Int64.toUInt64 63)).toInt64) &&& (1085102592571150095 : Int64)) + (((((((a1 - (((a1).toUInt64 >>> (((1 : Int32)).toInt64.toUInt64 &&& Int64.toUInt64 63)).toInt64 &&& (6148914691236517205 : Int64))) &&& (3689348814741910323 : Int64)) + ((((a1 - (((a1).toUInt64 >>> (((1 : Int32)).toInt64.toUInt64 &&& Int64.toUInt64 63)).toInt64 &&& (6148914691236517205 : Int64)))).toUInt64 >>> (((2 : Int32)).toInt64.toUInt64 &&& Int64.toUInt64 63)).toInt64 &&& (3689348814741910323 : Int64))) + (((((a1 - (((a1).toUInt64 >>> (((1 : Int32)).toInt64.toUInt64 &&& Int64.toUInt64 63)).toInt64 &&& (6148914691236517205 : Int64))) &&& (3689348814741910323 : Int64)) + ((((a1 - (((a1).toUInt64 >>> (((1 : Int32)).toInt64.toUInt64 &&& Int64.toUInt64 63)).toInt64 &&& (6148914691236517205 : Int64)))).toUInt64 >>> (((2 : Int32)).toInt64.toUInt64 &&& Int64.toUInt64 63)).toInt64 &&& (3689348814741910323 : Int64)))).toUInt64 >>> (((4 : Int32)).toInt64.toUInt64 &&& Int64.toUInt64 63)).toInt64) &&& (1085102592571150095 : Int64))).toUInt64 >>> (((8 : Int32)).toInt64.toUInt64 &&& Int64.toUInt64 63)).toInt64)).toUInt64 >>> (((16 : Int32)).toInt64.toUInt64 &&& Int64.toUInt64 63)).toInt64) + (((((((((a1 - (((a1).toUInt64 >>> (((1 : Int32)).toInt64.toUInt64 &&& Int64.toUInt64 63)).toInt64 &&& (6148914691236517205 : Int64))) &&& (3689348814741910323 : Int64)) + ((((a1 - (((a1).toUInt64 >>> (((1 : Int32)).toInt64.toUInt64 &&& Int64.toUInt64 63)).toInt64 &&& (6148914691236517205 : Int64)))).toUInt64 >>> (((2 : Int32)).toInt64.toUInt64 &&& Int64.toUInt64 63)).toInt64 &&& (3689348814741910323 : Int64))) + (((((a1 - (((a1).toUInt64 >>> (((1 : Int32)).toInt64.toUInt64 &&& Int64.toUInt64 63)).toInt64 &&& (6148914691236517205 : Int64))) &&& (3689348814741910323 : Int64)) + ((((a1 - (((a1).toUInt64 >>> (((1 : Int32)).toInt64.toUInt64 &&& Int64.toUInt64 63)).toInt64 &&& (6148914691236517205 : Int64)))).toUInt64 >>> (((2 : Int32)).toInt64.toUInt64 &&& Int64.toUInt64 63)).toInt64 &&& (3689348814741910323 : Int64)))).toUInt64 >>> (((4 : Int32)).toInt64.toUInt64 &&& Int64.toUInt64 63)).toInt64) &&& (1085102592571150095 : Int64)) + (((((((a1 - (((a1).toUInt64 >>> (((1 : Int32)).toInt64.toUInt64 &&& Int64.toUInt64 63)).toInt64 &&& (6148914691236517205 : Int64))) &&& (3689348814741910323 : Int64)) + ((((a1 - (((a1).toUInt64 >>> (((1 : Int32)).toInt64.toUInt64 &&& Int64.toUInt64 63)).toInt64 &&& (6148914691236517205 : Int64)))).toUInt64 >>> (((2 : Int32)).toInt64.toUInt64 &&& Int64.toUInt64 63)).toInt64 &&& (3689348814741910323 : Int64))) + (((((a1 - (((a1).toUInt64 >>> (((1 : Int32)).toInt64.toUInt64 &&& Int64.toUInt64 63)).toInt64 &&& (6148914691236517205 : Int64))) &&& (3689348814741910323 : Int64)) + ((((a1 - (((a1).toUInt64 >>> (((1 : Int32)).toInt64.toUInt64 &&& Int64.toUInt64 63)).toInt64 &&& (6148914691236517205 : Int64)))).toUInt64 >>> (((2 : Int32)).toInt64.toUInt64 &&& Int64.toUInt64 63)).toInt64 &&& (3689348814741910323 : Int64)))).toUInt64 >>> (((4 : Int32)).toInt64.toUInt64 &&& Int64.toUInt64 63)).toInt64) &&& (1085102592571150095 : Int64))).toUInt64 >>> (((8 : Int32)).toInt64.toUInt64 &&& Int64.toUInt64 63)).toInt64) + ((((((((a1 - (((a1).toUInt64 >>> (((1 : Int32)).toInt64.toUInt64 &&& Int64.toUInt64 63)).toInt64 &&& (6148914691236517205 : Int64))) &&& (3689348814741910323 : Int64)) + ((((a1 - (((a1).toUInt64 >>> (((1 : Int32)).toInt64.toUInt64 &&& Int64.toUInt64 63)).toInt64 &&& (6148914691236517205 : Int64)))).toUInt64 >>> (((2 : Int32)).toInt64.toUInt64 &&& Int64.toUInt64 63)).toInt64 &&& (3689348814741910323 : Int64))) + (((((a1 - (((a1).toUInt64 >>> (((1 : Int32)).toInt64.toUInt64 &&& Int64.toUInt64 63)).toInt64 &&& (6148914691236517205 : Int64))) &&& (3689348814741910323 : Int64)) + ((((a1 - (((a1).toUInt64 >>> (((1 : Int32)).toInt64.toUInt64 &&& Int64.toUInt64 63)).toInt64 &&& (6148914691236517205 : Int64)))).toUInt64 >>> (((2 : Int32)).toInt64.toUInt64 &&& Int64.toUInt64 63)).toInt64 &&& (3689348814741910323 : Int64)))).toUInt64 >>> (((4 : Int32)).toInt64.toUInt64 &&& Int64.toUInt64 63)).toInt64) &&& (1085102592571150095 : Int64)) + (((((((a1 - (((a1).toUInt64 >>> (((1 : Int32)).toInt64.toUInt64 &&& Int64.toUInt64 63)).toInt64 &&& (6148914691236517205 : Int64))) &&& (3689348814741910323 : Int64)) + ((((a1 - (((a1).toUInt64 >>> (((1 : Int32)).toInt64.toUInt64 &&& Int64.toUInt64 63)).toInt64 &&& (6148914691236517205 : Int64)))).toUInt64 >>> (((2 : Int32)).toInt64.toUInt64 &&& Int64.toUInt64 63)).toInt64 &&& (3689348814741910323 : Int64))) + (((((a1 - (((a1).toUInt64 >>> (((1 : Int32)).toInt64.toUInt64 &&& Int64.toUInt64 63)).toInt64 &&& (6148914691236517205 : Int64))) &&& (3689348814741910323 : Int64)) + ((((a1 - (((a1).toUInt64 >>> (((1 : Int32)).toInt64.toUInt64 &&& Int64.toUInt64 63)).toInt64 &&& (6148914691236517205 : Int64)))).toUInt64 >>> (((2 : Int32)).toInt64.toUInt64 &&& Int64.toUInt64 63)).toInt64 &&& (3689348814741910323 : Int64)))).toUInt64 >>> (((4 : Int32)).toInt64.toUInt64 &&& Int64.toUInt64 63)).toInt64) &&& (1085102592571150095 : Int64))).toUInt64 >>> (((8 : Int32)).toInt64.toUInt64 &&& Int64.toUInt64 63)).toInt64)).toUInt64 >>> (((16 : Int32)).toInt64.toUInt64 &&& Int64.toUInt64 63)).toInt64)).toUInt64 >>> (((32 : Int32)).toInt64.toUInt64 &&& Int64.toUInt64 63)).toInt64))]) dJ13_bitCount_95d88_54 rfl (by decide) rfl ?_
  refine V_lload_n C 0 dJ13_bitCount_95d88_55 rfl ?_
  refine V_l2i C dJ13_bitCount_95d88_56 ?_
  refine V_bipush C dJ13_bitCount_95d88_57 (v := (127 : Int32)) (by decide) ?_
  refine V_iand C dJ13_bitCount_95d88_59 ?_
  cases hF
  exact V_iret C hr hlk rfl rfl dJ13_bitCount_95d88_60

def F_X10_learnt (a1 : Int32) (σ : Mem) : Option Int32 :=
  if a1 = 0 then
    Option.bind (F_X2_learntBits σ) fun q1 =>
    if a1 = 0 then
      Option.bind (F_J13_bitCount_95d88 q1 σ) fun q3 =>
      some q3
    else
      Option.bind (F_X2_leastFigures q1 σ) fun q2 =>
      some q2
  else
    if a1 = (1 : Int32) then
      Option.bind (F_X2_learntBits σ) fun q4 =>
      if a1 = 0 then
        Option.bind (F_J13_bitCount_95d88 q4 σ) fun q6 =>
        some q6
      else
        Option.bind (F_X2_leastFigures q4 σ) fun q5 =>
        some q5
    else
      some (-2 : Int32)
set_option maxHeartbeats 4000000 in
set_option maxRecDepth 20000 in
theorem ct_X10_learnt {a1 : Int32} {σ : Mem} {r : Int32} (hF : F_X10_learnt a1 σ = some r) : Ct yX10_learnt cX10_learnt 4 (some .int) 4 99 (fun ad zz => [.ref (ad 0), .int a1]) σ (fun ad => (some (.int r))) σ := by
  refine Ct_of (by decide +kernel) (lv := fun ad zz => [(0, .ref (ad 0)), (1, .int a1)]) (fun _ _ => rfl) (fun _ _ => Nat.le_of_ble_eq_true rfl) (fun p l e s m args below meth c D T ad zz C hr hlk => ?_)
  rw [F_X10_learnt] at hF
  refine V_iload_n C 1 dX10_learnt_0 rfl ?_
  refine V_if_eq C 12 dX10_learnt_1 (by decide) hF (fun hF => ?_) (fun hF => ?_)
  · refine V_aload_n C 0 dX10_learnt_12 rfl ?_
    refine gf_X10_44 C dX10_learnt_13 ?_
    refine V_aload_n C 0 dX10_learnt_16 rfl ?_
    refine gf_X10_19 C dX10_learnt_17 ?_
    obtain ⟨q1, hq1, hF⟩ := bnd hF
    refine cs_X10_273 C (ct_X2_learntBits hq1) rfl ⟨by decide, by decide⟩ (Nat.le_of_ble_eq_true rfl) dX10_learnt_20 ⟨Nat.le_refl 0, Nat.le_refl 0⟩ ?_
    refine V_lstore_n C (lv' := [(2, .long q1), (0, .ref (ad 0)), (1, .int a1)]) dX10_learnt_23 rfl (by decide) rfl ?_
    refine V_iload_n C 2 dX10_learnt_24 rfl ?_
    refine V_if_ne C 35 dX10_learnt_25 (by decide) hF (fun hF => ?_) (fun hF => ?_)
    · refine V_lload_n C 0 dX10_learnt_35 rfl ?_
      obtain ⟨q2, hq2, hF⟩ := bnd hF
      refine cs_X10_283 C (ct_X2_leastFigures hq2) rfl ⟨by decide, by decide⟩ (Nat.le_of_ble_eq_true rfl) dX10_learnt_36 ⟨Nat.le_refl 0, Nat.le_refl 0⟩ ?_
      cases hF
      exact V_iret C hr hlk rfl rfl dX10_learnt_39
    · refine V_lload_n C 0 dX10_learnt_28 rfl ?_
      obtain ⟨q3, hq3, hF⟩ := bnd hF
      refine cs_X10_277 C (ct_J13_bitCount_95d88 hq3) rfl ⟨by decide, by decide⟩ (Nat.le_of_ble_eq_true rfl) dX10_learnt_29 ⟨Nat.le_refl 0, Nat.le_refl 0⟩ ?_
      refine V_goto C 39 dX10_learnt_32 (by decide) ?_
      cases hF
      exact V_iret C hr hlk rfl rfl dX10_learnt_39
  · refine V_iload_n C 1 dX10_learnt_4 rfl ?_
    refine V_iconst C dX10_learnt_5 (v := (1 : Int32)) (by decide) ?_
    refine V_icmp_eq C 12 dX10_learnt_6 (by decide) hF (fun hF => ?_) (fun hF => ?_)
    · refine V_aload_n C 0 dX10_learnt_12 rfl ?_
      refine gf_X10_44 C dX10_learnt_13 ?_
      refine V_aload_n C 0 dX10_learnt_16 rfl ?_
      refine gf_X10_19 C dX10_learnt_17 ?_
      obtain ⟨q4, hq4, hF⟩ := bnd hF
      refine cs_X10_273 C (ct_X2_learntBits hq4) rfl ⟨by decide, by decide⟩ (Nat.le_of_ble_eq_true rfl) dX10_learnt_20 ⟨Nat.le_refl 0, Nat.le_refl 0⟩ ?_
      refine V_lstore_n C (lv' := [(2, .long q4), (0, .ref (ad 0)), (1, .int a1)]) dX10_learnt_23 rfl (by decide) rfl ?_
      refine V_iload_n C 2 dX10_learnt_24 rfl ?_
      refine V_if_ne C 35 dX10_learnt_25 (by decide) hF (fun hF => ?_) (fun hF => ?_)
      · refine V_lload_n C 0 dX10_learnt_35 rfl ?_
        obtain ⟨q5, hq5, hF⟩ := bnd hF
        refine cs_X10_283 C (ct_X2_leastFigures hq5) rfl ⟨by decide, by decide⟩ (Nat.le_of_ble_eq_true rfl) dX10_learnt_36 ⟨Nat.le_refl 0, Nat.le_refl 0⟩ ?_
        cases hF
        exact V_iret C hr hlk rfl rfl dX10_learnt_39
      · refine V_lload_n C 0 dX10_learnt_28 rfl ?_
        obtain ⟨q6, hq6, hF⟩ := bnd hF
        refine cs_X10_277 C (ct_J13_bitCount_95d88 hq6) rfl ⟨by decide, by decide⟩ (Nat.le_of_ble_eq_true rfl) dX10_learnt_29 ⟨Nat.le_refl 0, Nat.le_refl 0⟩ ?_
        refine V_goto C 39 dX10_learnt_32 (by decide) ?_
        cases hF
        exact V_iret C hr hlk rfl rfl dX10_learnt_39
    · refine V_bipush C dX10_learnt_9 (v := (-2 : Int32)) (by decide) ?_
      cases hF
      exact V_iret C hr hlk rfl rfl dX10_learnt_11
