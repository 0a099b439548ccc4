-- walks: X3_appeal X3_rankHorses X6_byteAt X6_isHorse X6_figureAt X3_readRider X6_partSize X3_readHorse X3_readFrom X3_likedAs X3_riderLikes J7_fill_53178 X7_clear X10_contains X7_horseOf X4_leastToLead X9_of X9_enough X7_keptBits
def F_X3_appeal (a1 : Int32) (a2 : Int32) (σ : Mem) : Option Int32 :=
  Option.bind (F_X10_at 7 a1 σ) fun q1 =>
  if q1 = 0 then
    Option.bind (F_X10_at 3 a2 σ) fun q2 =>
    some q2
  else if q1 = 1 then
    Option.bind (F_X10_at 4 a2 σ) fun q3 =>
    some (-q3)
  else if q1 = 2 then
    Option.bind (F_X10_at 4 a2 σ) fun q4 =>
    some q4
  else Option.bind (F_X10_at 3 a2 σ) fun q5 =>
  some (-q5)
set_option maxHeartbeats 4000000 in
set_option maxRecDepth 20000 in
theorem ct_X3_appeal {a1 : Int32} {a2 : Int32} {σ : Mem} {r : Int32} (hF : F_X3_appeal a1 a2 σ = some r) : Ct yX3_appeal cX3_appeal 3 (some .int) 1 21 (fun ad zz => [.ref (ad 2), .int a1, .int a2]) σ (fun ad => (some (.int r))) σ := by
  refine Ct_of (by decide +kernel) (lv := fun ad zz => [(0, .ref (ad 2)), (1, .int a1), (2, .int a2)]) (fun _ _ => rfl) (fun _ _ => Nat.le_of_ble_eq_true rfl) (fun p l e s m args below meth c D T ad zz C hr hlk => ?_)
  rw [F_X3_appeal] at hF
  refine V_aload_n C 0 dX3_appeal_0 rfl ?_
  refine gf_X3_30 C dX3_appeal_1 ?_
  refine V_iload_n C 1 dX3_appeal_4 rfl ?_
  obtain ⟨q1, hq1, hF⟩ := bnd hF
  refine cs_X3_81 C (ct_X10_at (by decide) hq1) rfl ⟨by decide, by decide⟩ (Nat.le_of_ble_eq_true rfl) dX3_appeal_5 ⟨Nat.le_refl 0, Nat.le_refl 0⟩ ?_
  by_cases hw0 : q1 = 0
  · rw [if_pos hw0] at hF
    refine V_tsIn C (v := 0) (off := 28) 36 hw0 dX3_appeal_8 (by decide) (by decide) (by decide) (by decide) ?_
    refine V_aload_n C 0 dX3_appeal_36 rfl ?_
    refine gf_X3_18 C dX3_appeal_37 ?_
    refine V_iload_n C 2 dX3_appeal_40 rfl ?_
    obtain ⟨q2, hq2, hF⟩ := bnd hF
    refine cs_X3_81 C (ct_X10_at (by decide) hq2) rfl ⟨by decide, by decide⟩ (Nat.le_of_ble_eq_true rfl) dX3_appeal_41 ⟨Nat.le_refl 0, Nat.le_refl 0⟩ ?_
    cases hF
    exact V_iret C hr hlk rfl rfl dX3_appeal_44
  rw [if_neg hw0] at hF
  by_cases hw1 : q1 = 1
  · rw [if_pos hw1] at hF
    refine V_tsIn C (v := 1) (off := 37) 45 hw1 dX3_appeal_8 (by decide) (by decide) (by decide) (by decide) ?_
    refine V_aload_n C 0 dX3_appeal_45 rfl ?_
    refine gf_X3_21 C dX3_appeal_46 ?_
    refine V_iload_n C 2 dX3_appeal_49 rfl ?_
    obtain ⟨q3, hq3, hF⟩ := bnd hF
    refine cs_X3_81 C (ct_X10_at (by decide) hq3) rfl ⟨by decide, by decide⟩ (Nat.le_of_ble_eq_true rfl) dX3_appeal_50 ⟨Nat.le_refl 0, Nat.le_refl 0⟩ ?_
    refine V_ineg C dX3_appeal_53 ?_
    cases hF
    exact V_iret C hr hlk rfl rfl dX3_appeal_54
  rw [if_neg hw1] at hF
  by_cases hw2 : q1 = 2
  · rw [if_pos hw2] at hF
    refine V_tsIn C (v := 2) (off := 47) 55 hw2 dX3_appeal_8 (by decide) (by decide) (by decide) (by decide) ?_
    refine V_aload_n C 0 dX3_appeal_55 rfl ?_
    refine gf_X3_21 C dX3_appeal_56 ?_
    refine V_iload_n C 2 dX3_appeal_59 rfl ?_
    obtain ⟨q4, hq4, hF⟩ := bnd hF
    refine cs_X3_81 C (ct_X10_at (by decide) hq4) rfl ⟨by decide, by decide⟩ (Nat.le_of_ble_eq_true rfl) dX3_appeal_60 ⟨Nat.le_refl 0, Nat.le_refl 0⟩ ?_
    cases hF
    exact V_iret C hr hlk rfl rfl dX3_appeal_63
  rw [if_neg hw2] at hF
  refine V_tsOut C 64 (by have q0 := lv_neT hw0 (show (0 : Int32).toInt = 0 by decide); have q1 := lv_neT hw1 (show (1 : Int32).toInt = 1 by decide); have q2 := lv_neT hw2 (show (2 : Int32).toInt = 2 by decide); omega) dX3_appeal_8 (by decide) ?_
  refine V_aload_n C 0 dX3_appeal_64 rfl ?_
  refine gf_X3_18 C dX3_appeal_65 ?_
  refine V_iload_n C 2 dX3_appeal_68 rfl ?_
  obtain ⟨q5, hq5, hF⟩ := bnd hF
  refine cs_X3_81 C (ct_X10_at (by decide) hq5) rfl ⟨by decide, by decide⟩ (Nat.le_of_ble_eq_true rfl) dX3_appeal_69 ⟨Nat.le_refl 0, Nat.le_refl 0⟩ ?_
  refine V_ineg C dX3_appeal_72 ?_
  cases hF
  exact V_iret C hr hlk rfl rfl dX3_appeal_73

def F_X3_rankHorses_b15 (kL2 : Int32 → Int32 → Mem → Option Mem) : Nat → Int32 → Int32 → Int32 → Int32 → Mem → Option Mem
  | 0, _, _, _, _, _ => none
  | n + 1, x1, x2, x3, x4, σ =>
    if (σ.1 1) ≤ x4 then
      Option.bind (F_X10_put 8 (((4 : Int32) * x1) + x2) x3 σ) fun σ1 =>
      Option.bind (F_X10_put 9 (((4 : Int32) * x1) + x3) x2 σ1) fun σ2 =>
      kL2 x1 (x2 + 1) σ2
    else
      Option.bind (F_X3_appeal x1 x4 σ) fun q3 =>
      Option.bind (F_X3_appeal x1 x2 σ) fun q4 =>
      if 0 < (q3 - q4) then
        (F_X3_rankHorses_b15 kL2 n) x1 x2 (x3 + 1) (x4 + 1) σ
      else
        if (q3 - q4) = 0 then
          if x2 ≤ x4 then
            (F_X3_rankHorses_b15 kL2 n) x1 x2 x3 (x4 + 1) σ
          else
            (F_X3_rankHorses_b15 kL2 n) x1 x2 (x3 + 1) (x4 + 1) σ
        else
          (F_X3_rankHorses_b15 kL2 n) x1 x2 x3 (x4 + 1) σ
def F_X3_rankHorses_b2  : Nat → Int32 → Int32 → Mem → Option Mem
  | 0, _, _, _ => none
  | n + 1, x1, x2, σ =>
    if (σ.1 1) ≤ x2 then
      some σ
    else
      F_X3_rankHorses_b15 (F_X3_rankHorses_b2 n) 4000 x1 x2 (0 : Int32) (0 : Int32) σ
def F_X3_rankHorses (a1 : Int32) (σ : Mem) : Option Mem :=
  F_X3_rankHorses_b2 4000 a1 (0 : Int32) σ
set_option maxHeartbeats 4000000 in
set_option maxRecDepth 20000 in
theorem w_X3_rankHorses_b15 {p : Program} {l : Launch} {e : Env} {s : State} {m : MethodId} {args : Array Value} {below : List Frame} {meth : Method} {c : Code} {D : va_G} {T : Nat → ClassId} {ad zz : Nat → Nat} (C : Cx p s m c cX3_rankHorses 6 RX3 (fA ad) D T ad zz) (hr : meth.sig.returnType = none) (hlk : meth.locks = false) {r : Mem} (kL2 : Int32 → Int32 → Mem → Option Mem) (hL2 : ∀ (x1 : Int32) (x2 : Int32) (σ : Mem), kL2 x1 x2 σ = some r → V p l e { frames := 2, cells := 0, slots := 0, locals := 43 } s m args below meth c 0 0 (MQ below (qC none r D T ad) args s 0 0 (fA ad)) 6 (fA ad) D T ad σ 2 [(0, .ref (ad 2)), (1, .int x1), (2, .int x2)] []) : ∀ (n : Nat), ∀ (x1 : Int32) (x2 : Int32) (x3 : Int32) (x4 : Int32) (σ : Mem), F_X3_rankHorses_b15 kL2 n x1 x2 x3 x4 σ = some r → V p l e { frames := 2, cells := 0, slots := 0, locals := 43 } s m args below meth c 0 0 (MQ below (qC none r D T ad) args s 0 0 (fA ad)) 6 (fA ad) D T ad σ 15 [(0, .ref (ad 2)), (1, .int x1), (2, .int x2), (3, .int x3), (4, .int x4)] [] := by
  intro n
  induction n with
  | zero =>
    intro x1 x2 x3 x4 σ hF
    cases (show (none : Option Mem) = some r from hF)
  | succ n ih =>
    intro x1 x2 x3 x4 σ hF
    rw [F_X3_rankHorses_b15] at hF
    refine V_iload C 4 dX3_rankHorses_15 rfl ?_
    refine V_aload_n C 0 dX3_rankHorses_17 rfl ?_
    refine gf_X3_39 C dX3_rankHorses_18 ?_
    refine V_icmp_ge C 65 dX3_rankHorses_21 (by decide) hF (fun hF => ?_) (fun hF => ?_)
    · refine V_aload_n C 0 dX3_rankHorses_65 rfl ?_
      refine gf_X3_33 C dX3_rankHorses_66 ?_
      refine V_iconst C dX3_rankHorses_69 (v := (4 : Int32)) (by decide) ?_
      refine V_iload_n C 1 dX3_rankHorses_70 rfl ?_
      refine V_imul C dX3_rankHorses_71 ?_
      refine V_iload_n C 2 dX3_rankHorses_72 rfl ?_
      refine V_iadd C dX3_rankHorses_73 ?_
      refine V_iload_n C 3 dX3_rankHorses_74 rfl ?_
      obtain ⟨σ1, hs1, hF⟩ := bnd hF
      refine cs_X3_73 C (ct_X10_put (by decide) hs1) rfl ⟨by decide, by decide⟩ (Nat.le_of_ble_eq_true rfl) dX3_rankHorses_75 ⟨Nat.le_refl 0, Nat.le_refl 0⟩ ?_
      refine V_aload_n C 0 dX3_rankHorses_78 rfl ?_
      refine gf_X3_36 C dX3_rankHorses_79 ?_
      refine V_iconst C dX3_rankHorses_82 (v := (4 : Int32)) (by decide) ?_
      refine V_iload_n C 1 dX3_rankHorses_83 rfl ?_
      refine V_imul C dX3_rankHorses_84 ?_
      refine V_iload_n C 3 dX3_rankHorses_85 rfl ?_
      refine V_iadd C dX3_rankHorses_86 ?_
      refine V_iload_n C 2 dX3_rankHorses_87 rfl ?_
      obtain ⟨σ2, hs2, hF⟩ := bnd hF
      refine cs_X3_73 C (ct_X10_put (by decide) hs2) rfl ⟨by decide, by decide⟩ (Nat.le_of_ble_eq_true rfl) dX3_rankHorses_88 ⟨Nat.le_refl 0, Nat.le_refl 0⟩ ?_
      refine V_iinc C (v := (x2 + 1)) (lv' := [(2, .int (x2 + 1)), (0, .ref (ad 2)), (1, .int x1), (3, .int x3), (4, .int x4)]) 2 dX3_rankHorses_91 rfl rfl (by decide) rfl ?_
      refine V_goto C 2 dX3_rankHorses_94 (by decide) ?_
      refine V_lv (ks := [1, 2, 0]) rfl ?_
      exact hL2 x1 (x2 + 1) σ2 hF
    · refine V_aload_n C 0 dX3_rankHorses_24 rfl ?_
      refine V_iload_n C 1 dX3_rankHorses_25 rfl ?_
      refine V_iload C 4 dX3_rankHorses_26 rfl ?_
      obtain ⟨q3, hq3, hF⟩ := bnd hF
      refine cs_X3_77 C (ct_X3_appeal hq3) rfl ⟨by decide, by decide⟩ (Nat.le_of_ble_eq_true rfl) dX3_rankHorses_28 ⟨Nat.le_refl 0, Nat.le_refl 0⟩ ?_
      refine V_aload_n C 0 dX3_rankHorses_31 rfl ?_
      refine V_iload_n C 1 dX3_rankHorses_32 rfl ?_
      refine V_iload_n C 2 dX3_rankHorses_33 rfl ?_
      obtain ⟨q4, hq4, hF⟩ := bnd hF
      refine cs_X3_77 C (ct_X3_appeal hq4) rfl ⟨by decide, by decide⟩ (Nat.le_of_ble_eq_true rfl) dX3_rankHorses_34 ⟨Nat.le_refl 0, Nat.le_refl 0⟩ ?_
      refine V_isub C dX3_rankHorses_37 ?_
      refine V_istore C (lv' := [(5, .int (q3 - q4)), (0, .ref (ad 2)), (1, .int x1), (2, .int x2), (3, .int x3), (4, .int x4)]) dX3_rankHorses_38 (by decide) rfl ?_
      refine V_iload C 0 dX3_rankHorses_40 rfl ?_
      refine V_if_gt C 56 dX3_rankHorses_42 (by decide) hF (fun hF => ?_) (fun hF => ?_)
      · refine V_iinc C (v := (x3 + 1)) (lv' := [(3, .int (x3 + 1)), (5, .int (q3 - q4)), (0, .ref (ad 2)), (1, .int x1), (2, .int x2), (4, .int x4)]) 4 dX3_rankHorses_56 rfl rfl (by decide) rfl ?_
        refine V_iinc C (v := (x4 + 1)) (lv' := [(4, .int (x4 + 1)), (3, .int (x3 + 1)), (5, .int (q3 - q4)), (0, .ref (ad 2)), (1, .int x1), (2, .int x2)]) 5 dX3_rankHorses_59 rfl rfl (by decide) rfl ?_
        refine V_goto C 15 dX3_rankHorses_62 (by decide) ?_
        refine V_lv (ks := [3, 4, 5, 1, 0]) rfl ?_
        exact ih x1 x2 (x3 + 1) (x4 + 1) σ hF
      · refine V_iload C 0 dX3_rankHorses_45 rfl ?_
        refine V_if_ne C 59 dX3_rankHorses_47 (by decide) hF (fun hF => ?_) (fun hF => ?_)
        · refine V_iinc C (v := (x4 + 1)) (lv' := [(4, .int (x4 + 1)), (5, .int (q3 - q4)), (0, .ref (ad 2)), (1, .int x1), (2, .int x2), (3, .int x3)]) 5 dX3_rankHorses_59 rfl rfl (by decide) rfl ?_
          refine V_goto C 15 dX3_rankHorses_62 (by decide) ?_
          refine V_lv (ks := [2, 3, 4, 5, 0]) rfl ?_
          exact ih x1 x2 x3 (x4 + 1) σ hF
        · refine V_iload C 5 dX3_rankHorses_50 rfl ?_
          refine V_iload_n C 3 dX3_rankHorses_52 rfl ?_
          refine V_icmp_ge C 59 dX3_rankHorses_53 (by decide) hF (fun hF => ?_) (fun hF => ?_)
          · refine V_iinc C (v := (x4 + 1)) (lv' := [(4, .int (x4 + 1)), (5, .int (q3 - q4)), (0, .ref (ad 2)), (1, .int x1), (2, .int x2), (3, .int x3)]) 5 dX3_rankHorses_59 rfl rfl (by decide) rfl ?_
            refine V_goto C 15 dX3_rankHorses_62 (by decide) ?_
            refine V_lv (ks := [2, 3, 4, 5, 0]) rfl ?_
            exact ih x1 x2 x3 (x4 + 1) σ hF
          · refine V_iinc C (v := (x3 + 1)) (lv' := [(3, .int (x3 + 1)), (5, .int (q3 - q4)), (0, .ref (ad 2)), (1, .int x1), (2, .int x2), (4, .int x4)]) 4 dX3_rankHorses_56 rfl rfl (by decide) rfl ?_
            refine V_iinc C (v := (x4 + 1)) (lv' := [(4, .int (x4 + 1)), (3, .int (x3 + 1)), (5, .int (q3 - q4)), (0, .ref (ad 2)), (1, .int x1), (2, .int x2)]) 5 dX3_rankHorses_59 rfl rfl (by decide) rfl ?_
            refine V_goto C 15 dX3_rankHorses_62 (by decide) ?_
            refine V_lv (ks := [3, 4, 5, 1, 0]) rfl ?_
            exact ih x1 x2 (x3 + 1) (x4 + 1) σ hF
set_option maxHeartbeats 4000000 in
set_option maxRecDepth 20000 in
theorem w_X3_rankHorses_b2 {p : Program} {l : Launch} {e : Env} {s : State} {m : MethodId} {args : Array Value} {below : List Frame} {meth : Method} {c : Code} {D : va_G} {T : Nat → ClassId} {ad zz : Nat → Nat} (C : Cx p s m c cX3_rankHorses 6 RX3 (fA ad) D T ad zz) (hr : meth.sig.returnType = none) (hlk : meth.locks = false) {r : Mem}  : ∀ (n : Nat), ∀ (x1 : Int32) (x2 : Int32) (σ : Mem), F_X3_rankHorses_b2  n x1 x2 σ = some r → V p l e { frames := 2, cells := 0, slots := 0, locals := 43 } s m args below meth c 0 0 (MQ below (qC none r D T ad) args s 0 0 (fA ad)) 6 (fA ad) D T ad σ 2 [(0, .ref (ad 2)), (1, .int x1), (2, .int x2)] [] := by
  intro n
  induction n with
  | zero =>
    intro x1 x2 σ hF
    cases (show (none : Option Mem) = some r from hF)
  | succ n ih =>
    intro x1 x2 σ hF
    rw [F_X3_rankHorses_b2] at hF
    refine V_iload_n C 2 dX3_rankHorses_2 rfl ?_
    refine V_aload_n C 0 dX3_rankHorses_3 rfl ?_
    refine gf_X3_39 C dX3_rankHorses_4 ?_
    refine V_icmp_ge C 97 dX3_rankHorses_7 (by decide) hF (fun hF => ?_) (fun hF => ?_)
    · cases hF
      exact V_vret C hr hlk rfl rfl dX3_rankHorses_97
    · refine V_iconst C dX3_rankHorses_10 (v := (0 : Int32)) (by decide) ?_
      refine V_istore_n C (lv' := [(3, .int (0 : Int32)), (0, .ref (ad 2)), (1, .int x1), (2, .int x2)]) dX3_rankHorses_11 rfl (by decide) rfl ?_
      refine V_iconst C dX3_rankHorses_12 (v := (0 : Int32)) (by decide) ?_
      refine V_istore C (lv' := [(4, .int (0 : Int32)), (3, .int (0 : Int32)), (0, .ref (ad 2)), (1, .int x1), (2, .int x2)]) dX3_rankHorses_13 (by decide) rfl ?_
      refine V_lv (ks := [2, 3, 4, 1, 0]) rfl ?_
      exact w_X3_rankHorses_b15 C hr hlk (F_X3_rankHorses_b2 n) ih 4000 x1 x2 (0 : Int32) (0 : Int32) σ hF
set_option maxHeartbeats 4000000 in
set_option maxRecDepth 20000 in
theorem ct_X3_rankHorses {a1 : Int32} {σ : Mem} {r : Mem} (hF : F_X3_rankHorses a1 σ = some r) : Ct yX3_rankHorses cX3_rankHorses 6 none 2 43 (fun ad zz => [.ref (ad 2), .int a1]) σ (fun ad => none) r := by
  refine Ct_of (by decide +kernel) (lv := fun ad zz => [(0, .ref (ad 2)), (1, .int a1)]) (fun _ _ => rfl) (fun _ _ => Nat.le_of_ble_eq_true rfl) (fun p l e s m args below meth c D T ad zz C hr hlk => ?_)
  rw [F_X3_rankHorses] at hF
  refine V_iconst C dX3_rankHorses_0 (v := (0 : Int32)) (by decide) ?_
  refine V_istore_n C (lv' := [(2, .int (0 : Int32)), (0, .ref (ad 2)), (1, .int a1)]) dX3_rankHorses_1 rfl (by decide) rfl ?_
  refine V_lv (ks := [1, 2, 0]) rfl ?_
  exact w_X3_rankHorses_b2 C hr hlk 4000 a1 (0 : Int32) σ hF

def F_X6_byteAt (a1 : Int32) (σ : Mem) : Option Int32 :=
  if (σ.1 0) ≤ a1 then
    some (-9 : Int32)
  else
    Option.bind (F_X10_at 0 a1 σ) fun q1 =>
    some q1
set_option maxHeartbeats 4000000 in
set_option maxRecDepth 20000 in
theorem ct_X6_byteAt {a1 : Int32} {σ : Mem} {r : Int32} (hF : F_X6_byteAt a1 σ = some r) : Ct yX6_byteAt cX6_byteAt 2 (some .int) 1 21 (fun ad zz => [.ref (ad 1), .int a1]) σ (fun ad => (some (.int r))) σ := by
  refine Ct_of (by decide +kernel) (lv := fun ad zz => [(0, .ref (ad 1)), (1, .int a1)]) (fun _ _ => rfl) (fun _ _ => Nat.le_of_ble_eq_true rfl) (fun p l e s m args below meth c D T ad zz C hr hlk => ?_)
  rw [F_X6_byteAt] at hF
  refine V_iload_n C 1 dX6_byteAt_0 rfl ?_
  refine V_aload_n C 0 dX6_byteAt_1 rfl ?_
  refine gf_X6_15 C dX6_byteAt_2 ?_
  refine V_icmp_ge C 19 dX6_byteAt_5 (by decide) hF (fun hF => ?_) (fun hF => ?_)
  · refine V_bipush C dX6_byteAt_19 (v := (-9 : Int32)) (by decide) ?_
    cases hF
    exact V_iret C hr hlk rfl rfl dX6_byteAt_21
  · refine V_aload_n C 0 dX6_byteAt_8 rfl ?_
    refine gf_X6_11 C dX6_byteAt_9 ?_
    refine V_iload_n C 1 dX6_byteAt_12 rfl ?_
    obtain ⟨q1, hq1, hF⟩ := bnd hF
    refine cs_X6_23 C (ct_X10_at (by decide) hq1) rfl ⟨by decide, by decide⟩ (Nat.le_of_ble_eq_true rfl) dX6_byteAt_13 ⟨Nat.le_refl 0, Nat.le_refl 0⟩ ?_
    refine V_goto C 21 dX6_byteAt_16 (by decide) ?_
    cases hF
    exact V_iret C hr hlk rfl rfl dX6_byteAt_21

def F_X6_isHorse (a1 : Int32) (σ : Mem) : Option Int32 :=
  Option.bind (F_X6_byteAt a1 σ) fun q1 =>
  if q1 = (72 : Int32) then
    some (1 : Int32)
  else
    some (0 : Int32)
set_option maxHeartbeats 4000000 in
set_option maxRecDepth 20000 in
theorem ct_X6_isHorse {a1 : Int32} {σ : Mem} {r : Int32} (hF : F_X6_isHorse a1 σ = some r) : Ct yX6_isHorse cX6_isHorse 2 (some .boolean) 2 42 (fun ad zz => [.ref (ad 1), .int a1]) σ (fun ad => (some (.int r))) σ := by
  refine Ct_of (by decide +kernel) (lv := fun ad zz => [(0, .ref (ad 1)), (1, .int a1)]) (fun _ _ => rfl) (fun _ _ => Nat.le_of_ble_eq_true rfl) (fun p l e s m args below meth c D T ad zz C hr hlk => ?_)
  rw [F_X6_isHorse] at hF
  refine V_aload_n C 0 dX6_isHorse_0 rfl ?_
  refine V_iload_n C 1 dX6_isHorse_1 rfl ?_
  obtain ⟨q1, hq1, hF⟩ := bnd hF
  refine cs_X6_27 C (ct_X6_byteAt hq1) rfl ⟨by decide, by decide⟩ (Nat.le_of_ble_eq_true rfl) dX6_isHorse_2 ⟨Nat.le_refl 0, Nat.le_refl 0⟩ ?_
  refine V_bipush C dX6_isHorse_5 (v := (72 : Int32)) (by decide) ?_
  refine V_icmp_ne C 14 dX6_isHorse_7 (by decide) hF (fun hF => ?_) (fun hF => ?_)
  · refine V_iconst C dX6_isHorse_14 (v := (0 : Int32)) (by decide) ?_
    cases hF
    exact V_zret C hr hlk (Or.inl rfl) rfl rfl dX6_isHorse_15
  · refine V_iconst C dX6_isHorse_10 (v := (1 : Int32)) (by decide) ?_
    refine V_goto C 15 dX6_isHorse_11 (by decide) ?_
    cases hF
    exact V_zret C hr hlk (Or.inr rfl) rfl rfl dX6_isHorse_15

def F_X6_figureAt (a1 : Int32) (σ : Mem) : Option Int32 :=
  Option.bind (F_X6_byteAt a1 σ) fun q1 =>
  some (q1 - (48 : Int32))
set_option maxHeartbeats 4000000 in
set_option maxRecDepth 20000 in
theorem ct_X6_figureAt {a1 : Int32} {σ : Mem} {r : Int32} (hF : F_X6_figureAt a1 σ = some r) : Ct yX6_figureAt cX6_figureAt 2 (some .int) 2 42 (fun ad zz => [.ref (ad 1), .int a1]) σ (fun ad => (some (.int r))) σ := by
  refine Ct_of (by decide +kernel) (lv := fun ad zz => [(0, .ref (ad 1)), (1, .int a1)]) (fun _ _ => rfl) (fun _ _ => Nat.le_of_ble_eq_true rfl) (fun p l e s m args below meth c D T ad zz C hr hlk => ?_)
  rw [F_X6_figureAt] at hF
  refine V_aload_n C 0 dX6_figureAt_0 rfl ?_
  refine V_iload_n C 1 dX6_figureAt_1 rfl ?_
  obtain ⟨q1, hq1, hF⟩ := bnd hF
  refine cs_X6_27 C (ct_X6_byteAt hq1) rfl ⟨by decide, by decide⟩ (Nat.le_of_ble_eq_true rfl) dX6_figureAt_2 ⟨Nat.le_refl 0, Nat.le_refl 0⟩ ?_
  refine V_bipush C dX6_figureAt_5 (v := (48 : Int32)) (by decide) ?_
  refine V_isub C dX6_figureAt_7 ?_
  cases hF
  exact V_iret C hr hlk rfl rfl dX6_figureAt_8

def F_X3_readRider_b11  : Nat → Int32 → Int32 → Mem → Option Mem
  | 0, _, _, _ => none
  | n + 1, x2, x3, σ =>
    if (3 : Int32) ≤ x3 then
      Option.bind (F_X6_figureAt (x2 + (4 : Int32)) σ) fun q1 =>
      Option.bind (F_X10_put 7 (σ.1 2) q1 σ) fun σ2 =>
      Option.bind (stI σ2 2 ((σ2.1 2) + (1 : Int32))) fun σ3 =>
      some σ3
    else
      Option.bind (F_X6_figureAt ((x2 + (1 : Int32)) + x3) σ) fun q4 =>
      Option.bind (F_X10_put 6 (((3 : Int32) * (σ.1 2)) + x3) q4 σ) fun σ5 =>
      (F_X3_readRider_b11 n) x2 (x3 + 1) σ5
def F_X3_readRider (a2 : Int32) (σ : Mem) : Option Mem :=
  if (σ.1 2) < (5 : Int32) then
    F_X3_readRider_b11 4000 a2 (0 : Int32) σ
  else
    some σ
set_option maxHeartbeats 4000000 in
set_option maxRecDepth 20000 in
theorem w_X3_readRider_b11 {p : Program} {l : Launch} {e : Env} {s : State} {m : MethodId} {args : Array Value} {below : List Frame} {meth : Method} {c : Code} {D : va_G} {T : Nat → ClassId} {ad zz : Nat → Nat} (C : Cx p s m c cX3_readRider 4 RX3 (fA ad) D T ad zz) (hr : meth.sig.returnType = none) (hlk : meth.locks = false) {r : Mem}  : ∀ (n : Nat), ∀ (x2 : Int32) (x3 : Int32) (σ : Mem), F_X3_readRider_b11  n x2 x3 σ = some r → V p l e { frames := 3, cells := 0, slots := 0, locals := 63 } s m args below meth c 0 0 (MQ below (qC none r D T ad) args s 0 0 (fA ad)) 4 (fA ad) D T ad σ 11 [(0, .ref (ad 2)), (1, .ref (ad 1)), (2, .int x2), (3, .int x3)] [] := by
  intro n
  induction n with
  | zero =>
    intro x2 x3 σ hF
    cases (show (none : Option Mem) = some r from hF)
  | succ n ih =>
    intro x2 x3 σ hF
    rw [F_X3_readRider_b11] at hF
    refine V_iload_n C 3 dX3_readRider_11 rfl ?_
    refine V_iconst C dX3_readRider_12 (v := (3 : Int32)) (by decide) ?_
    refine V_icmp_ge C 46 dX3_readRider_13 (by decide) hF (fun hF => ?_) (fun hF => ?_)
    · refine V_aload_n C 0 dX3_readRider_46 rfl ?_
      refine gf_X3_30 C dX3_readRider_47 ?_
      refine V_aload_n C 0 dX3_readRider_50 rfl ?_
      refine gf_X3_43 C dX3_readRider_51 ?_
      refine V_aload_n C 1 dX3_readRider_54 rfl ?_
      refine V_iload_n C 2 dX3_readRider_55 rfl ?_
      refine V_iconst C dX3_readRider_56 (v := (4 : Int32)) (by decide) ?_
      refine V_iadd C dX3_readRider_57 ?_
      obtain ⟨q1, hq1, hF⟩ := bnd hF
      refine cs_X3_70 C (ct_X6_figureAt hq1) rfl ⟨by decide, by decide⟩ (Nat.le_of_ble_eq_true rfl) dX3_readRider_58 ⟨Nat.le_refl 0, Nat.le_refl 0⟩ ?_
      obtain ⟨σ2, hs2, hF⟩ := bnd hF
      refine cs_X3_73 C (ct_X10_put (by decide) hs2) rfl ⟨by decide, by decide⟩ (Nat.le_of_ble_eq_true rfl) dX3_readRider_61 ⟨Nat.le_refl 0, Nat.le_refl 0⟩ ?_
      refine V_aload_n C 0 dX3_readRider_64 rfl ?_
      refine V_dup C dX3_readRider_65 rfl ?_
      refine gf_X3_43 C dX3_readRider_66 ?_
      refine V_iconst C dX3_readRider_69 (v := (1 : Int32)) (by decide) ?_
      refine V_iadd C dX3_readRider_70 ?_
      obtain ⟨σ3, hs3, hF⟩ := bnd hF
      refine pf_X3_43 C hs3 dX3_readRider_71 ?_
      cases hF
      exact V_vret C hr hlk rfl rfl dX3_readRider_74
    · refine V_aload_n C 0 dX3_readRider_16 rfl ?_
      refine gf_X3_27 C dX3_readRider_17 ?_
      refine V_iconst C dX3_readRider_20 (v := (3 : Int32)) (by decide) ?_
      refine V_aload_n C 0 dX3_readRider_21 rfl ?_
      refine gf_X3_43 C dX3_readRider_22 ?_
      refine V_imul C dX3_readRider_25 ?_
      refine V_iload_n C 3 dX3_readRider_26 rfl ?_
      refine V_iadd C dX3_readRider_27 ?_
      refine V_aload_n C 1 dX3_readRider_28 rfl ?_
      refine V_iload_n C 2 dX3_readRider_29 rfl ?_
      refine V_iconst C dX3_readRider_30 (v := (1 : Int32)) (by decide) ?_
      refine V_iadd C dX3_readRider_31 ?_
      refine V_iload_n C 3 dX3_readRider_32 rfl ?_
      refine V_iadd C dX3_readRider_33 ?_
      obtain ⟨q4, hq4, hF⟩ := bnd hF
      refine cs_X3_70 C (ct_X6_figureAt hq4) rfl ⟨by decide, by decide⟩ (Nat.le_of_ble_eq_true rfl) dX3_readRider_34 ⟨Nat.le_refl 0, Nat.le_refl 0⟩ ?_
      obtain ⟨σ5, hs5, hF⟩ := bnd hF
      refine cs_X3_73 C (ct_X10_put (by decide) hs5) rfl ⟨by decide, by decide⟩ (Nat.le_of_ble_eq_true rfl) dX3_readRider_37 ⟨Nat.le_refl 0, Nat.le_refl 0⟩ ?_
      refine V_iinc C (v := (x3 + 1)) (lv' := [(3, .int (x3 + 1)), (0, .ref (ad 2)), (1, .ref (ad 1)), (2, .int x2)]) 3 dX3_readRider_40 rfl rfl (by decide) rfl ?_
      refine V_goto C 11 dX3_readRider_43 (by decide) ?_
      refine V_lv (ks := [1, 2, 3, 0]) rfl ?_
      exact ih x2 (x3 + 1) σ5 hF
set_option maxHeartbeats 4000000 in
set_option maxRecDepth 20000 in
theorem ct_X3_readRider {a2 : Int32} {σ : Mem} {r : Mem} (hF : F_X3_readRider a2 σ = some r) : Ct yX3_readRider cX3_readRider 4 none 3 63 (fun ad zz => [.ref (ad 2), .ref (ad 1), .int a2]) σ (fun ad => none) r := by
  refine Ct_of (by decide +kernel) (lv := fun ad zz => [(0, .ref (ad 2)), (1, .ref (ad 1)), (2, .int a2)]) (fun _ _ => rfl) (fun _ _ => Nat.le_of_ble_eq_true rfl) (fun p l e s m args below meth c D T ad zz C hr hlk => ?_)
  rw [F_X3_readRider] at hF
  refine V_aload_n C 0 dX3_readRider_0 rfl ?_
  refine gf_X3_43 C dX3_readRider_1 ?_
  refine V_iconst C dX3_readRider_4 (v := (5 : Int32)) (by decide) ?_
  refine V_icmp_lt C 9 dX3_readRider_5 (by decide) hF (fun hF => ?_) (fun hF => ?_)
  · refine V_iconst C dX3_readRider_9 (v := (0 : Int32)) (by decide) ?_
    refine V_istore_n C (lv' := [(3, .int (0 : Int32)), (0, .ref (ad 2)), (1, .ref (ad 1)), (2, .int a2)]) dX3_readRider_10 rfl (by decide) rfl ?_
    refine V_lv (ks := [1, 2, 3, 0]) rfl ?_
    exact w_X3_readRider_b11 C hr hlk 4000 a2 (0 : Int32) σ hF
  · cases hF
    exact V_vret C hr hlk rfl rfl dX3_readRider_8

def F_X6_partSize (a1 : Int32) (σ : Mem) : Option Int32 :=
  Option.bind (F_X6_isHorse a1 σ) fun q1 =>
  if q1 = 0 then
    some (5 : Int32)
  else
    some (9 : Int32)
set_option maxHeartbeats 4000000 in
set_option maxRecDepth 20000 in
theorem ct_X6_partSize {a1 : Int32} {σ : Mem} {r : Int32} (hF : F_X6_partSize a1 σ = some r) : Ct yX6_partSize cX6_partSize 2 (some .int) 3 63 (fun ad zz => [.ref (ad 1), .int a1]) σ (fun ad => (some (.int r))) σ := by
  refine Ct_of (by decide +kernel) (lv := fun ad zz => [(0, .ref (ad 1)), (1, .int a1)]) (fun _ _ => rfl) (fun _ _ => Nat.le_of_ble_eq_true rfl) (fun p l e s m args below meth c D T ad zz C hr hlk => ?_)
  rw [F_X6_partSize] at hF
  refine V_aload_n C 0 dX6_partSize_0 rfl ?_
  refine V_iload_n C 1 dX6_partSize_1 rfl ?_
  obtain ⟨q1, hq1, hF⟩ := bnd hF
  refine cs_X6_31 C (ct_X6_isHorse hq1) rfl ⟨by decide, by decide⟩ (Nat.le_of_ble_eq_true rfl) dX6_partSize_2 ⟨Nat.le_refl 0, Nat.le_refl 0⟩ ?_
  refine V_if_eq C 13 dX6_partSize_5 (by decide) hF (fun hF => ?_) (fun hF => ?_)
  · refine V_iconst C dX6_partSize_13 (v := (5 : Int32)) (by decide) ?_
    cases hF
    exact V_iret C hr hlk rfl rfl dX6_partSize_14
  · refine V_bipush C dX6_partSize_8 (v := (9 : Int32)) (by decide) ?_
    refine V_goto C 14 dX6_partSize_10 (by decide) ?_
    cases hF
    exact V_iret C hr hlk rfl rfl dX6_partSize_14

def F_X3_readHorse_b29  : Nat → Int32 → Int32 → Mem → Option Mem
  | 0, _, _, _ => none
  | n + 1, x2, x3, σ =>
    if (3 : Int32) ≤ x3 then
      Option.bind (F_X6_figureAt (x2 + (5 : Int32)) σ) fun q3 =>
      Option.bind (F_X10_put 3 (σ.1 1) q3 σ) fun σ4 =>
      Option.bind (F_X6_figureAt (x2 + (6 : Int32)) σ4) fun q5 =>
      Option.bind (F_X10_put 4 (σ4.1 1) q5 σ4) fun σ6 =>
      Option.bind (F_X6_figureAt (x2 + (7 : Int32)) σ6) fun q7 =>
      Option.bind (F_X6_figureAt (x2 + (8 : Int32)) σ6) fun q8 =>
      Option.bind (F_X10_put 5 (σ6.1 1) (((10 : Int32) * q7) + q8) σ6) fun σ9 =>
      Option.bind (stI σ9 1 ((σ9.1 1) + (1 : Int32))) fun σ10 =>
      some σ10
    else
      Option.bind (F_X6_figureAt ((x2 + (2 : Int32)) + x3) σ) fun q11 =>
      Option.bind (F_X10_put 2 (((3 : Int32) * (σ.1 1)) + x3) q11 σ) fun σ12 =>
      (F_X3_readHorse_b29 n) x2 (x3 + 1) σ12
def F_X3_readHorse (a2 : Int32) (σ : Mem) : Option Mem :=
  if (σ.1 1) < (4 : Int32) then
    Option.bind (F_X6_figureAt (a2 + (1 : Int32)) σ) fun q1 =>
    Option.bind (F_X10_put 1 (σ.1 1) q1 σ) fun σ2 =>
    F_X3_readHorse_b29 4000 a2 (0 : Int32) σ2
  else
    some σ
set_option maxHeartbeats 4000000 in
set_option maxRecDepth 20000 in
theorem w_X3_readHorse_b29 {p : Program} {l : Launch} {e : Env} {s : State} {m : MethodId} {args : Array Value} {below : List Frame} {meth : Method} {c : Code} {D : va_G} {T : Nat → ClassId} {ad zz : Nat → Nat} (C : Cx p s m c cX3_readHorse 4 RX3 (fA ad) D T ad zz) (hr : meth.sig.returnType = none) (hlk : meth.locks = false) {r : Mem}  : ∀ (n : Nat), ∀ (x2 : Int32) (x3 : Int32) (σ : Mem), F_X3_readHorse_b29  n x2 x3 σ = some r → V p l e { frames := 3, cells := 0, slots := 0, locals := 63 } s m args below meth c 0 0 (MQ below (qC none r D T ad) args s 0 0 (fA ad)) 4 (fA ad) D T ad σ 29 [(0, .ref (ad 2)), (1, .ref (ad 1)), (2, .int x2), (3, .int x3)] [] := by
  intro n
  induction n with
  | zero =>
    intro x2 x3 σ hF
    cases (show (none : Option Mem) = some r from hF)
  | succ n ih =>
    intro x2 x3 σ hF
    rw [F_X3_readHorse_b29] at hF
    refine V_iload_n C 3 dX3_readHorse_29 rfl ?_
    refine V_iconst C dX3_readHorse_30 (v := (3 : Int32)) (by decide) ?_
    refine V_icmp_ge C 64 dX3_readHorse_31 (by decide) hF (fun hF => ?_) (fun hF => ?_)
    · refine V_aload_n C 0 dX3_readHorse_64 rfl ?_
      refine gf_X3_18 C dX3_readHorse_65 ?_
      refine V_aload_n C 0 dX3_readHorse_68 rfl ?_
      refine gf_X3_39 C dX3_readHorse_69 ?_
      refine V_aload_n C 1 dX3_readHorse_72 rfl ?_
      refine V_iload_n C 2 dX3_readHorse_73 rfl ?_
      refine V_iconst C dX3_readHorse_74 (v := (5 : Int32)) (by decide) ?_
      refine V_iadd C dX3_readHorse_75 ?_
      obtain ⟨q3, hq3, hF⟩ := bnd hF
      refine cs_X3_70 C (ct_X6_figureAt hq3) rfl ⟨by decide, by decide⟩ (Nat.le_of_ble_eq_true rfl) dX3_readHorse_76 ⟨Nat.le_refl 0, Nat.le_refl 0⟩ ?_
      obtain ⟨σ4, hs4, hF⟩ := bnd hF
      refine cs_X3_73 C (ct_X10_put (by decide) hs4) rfl ⟨by decide, by decide⟩ (Nat.le_of_ble_eq_true rfl) dX3_readHorse_79 ⟨Nat.le_refl 0, Nat.le_refl 0⟩ ?_
      refine V_aload_n C 0 dX3_readHorse_82 rfl ?_
      refine gf_X3_21 C dX3_readHorse_83 ?_
      refine V_aload_n C 0 dX3_readHorse_86 rfl ?_
      refine gf_X3_39 C dX3_readHorse_87 ?_
      refine V_aload_n C 1 dX3_readHorse_90 rfl ?_
      refine V_iload_n C 2 dX3_readHorse_91 rfl ?_
      refine V_bipush C dX3_readHorse_92 (v := (6 : Int32)) (by decide) ?_
      refine V_iadd C dX3_readHorse_94 ?_
      obtain ⟨q5, hq5, hF⟩ := bnd hF
      refine cs_X3_70 C (ct_X6_figureAt hq5) rfl ⟨by decide, by decide⟩ (Nat.le_of_ble_eq_true rfl) dX3_readHorse_95 ⟨Nat.le_refl 0, Nat.le_refl 0⟩ ?_
      obtain ⟨σ6, hs6, hF⟩ := bnd hF
      refine cs_X3_73 C (ct_X10_put (by decide) hs6) rfl ⟨by decide, by decide⟩ (Nat.le_of_ble_eq_true rfl) dX3_readHorse_98 ⟨Nat.le_refl 0, Nat.le_refl 0⟩ ?_
      refine V_aload_n C 0 dX3_readHorse_101 rfl ?_
      refine gf_X3_24 C dX3_readHorse_102 ?_
      refine V_aload_n C 0 dX3_readHorse_105 rfl ?_
      refine gf_X3_39 C dX3_readHorse_106 ?_
      refine V_bipush C dX3_readHorse_109 (v := (10 : Int32)) (by decide) ?_
      refine V_aload_n C 1 dX3_readHorse_111 rfl ?_
      refine V_iload_n C 2 dX3_readHorse_112 rfl ?_
      refine V_bipush C dX3_readHorse_113 (v := (7 : Int32)) (by decide) ?_
      refine V_iadd C dX3_readHorse_115 ?_
      obtain ⟨q7, hq7, hF⟩ := bnd hF
      refine cs_X3_70 C (ct_X6_figureAt hq7) rfl ⟨by decide, by decide⟩ (Nat.le_of_ble_eq_true rfl) dX3_readHorse_116 ⟨Nat.le_refl 0, Nat.le_refl 0⟩ ?_
      refine V_imul C dX3_readHorse_119 ?_
      refine V_aload_n C 1 dX3_readHorse_120 rfl ?_
      refine V_iload_n C 2 dX3_readHorse_121 rfl ?_
      refine V_bipush C dX3_readHorse_122 (v := (8 : Int32)) (by decide) ?_
      refine V_iadd C dX3_readHorse_124 ?_
      obtain ⟨q8, hq8, hF⟩ := bnd hF
      refine cs_X3_70 C (ct_X6_figureAt hq8) rfl ⟨by decide, by decide⟩ (Nat.le_of_ble_eq_true rfl) dX3_readHorse_125 ⟨Nat.le_refl 0, Nat.le_refl 0⟩ ?_
      refine V_iadd C dX3_readHorse_128 ?_
      obtain ⟨σ9, hs9, hF⟩ := bnd hF
      refine cs_X3_73 C (ct_X10_put (by decide) hs9) rfl ⟨by decide, by decide⟩ (Nat.le_of_ble_eq_true rfl) dX3_readHorse_129 ⟨Nat.le_refl 0, Nat.le_refl 0⟩ ?_
      refine V_aload_n C 0 dX3_readHorse_132 rfl ?_
      refine V_dup C dX3_readHorse_133 rfl ?_
      refine gf_X3_39 C dX3_readHorse_134 ?_
      refine V_iconst C dX3_readHorse_137 (v := (1 : Int32)) (by decide) ?_
      refine V_iadd C dX3_readHorse_138 ?_
      obtain ⟨σ10, hs10, hF⟩ := bnd hF
      refine pf_X3_39 C hs10 dX3_readHorse_139 ?_
      cases hF
      exact V_vret C hr hlk rfl rfl dX3_readHorse_142
    · refine V_aload_n C 0 dX3_readHorse_34 rfl ?_
      refine gf_X3_15 C dX3_readHorse_35 ?_
      refine V_iconst C dX3_readHorse_38 (v := (3 : Int32)) (by decide) ?_
      refine V_aload_n C 0 dX3_readHorse_39 rfl ?_
      refine gf_X3_39 C dX3_readHorse_40 ?_
      refine V_imul C dX3_readHorse_43 ?_
      refine V_iload_n C 3 dX3_readHorse_44 rfl ?_
      refine V_iadd C dX3_readHorse_45 ?_
      refine V_aload_n C 1 dX3_readHorse_46 rfl ?_
      refine V_iload_n C 2 dX3_readHorse_47 rfl ?_
      refine V_iconst C dX3_readHorse_48 (v := (2 : Int32)) (by decide) ?_
      refine V_iadd C dX3_readHorse_49 ?_
      refine V_iload_n C 3 dX3_readHorse_50 rfl ?_
      refine V_iadd C dX3_readHorse_51 ?_
      obtain ⟨q11, hq11, hF⟩ := bnd hF
      refine cs_X3_70 C (ct_X6_figureAt hq11) rfl ⟨by decide, by decide⟩ (Nat.le_of_ble_eq_true rfl) dX3_readHorse_52 ⟨Nat.le_refl 0, Nat.le_refl 0⟩ ?_
      obtain ⟨σ12, hs12, hF⟩ := bnd hF
      refine cs_X3_73 C (ct_X10_put (by decide) hs12) rfl ⟨by decide, by decide⟩ (Nat.le_of_ble_eq_true rfl) dX3_readHorse_55 ⟨Nat.le_refl 0, Nat.le_refl 0⟩ ?_
      refine V_iinc C (v := (x3 + 1)) (lv' := [(3, .int (x3 + 1)), (0, .ref (ad 2)), (1, .ref (ad 1)), (2, .int x2)]) 3 dX3_readHorse_58 rfl rfl (by decide) rfl ?_
      refine V_goto C 29 dX3_readHorse_61 (by decide) ?_
      refine V_lv (ks := [1, 2, 3, 0]) rfl ?_
      exact ih x2 (x3 + 1) σ12 hF
set_option maxHeartbeats 4000000 in
set_option maxRecDepth 20000 in
theorem ct_X3_readHorse {a2 : Int32} {σ : Mem} {r : Mem} (hF : F_X3_readHorse a2 σ = some r) : Ct yX3_readHorse cX3_readHorse 4 none 3 63 (fun ad zz => [.ref (ad 2), .ref (ad 1), .int a2]) σ (fun ad => none) r := by
  refine Ct_of (by decide +kernel) (lv := fun ad zz => [(0, .ref (ad 2)), (1, .ref (ad 1)), (2, .int a2)]) (fun _ _ => rfl) (fun _ _ => Nat.le_of_ble_eq_true rfl) (fun p l e s m args below meth c D T ad zz C hr hlk => ?_)
  rw [F_X3_readHorse] at hF
  refine V_aload_n C 0 dX3_readHorse_0 rfl ?_
  refine gf_X3_39 C dX3_readHorse_1 ?_
  refine V_iconst C dX3_readHorse_4 (v := (4 : Int32)) (by decide) ?_
  refine V_icmp_lt C 9 dX3_readHorse_5 (by decide) hF (fun hF => ?_) (fun hF => ?_)
  · refine V_aload_n C 0 dX3_readHorse_9 rfl ?_
    refine gf_X3_9 C dX3_readHorse_10 ?_
    refine V_aload_n C 0 dX3_readHorse_13 rfl ?_
    refine gf_X3_39 C dX3_readHorse_14 ?_
    refine V_aload_n C 1 dX3_readHorse_17 rfl ?_
    refine V_iload_n C 2 dX3_readHorse_18 rfl ?_
    refine V_iconst C dX3_readHorse_19 (v := (1 : Int32)) (by decide) ?_
    refine V_iadd C dX3_readHorse_20 ?_
    obtain ⟨q1, hq1, hF⟩ := bnd hF
    refine cs_X3_70 C (ct_X6_figureAt hq1) rfl ⟨by decide, by decide⟩ (Nat.le_of_ble_eq_true rfl) dX3_readHorse_21 ⟨Nat.le_refl 0, Nat.le_refl 0⟩ ?_
    obtain ⟨σ2, hs2, hF⟩ := bnd hF
    refine cs_X3_73 C (ct_X10_put (by decide) hs2) rfl ⟨by decide, by decide⟩ (Nat.le_of_ble_eq_true rfl) dX3_readHorse_24 ⟨Nat.le_refl 0, Nat.le_refl 0⟩ ?_
    refine V_iconst C dX3_readHorse_27 (v := (0 : Int32)) (by decide) ?_
    refine V_istore_n C (lv' := [(3, .int (0 : Int32)), (0, .ref (ad 2)), (1, .ref (ad 1)), (2, .int a2)]) dX3_readHorse_28 rfl (by decide) rfl ?_
    refine V_lv (ks := [1, 2, 3, 0]) rfl ?_
    exact w_X3_readHorse_b29 C hr hlk 4000 a2 (0 : Int32) σ2 hF
  · cases hF
    exact V_vret C hr hlk rfl rfl dX3_readHorse_8

def F_X3_readFrom_b67  : Nat → Int32 → Mem → Option Mem
  | 0, _, _ => none
  | n + 1, x3, σ =>
    if (σ.1 2) ≤ x3 then
      some σ
    else
      Option.bind (F_X3_rankHorses x3 σ) fun σ3 =>
      (F_X3_readFrom_b67 n) (x3 + 1) σ3
def F_X3_readFrom_b14  : Nat → Int32 → Int32 → Mem → Option Mem
  | 0, _, _, _ => none
  | n + 1, x2, x3, σ =>
    if (9 : Int32) ≤ x3 then
      F_X3_readFrom_b67 4000 (0 : Int32) σ
    else
      if (σ.1 0) ≤ x2 then
        F_X3_readFrom_b67 4000 (0 : Int32) σ
      else
        Option.bind (F_X6_isHorse x2 σ) fun q4 =>
        if q4 = 0 then
          Option.bind (F_X3_readRider x2 σ) fun σ5 =>
          Option.bind (F_X6_partSize x2 σ5) fun q6 =>
          (F_X3_readFrom_b14 n) (x2 + q6) (x3 + 1) σ5
        else
          Option.bind (F_X3_readHorse x2 σ) fun σ7 =>
          Option.bind (F_X6_partSize x2 σ7) fun q8 =>
          (F_X3_readFrom_b14 n) (x2 + q8) (x3 + 1) σ7
def F_X3_readFrom (σ : Mem) : Option Mem :=
  Option.bind (stI σ 1 (0 : Int32)) fun σ1 =>
  Option.bind (stI σ1 2 (0 : Int32)) fun σ2 =>
  F_X3_readFrom_b14 4000 (1 : Int32) (0 : Int32) σ2
set_option maxHeartbeats 4000000 in
set_option maxRecDepth 20000 in
theorem w_X3_readFrom_b67 {p : Program} {l : Launch} {e : Env} {s : State} {m : MethodId} {args : Array Value} {below : List Frame} {meth : Method} {c : Code} {D : va_G} {T : Nat → ClassId} {ad zz : Nat → Nat} (C : Cx p s m c cX3_readFrom 4 RX3 (fA ad) D T ad zz) (hr : meth.sig.returnType = none) (hlk : meth.locks = false) {r : Mem}  : ∀ (n : Nat), ∀ (x3 : Int32) (σ : Mem), F_X3_readFrom_b67  n x3 σ = some r → V p l e { frames := 4, cells := 0, slots := 0, locals := 86 } s m args below meth c 0 0 (MQ below (qC none r D T ad) args s 0 0 (fA ad)) 4 (fA ad) D T ad σ 67 [(0, .ref (ad 2)), (3, .int x3)] [] := by
  intro n
  induction n with
  | zero =>
    intro x3 σ hF
    cases (show (none : Option Mem) = some r from hF)
  | succ n ih =>
    intro x3 σ hF
    rw [F_X3_readFrom_b67] at hF
    refine V_iload_n C 1 dX3_readFrom_67 rfl ?_
    refine V_aload_n C 0 dX3_readFrom_68 rfl ?_
    refine gf_X3_43 C dX3_readFrom_69 ?_
    refine V_icmp_ge C 86 dX3_readFrom_72 (by decide) hF (fun hF => ?_) (fun hF => ?_)
    · cases hF
      exact V_vret C hr hlk rfl rfl dX3_readFrom_86
    · refine V_aload_n C 0 dX3_readFrom_75 rfl ?_
      refine V_iload_n C 1 dX3_readFrom_76 rfl ?_
      obtain ⟨σ3, hs3, hF⟩ := bnd hF
      refine cs_X3_66 C (ct_X3_rankHorses hs3) rfl ⟨by decide, by decide⟩ (Nat.le_of_ble_eq_true rfl) dX3_readFrom_77 ⟨Nat.le_refl 0, Nat.le_refl 0⟩ ?_
      refine V_iinc C (v := (x3 + 1)) (lv' := [(3, .int (x3 + 1)), (0, .ref (ad 2))]) 1 dX3_readFrom_80 rfl rfl (by decide) rfl ?_
      refine V_goto C 67 dX3_readFrom_83 (by decide) ?_
      refine V_lv (ks := [1, 0]) rfl ?_
      exact ih (x3 + 1) σ3 hF
set_option maxHeartbeats 4000000 in
set_option maxRecDepth 20000 in
theorem w_X3_readFrom_b14 {p : Program} {l : Launch} {e : Env} {s : State} {m : MethodId} {args : Array Value} {below : List Frame} {meth : Method} {c : Code} {D : va_G} {T : Nat → ClassId} {ad zz : Nat → Nat} (C : Cx p s m c cX3_readFrom 4 RX3 (fA ad) D T ad zz) (hr : meth.sig.returnType = none) (hlk : meth.locks = false) {r : Mem}  : ∀ (n : Nat), ∀ (x2 : Int32) (x3 : Int32) (σ : Mem), F_X3_readFrom_b14  n x2 x3 σ = some r → V p l e { frames := 4, cells := 0, slots := 0, locals := 86 } s m args below meth c 0 0 (MQ below (qC none r D T ad) args s 0 0 (fA ad)) 4 (fA ad) D T ad σ 14 [(0, .ref (ad 2)), (1, .ref (ad 1)), (2, .int x2), (3, .int x3)] [] := by
  intro n
  induction n with
  | zero =>
    intro x2 x3 σ hF
    cases (show (none : Option Mem) = some r from hF)
  | succ n ih =>
    intro x2 x3 σ hF
    rw [F_X3_readFrom_b14] at hF
    refine V_iload_n C 3 dX3_readFrom_14 rfl ?_
    refine V_bipush C dX3_readFrom_15 (v := (9 : Int32)) (by decide) ?_
    refine V_icmp_ge C 65 dX3_readFrom_17 (by decide) hF (fun hF => ?_) (fun hF => ?_)
    · refine V_iconst C dX3_readFrom_65 (v := (0 : Int32)) (by decide) ?_
      refine V_istore_n C (lv' := [(3, .int (0 : Int32)), (0, .ref (ad 2)), (1, .ref (ad 1)), (2, .int x2)]) dX3_readFrom_66 rfl (by decide) rfl ?_
      refine V_lv (ks := [1, 0]) rfl ?_
      exact w_X3_readFrom_b67 C hr hlk 4000 (0 : Int32) σ hF
    · refine V_iload_n C 2 dX3_readFrom_20 rfl ?_
      refine V_aload_n C 1 dX3_readFrom_21 rfl ?_
      refine gf_X3_46 C dX3_readFrom_22 ?_
      refine V_icmp_ge C 65 dX3_readFrom_25 (by decide) hF (fun hF => ?_) (fun hF => ?_)
      · refine V_iconst C dX3_readFrom_65 (v := (0 : Int32)) (by decide) ?_
        refine V_istore_n C (lv' := [(3, .int (0 : Int32)), (0, .ref (ad 2)), (1, .ref (ad 1)), (2, .int x2)]) dX3_readFrom_66 rfl (by decide) rfl ?_
        refine V_lv (ks := [1, 0]) rfl ?_
        exact w_X3_readFrom_b67 C hr hlk 4000 (0 : Int32) σ hF
      · refine V_aload_n C 1 dX3_readFrom_28 rfl ?_
        refine V_iload_n C 2 dX3_readFrom_29 rfl ?_
        obtain ⟨q4, hq4, hF⟩ := bnd hF
        refine cs_X3_51 C (ct_X6_isHorse hq4) rfl ⟨by decide, by decide⟩ (Nat.le_of_ble_eq_true rfl) dX3_readFrom_30 ⟨Nat.le_refl 0, Nat.le_refl 0⟩ ?_
        refine V_if_eq C 45 dX3_readFrom_33 (by decide) hF (fun hF => ?_) (fun hF => ?_)
        · refine V_aload_n C 0 dX3_readFrom_45 rfl ?_
          refine V_aload_n C 1 dX3_readFrom_46 rfl ?_
          refine V_iload_n C 2 dX3_readFrom_47 rfl ?_
          obtain ⟨σ5, hs5, hF⟩ := bnd hF
          refine cs_X3_59 C (ct_X3_readRider hs5) rfl ⟨by decide, by decide⟩ (Nat.le_of_ble_eq_true rfl) dX3_readFrom_48 ⟨Nat.le_refl 0, Nat.le_refl 0⟩ ?_
          refine V_iload_n C 2 dX3_readFrom_51 rfl ?_
          refine V_aload_n C 1 dX3_readFrom_52 rfl ?_
          refine V_iload_n C 2 dX3_readFrom_53 rfl ?_
          obtain ⟨q6, hq6, hF⟩ := bnd hF
          refine cs_X3_62 C (ct_X6_partSize hq6) rfl ⟨by decide, by decide⟩ (Nat.le_of_ble_eq_true rfl) dX3_readFrom_54 ⟨Nat.le_refl 0, Nat.le_refl 0⟩ ?_
          refine V_iadd C dX3_readFrom_57 ?_
          refine V_istore_n C (lv' := [(2, .int (x2 + q6)), (0, .ref (ad 2)), (1, .ref (ad 1)), (3, .int x3)]) dX3_readFrom_58 rfl (by decide) rfl ?_
          refine V_iinc C (v := (x3 + 1)) (lv' := [(3, .int (x3 + 1)), (2, .int (x2 + q6)), (0, .ref (ad 2)), (1, .ref (ad 1))]) 3 dX3_readFrom_59 rfl rfl (by decide) rfl ?_
          refine V_goto C 14 dX3_readFrom_62 (by decide) ?_
          refine V_lv (ks := [2, 3, 1, 0]) rfl ?_
          exact ih (x2 + q6) (x3 + 1) σ5 hF
        · refine V_aload_n C 0 dX3_readFrom_36 rfl ?_
          refine V_aload_n C 1 dX3_readFrom_37 rfl ?_
          refine V_iload_n C 2 dX3_readFrom_38 rfl ?_
          obtain ⟨σ7, hs7, hF⟩ := bnd hF
          refine cs_X3_55 C (ct_X3_readHorse hs7) rfl ⟨by decide, by decide⟩ (Nat.le_of_ble_eq_true rfl) dX3_readFrom_39 ⟨Nat.le_refl 0, Nat.le_refl 0⟩ ?_
          refine V_goto C 51 dX3_readFrom_42 (by decide) ?_
          refine V_iload_n C 2 dX3_readFrom_51 rfl ?_
          refine V_aload_n C 1 dX3_readFrom_52 rfl ?_
          refine V_iload_n C 2 dX3_readFrom_53 rfl ?_
          obtain ⟨q8, hq8, hF⟩ := bnd hF
          refine cs_X3_62 C (ct_X6_partSize hq8) rfl ⟨by decide, by decide⟩ (Nat.le_of_ble_eq_true rfl) dX3_readFrom_54 ⟨Nat.le_refl 0, Nat.le_refl 0⟩ ?_
          refine V_iadd C dX3_readFrom_57 ?_
          refine V_istore_n C (lv' := [(2, .int (x2 + q8)), (0, .ref (ad 2)), (1, .ref (ad 1)), (3, .int x3)]) dX3_readFrom_58 rfl (by decide) rfl ?_
          refine V_iinc C (v := (x3 + 1)) (lv' := [(3, .int (x3 + 1)), (2, .int (x2 + q8)), (0, .ref (ad 2)), (1, .ref (ad 1))]) 3 dX3_readFrom_59 rfl rfl (by decide) rfl ?_
          refine V_goto C 14 dX3_readFrom_62 (by decide) ?_
          refine V_lv (ks := [2, 3, 1, 0]) rfl ?_
          exact ih (x2 + q8) (x3 + 1) σ7 hF
set_option maxHeartbeats 4000000 in
set_option maxRecDepth 20000 in
theorem ct_X3_readFrom {σ : Mem} {r : Mem} (hF : F_X3_readFrom σ = some r) : Ct yX3_readFrom cX3_readFrom 4 none 4 86 (fun ad zz => [.ref (ad 2), .ref (ad 1)]) σ (fun ad => none) r := by
  refine Ct_of (by decide +kernel) (lv := fun ad zz => [(0, .ref (ad 2)), (1, .ref (ad 1))]) (fun _ _ => rfl) (fun _ _ => Nat.le_of_ble_eq_true rfl) (fun p l e s m args below meth c D T ad zz C hr hlk => ?_)
  rw [F_X3_readFrom] at hF
  refine V_aload_n C 0 dX3_readFrom_0 rfl ?_
  refine V_iconst C dX3_readFrom_1 (v := (0 : Int32)) (by decide) ?_
  obtain ⟨σ1, hs1, hF⟩ := bnd hF
  refine pf_X3_39 C hs1 dX3_readFrom_2 ?_
  refine V_aload_n C 0 dX3_readFrom_5 rfl ?_
  refine V_iconst C dX3_readFrom_6 (v := (0 : Int32)) (by decide) ?_
  obtain ⟨σ2, hs2, hF⟩ := bnd hF
  refine pf_X3_43 C hs2 dX3_readFrom_7 ?_
  refine V_iconst C dX3_readFrom_10 (v := (1 : Int32)) (by decide) ?_
  refine V_istore_n C (lv' := [(2, .int (1 : Int32)), (0, .ref (ad 2)), (1, .ref (ad 1))]) dX3_readFrom_11 rfl (by decide) rfl ?_
  refine V_iconst C dX3_readFrom_12 (v := (0 : Int32)) (by decide) ?_
  refine V_istore_n C (lv' := [(3, .int (0 : Int32)), (2, .int (1 : Int32)), (0, .ref (ad 2)), (1, .ref (ad 1))]) dX3_readFrom_13 rfl (by decide) rfl ?_
  refine V_lv (ks := [2, 3, 1, 0]) rfl ?_
  exact w_X3_readFrom_b14 C hr hlk 4000 (1 : Int32) (0 : Int32) σ2 hF

def F_X3_likedAs (a1 : Int32) (a2 : Int32) (σ : Mem) : Option Int32 :=
  if a2 < 0 then
    some (-9 : Int32)
  else
    if (σ.1 1) ≤ a2 then
      some (-9 : Int32)
    else
      Option.bind (F_X10_at 9 (((4 : Int32) * a1) + a2) σ) fun q1 =>
      some q1
set_option maxHeartbeats 4000000 in
set_option maxRecDepth 20000 in
theorem ct_X3_likedAs {a1 : Int32} {a2 : Int32} {σ : Mem} {r : Int32} (hF : F_X3_likedAs a1 a2 σ = some r) : Ct yX3_likedAs cX3_likedAs 3 (some .int) 1 21 (fun ad zz => [.ref (ad 2), .int a1, .int a2]) σ (fun ad => (some (.int r))) σ := by
  refine Ct_of (by decide +kernel) (lv := fun ad zz => [(0, .ref (ad 2)), (1, .int a1), (2, .int a2)]) (fun _ _ => rfl) (fun _ _ => Nat.le_of_ble_eq_true rfl) (fun p l e s m args below meth c D T ad zz C hr hlk => ?_)
  rw [F_X3_likedAs] at hF
  refine V_iload_n C 2 dX3_likedAs_0 rfl ?_
  refine V_if_lt C 27 dX3_likedAs_1 (by decide) hF (fun hF => ?_) (fun hF => ?_)
  · refine V_bipush C dX3_likedAs_27 (v := (-9 : Int32)) (by decide) ?_
    cases hF
    exact V_iret C hr hlk rfl rfl dX3_likedAs_29
  · refine V_iload_n C 2 dX3_likedAs_4 rfl ?_
    refine V_aload_n C 0 dX3_likedAs_5 rfl ?_
    refine gf_X3_39 C dX3_likedAs_6 ?_
    refine V_icmp_ge C 27 dX3_likedAs_9 (by decide) hF (fun hF => ?_) (fun hF => ?_)
    · refine V_bipush C dX3_likedAs_27 (v := (-9 : Int32)) (by decide) ?_
      cases hF
      exact V_iret C hr hlk rfl rfl dX3_likedAs_29
    · refine V_aload_n C 0 dX3_likedAs_12 rfl ?_
      refine gf_X3_36 C dX3_likedAs_13 ?_
      refine V_iconst C dX3_likedAs_16 (v := (4 : Int32)) (by decide) ?_
      refine V_iload_n C 1 dX3_likedAs_17 rfl ?_
      refine V_imul C dX3_likedAs_18 ?_
      refine V_iload_n C 2 dX3_likedAs_19 rfl ?_
      refine V_iadd C dX3_likedAs_20 ?_
      obtain ⟨q1, hq1, hF⟩ := bnd hF
      refine cs_X3_81 C (ct_X10_at (by decide) hq1) rfl ⟨by decide, by decide⟩ (Nat.le_of_ble_eq_true rfl) dX3_likedAs_21 ⟨Nat.le_refl 0, Nat.le_refl 0⟩ ?_
      refine V_goto C 29 dX3_likedAs_24 (by decide) ?_
      cases hF
      exact V_iret C hr hlk rfl rfl dX3_likedAs_29

def F_X3_riderLikes (a1 : Int32) (a2 : Int32) (a3 : Int32) (σ : Mem) : Option Int32 :=
  if a3 = (-9 : Int32) then
    some (1 : Int32)
  else
    Option.bind (F_X10_at 8 (((4 : Int32) * a1) + a2) σ) fun q1 =>
    Option.bind (F_X10_at 8 (((4 : Int32) * a1) + a3) σ) fun q2 =>
    if q2 ≤ q1 then
      some (0 : Int32)
    else
      some (1 : Int32)
set_option maxHeartbeats 4000000 in
set_option maxRecDepth 20000 in
theorem ct_X3_riderLikes {a1 : Int32} {a2 : Int32} {a3 : Int32} {σ : Mem} {r : Int32} (hF : F_X3_riderLikes a1 a2 a3 σ = some r) : Ct yX3_riderLikes cX3_riderLikes 4 (some .boolean) 1 21 (fun ad zz => [.ref (ad 2), .int a1, .int a2, .int a3]) σ (fun ad => (some (.int r))) σ := by
  refine Ct_of (by decide +kernel) (lv := fun ad zz => [(0, .ref (ad 2)), (1, .int a1), (2, .int a2), (3, .int a3)]) (fun _ _ => rfl) (fun _ _ => Nat.le_of_ble_eq_true rfl) (fun p l e s m args below meth c D T ad zz C hr hlk => ?_)
  rw [F_X3_riderLikes] at hF
  refine V_iload_n C 3 dX3_riderLikes_0 rfl ?_
  refine V_bipush C dX3_riderLikes_1 (v := (-9 : Int32)) (by decide) ?_
  refine V_icmp_eq C 33 dX3_riderLikes_3 (by decide) hF (fun hF => ?_) (fun hF => ?_)
  · refine V_iconst C dX3_riderLikes_33 (v := (1 : Int32)) (by decide) ?_
    refine V_goto C 38 dX3_riderLikes_34 (by decide) ?_
    cases hF
    exact V_zret C hr hlk (Or.inr rfl) rfl rfl dX3_riderLikes_38
  · refine V_aload_n C 0 dX3_riderLikes_6 rfl ?_
    refine gf_X3_33 C dX3_riderLikes_7 ?_
    refine V_iconst C dX3_riderLikes_10 (v := (4 : Int32)) (by decide) ?_
    refine V_iload_n C 1 dX3_riderLikes_11 rfl ?_
    refine V_imul C dX3_riderLikes_12 ?_
    refine V_iload_n C 2 dX3_riderLikes_13 rfl ?_
    refine V_iadd C dX3_riderLikes_14 ?_
    obtain ⟨q1, hq1, hF⟩ := bnd hF
    refine cs_X3_81 C (ct_X10_at (by decide) hq1) rfl ⟨by decide, by decide⟩ (Nat.le_of_ble_eq_true rfl) dX3_riderLikes_15 ⟨Nat.le_refl 0, Nat.le_refl 0⟩ ?_
    refine V_aload_n C 0 dX3_riderLikes_18 rfl ?_
    refine gf_X3_33 C dX3_riderLikes_19 ?_
    refine V_iconst C dX3_riderLikes_22 (v := (4 : Int32)) (by decide) ?_
    refine V_iload_n C 1 dX3_riderLikes_23 rfl ?_
    refine V_imul C dX3_riderLikes_24 ?_
    refine V_iload_n C 3 dX3_riderLikes_25 rfl ?_
    refine V_iadd C dX3_riderLikes_26 ?_
    obtain ⟨q2, hq2, hF⟩ := bnd hF
    refine cs_X3_81 C (ct_X10_at (by decide) hq2) rfl ⟨by decide, by decide⟩ (Nat.le_of_ble_eq_true rfl) dX3_riderLikes_27 ⟨Nat.le_refl 0, Nat.le_refl 0⟩ ?_
    refine V_icmp_ge C 37 dX3_riderLikes_30 (by decide) hF (fun hF => ?_) (fun hF => ?_)
    · refine V_iconst C dX3_riderLikes_37 (v := (0 : Int32)) (by decide) ?_
      cases hF
      exact V_zret C hr hlk (Or.inl rfl) rfl rfl dX3_riderLikes_38
    · refine V_iconst C dX3_riderLikes_33 (v := (1 : Int32)) (by decide) ?_
      refine V_goto C 38 dX3_riderLikes_34 (by decide) ?_
      cases hF
      exact V_zret C hr hlk (Or.inr rfl) rfl rfl dX3_riderLikes_38

def F_J7_fill_53178_b5 (n1 : Nat) : Nat → Int32 → Int32 → Int32 → Mem → Option Mem
  | 0, _, _, _, _ => none
  | n + 1, x1, x2, x3, σ =>
    if x3 ≤ x2 then
      some σ
    else
      Option.bind (wrA σ n1 x2 x1) fun σ1 =>
      (F_J7_fill_53178_b5 n1 n) x1 (x2 + 1) x3 σ1
def F_J7_fill_53178 (n1 : Nat) (a2 : Int32) (σ : Mem) : Option Mem :=
  F_J7_fill_53178_b5 n1 4000 a2 (0 : Int32) (nI (alen n1)) σ
set_option maxHeartbeats 4000000 in
set_option maxRecDepth 20000 in
theorem w_J7_fill_53178_b5 {p : Program} {l : Launch} {e : Env} {s : State} {m : MethodId} {args : Array Value} {below : List Frame} {meth : Method} {c : Code} {D : va_G} {T : Nat → ClassId} {ad zz : Nat → Nat} (C : Cx p s m c cJ7_fill_53178 4 RJ7 (fA ad) D T ad zz) (hr : meth.sig.returnType = none) (hlk : meth.locks = false) {n1 : Nat} (hn1 : n1 < 67) {r : Mem}  : ∀ (n : Nat), ∀ (x1 : Int32) (x2 : Int32) (x3 : Int32) (σ : Mem), F_J7_fill_53178_b5 n1 n x1 x2 x3 σ = some r → V p l e { frames := 0, cells := 0, slots := 0, locals := 0 } s m args below meth c 0 0 (MQ below (qC none r D T ad) args s 0 0 (fA ad)) 4 (fA ad) D T ad σ 5 [(0, .ref (ad (12 + n1))), (1, .int x1), (2, .int x2), (3, .int x3)] [] := by
  intro n
  induction n with
  | zero =>
    intro x1 x2 x3 σ hF
    cases (show (none : Option Mem) = some r from hF)
  | succ n ih =>
    intro x1 x2 x3 σ hF
    rw [F_J7_fill_53178_b5] at hF
    refine V_iload_n C 2 dJ7_fill_53178_5 rfl ?_
    refine V_iload_n C 3 dJ7_fill_53178_6 rfl ?_
    refine V_icmp_ge C 20 dJ7_fill_53178_7 (by decide) hF (fun hF => ?_) (fun hF => ?_)
    · cases hF
      exact V_vret C hr hlk rfl rfl dJ7_fill_53178_20
    · refine V_aload_n C 0 dJ7_fill_53178_10 rfl ?_
      refine V_iload_n C 2 dJ7_fill_53178_11 rfl ?_
      refine V_iload_n C 1 dJ7_fill_53178_12 rfl ?_
      obtain ⟨σ1, hs1, hF⟩ := bnd hF
      refine V_iast C hn1 hs1 dJ7_fill_53178_13 ?_
      refine V_iinc C (v := (x2 + 1)) (lv' := [(2, .int (x2 + 1)), (0, .ref (ad (12 + n1))), (1, .int x1), (3, .int x3)]) 2 dJ7_fill_53178_14 rfl rfl (by decide) rfl ?_
      refine V_goto C 5 dJ7_fill_53178_17 (by decide) ?_
      refine V_lv (ks := [1, 2, 0, 3]) rfl ?_
      exact ih x1 (x2 + 1) x3 σ1 hF
set_option maxHeartbeats 4000000 in
set_option maxRecDepth 20000 in
theorem ct_J7_fill_53178 {n1 : Nat} {a2 : Int32} {σ : Mem} {r : Mem} (hn1 : n1 < 67) (hF : F_J7_fill_53178 n1 a2 σ = some r) : Ct yJ7_fill_53178 cJ7_fill_53178 4 none 0 0 (fun ad zz => [.ref (ad (12 + n1)), .int a2]) σ (fun ad => none) r := by
  refine Ct_of (by decide +kernel) (lv := fun ad zz => [(0, .ref (ad (12 + n1))), (1, .int a2)]) (fun _ _ => rfl) (fun _ _ => Nat.le_of_ble_eq_true rfl) (fun p l e s m args below meth c D T ad zz C hr hlk => ?_)
  rw [F_J7_fill_53178] at hF
  refine V_iconst C dJ7_fill_53178_0 (v := (0 : Int32)) (by decide) ?_
  refine V_istore_n C (lv' := [(2, .int (0 : Int32)), (0, .ref (ad (12 + n1))), (1, .int a2)]) dJ7_fill_53178_1 rfl (by decide) rfl ?_
  refine V_aload_n C 1 dJ7_fill_53178_2 rfl ?_
  refine V_alen C hn1 dJ7_fill_53178_3 ?_
  refine V_istore_n C (lv' := [(3, .int (nI (alen n1))), (2, .int (0 : Int32)), (0, .ref (ad (12 + n1))), (1, .int a2)]) dJ7_fill_53178_4 rfl (by decide) rfl ?_
  refine V_lv (ks := [2, 3, 1, 0]) rfl ?_
  exact w_J7_fill_53178_b5 C hr hlk hn1 4000 a2 (0 : Int32) (nI (alen n1)) σ hF

def F_X7_clear (k0 : Nat) (σ : Mem) : Option Mem :=
  Option.bind (F_J7_fill_53178 (15 + k0) (-9 : Int32) σ) fun σ1 =>
  some σ1
set_option maxHeartbeats 4000000 in
set_option maxRecDepth 20000 in
theorem ct_X7_clear {k0 : Nat} {σ : Mem} {r : Mem} (hk0 : k0 < 21) (hF : F_X7_clear k0 σ = some r) : Ct yX7_clear cX7_clear 1 none 1 23 (fun ad zz => [.ref (ad (97 + k0))]) σ (fun ad => none) r := by
  refine Ct_of (by decide +kernel) (lv := fun ad zz => [(0, .ref (ad (97 + k0)))]) (fun _ _ => rfl) (fun _ _ => Nat.le_of_ble_eq_true rfl) (fun p l e s m args below meth c D T ad zz C hr hlk => ?_)
  rw [F_X7_clear] at hF
  refine V_aload_n C 0 dX7_clear_0 rfl ?_
  refine gf_X7_9 C hk0 dX7_clear_1 ?_
  refine V_bipush C dX7_clear_4 (v := (-9 : Int32)) (by decide) ?_
  obtain ⟨σ1, hs1, hF⟩ := bnd hF
  refine cs_X7_15 C (ct_J7_fill_53178 (by omega) hs1) rfl ⟨by decide, by decide⟩ (Nat.le_of_ble_eq_true rfl) dX7_clear_6 ⟨Nat.le_refl 0, Nat.le_refl 0⟩ ?_
  cases hF
  exact V_vret C hr hlk rfl rfl dX7_clear_9

def F_X10_contains (a1 : Int32) (a2 : Int32) (σ : Mem) : Option Int32 :=
  if ((a1 >>> (a2 &&& 31)) &&& (1 : Int32)) = (1 : Int32) then
    some (1 : Int32)
  else
    some (0 : Int32)
set_option maxHeartbeats 4000000 in
set_option maxRecDepth 20000 in
theorem ct_X10_contains {a1 : Int32} {a2 : Int32} {σ : Mem} {r : Int32} (hF : F_X10_contains a1 a2 σ = some r) : Ct yX10_contains cX10_contains 2 (some .boolean) 0 0 (fun ad zz => [.int a1, .int a2]) σ (fun ad => (some (.int r))) σ := by
  refine Ct_of (by decide +kernel) (lv := fun ad zz => [(0, .int a1), (1, .int a2)]) (fun _ _ => rfl) (fun _ _ => Nat.le_of_ble_eq_true rfl) (fun p l e s m args below meth c D T ad zz C hr hlk => ?_)
  rw [F_X10_contains] at hF
  refine V_iload_n C 0 dX10_contains_0 rfl ?_
  refine V_iload_n C 1 dX10_contains_1 rfl ?_
  refine V_ishr C dX10_contains_2 ?_
  refine V_iconst C dX10_contains_3 (v := (1 : Int32)) (by decide) ?_
  refine V_iand C dX10_contains_4 ?_
  refine V_iconst C dX10_contains_5 (v := (1 : Int32)) (by decide) ?_
  refine V_icmp_ne C 13 dX10_contains_6 (by decide) hF (fun hF => ?_) (fun hF => ?_)
  · refine V_iconst C dX10_contains_13 (v := (0 : Int32)) (by decide) ?_
    cases hF
    exact V_zret C hr hlk (Or.inl rfl) rfl rfl dX10_contains_14
  · refine V_iconst C dX10_contains_9 (v := (1 : Int32)) (by decide) ?_
    refine V_goto C 14 dX10_contains_10 (by decide) ?_
    cases hF
    exact V_zret C hr hlk (Or.inr rfl) rfl rfl dX10_contains_14

def F_X7_horseOf (k0 : Nat) (a1 : Int32) (σ : Mem) : Option Int32 :=
  if a1 < 0 then
    some (-9 : Int32)
  else
    if (nI (alen (15 + k0))) ≤ a1 then
      some (-9 : Int32)
    else
      Option.bind (rdA σ (15 + k0) a1) fun v1 =>
      some v1
set_option maxHeartbeats 4000000 in
set_option maxRecDepth 20000 in
theorem ct_X7_horseOf {k0 : Nat} {a1 : Int32} {σ : Mem} {r : Int32} (hk0 : k0 < 21) (hF : F_X7_horseOf k0 a1 σ = some r) : Ct yX7_horseOf cX7_horseOf 2 (some .int) 0 0 (fun ad zz => [.ref (ad (97 + k0)), .int a1]) σ (fun ad => (some (.int r))) σ := by
  refine Ct_of (by decide +kernel) (lv := fun ad zz => [(0, .ref (ad (97 + k0))), (1, .int a1)]) (fun _ _ => rfl) (fun _ _ => Nat.le_of_ble_eq_true rfl) (fun p l e s m args below meth c D T ad zz C hr hlk => ?_)
  rw [F_X7_horseOf] at hF
  refine V_iload_n C 1 dX7_horseOf_0 rfl ?_
  refine V_if_lt C 22 dX7_horseOf_1 (by decide) hF (fun hF => ?_) (fun hF => ?_)
  · refine V_bipush C dX7_horseOf_22 (v := (-9 : Int32)) (by decide) ?_
    cases hF
    exact V_iret C hr hlk rfl rfl dX7_horseOf_24
  · refine V_iload_n C 1 dX7_horseOf_4 rfl ?_
    refine V_aload_n C 0 dX7_horseOf_5 rfl ?_
    refine gf_X7_9 C hk0 dX7_horseOf_6 ?_
    refine V_alen C (by omega) dX7_horseOf_9 ?_
    refine V_icmp_ge C 22 dX7_horseOf_10 (by decide) hF (fun hF => ?_) (fun hF => ?_)
    · refine V_bipush C dX7_horseOf_22 (v := (-9 : Int32)) (by decide) ?_
      cases hF
      exact V_iret C hr hlk rfl rfl dX7_horseOf_24
    · refine V_aload_n C 0 dX7_horseOf_13 rfl ?_
      refine gf_X7_9 C hk0 dX7_horseOf_14 ?_
      refine V_iload_n C 1 dX7_horseOf_17 rfl ?_
      obtain ⟨v1, hv1, hF⟩ := bnd hF
      refine V_iald C (by omega) hv1 dX7_horseOf_18 ?_
      refine V_goto C 24 dX7_horseOf_19 (by decide) ?_
      cases hF
      exact V_iret C hr hlk rfl rfl dX7_horseOf_24

def F_X4_leastToLead_b2 (σ : Mem) : Nat → Int32 → Int32 → Option Int32
  | 0, _, _ => none
  | n + 1, x1, x2 =>
    if (σ.1 2) ≤ x2 then
      some (-9 : Int32)
    else
      Option.bind (F_X10_contains x1 x2 σ) fun q1 =>
      if q1 = 0 then
        (F_X4_leastToLead_b2 σ n) x1 (x2 + 1)
      else
        Option.bind (F_X7_horseOf 17 x2 σ) fun q2 =>
        if q2 = (-9 : Int32) then
          Option.bind (F_X10_at 13 x2 σ) fun q3 =>
          if (σ.1 1) ≤ q3 then
            (F_X4_leastToLead_b2 σ n) x1 (x2 + 1)
          else
            some x2
        else
          (F_X4_leastToLead_b2 σ n) x1 (x2 + 1)
def F_X4_leastToLead (a1 : Int32) (σ : Mem) : Option Int32 :=
  F_X4_leastToLead_b2 σ 4000 a1 (0 : Int32)
set_option maxHeartbeats 4000000 in
set_option maxRecDepth 20000 in
theorem w_X4_leastToLead_b2 {p : Program} {l : Launch} {e : Env} {s : State} {m : MethodId} {args : Array Value} {below : List Frame} {meth : Method} {c : Code} {D : va_G} {T : Nat → ClassId} {ad zz : Nat → Nat} (C : Cx p s m c cX4_leastToLead 3 RX4 (fA ad) D T ad zz) (hr : meth.sig.returnType = (some .int)) (hlk : meth.locks = false) {σ : Mem} {r : Int32}  : ∀ (n : Nat), ∀ (x1 : Int32) (x2 : Int32), F_X4_leastToLead_b2 σ n x1 x2 = some r → V p l e { frames := 1, cells := 0, slots := 0, locals := 21 } s m args below meth c 0 0 (MQ below (qC (some (.int r)) σ D T ad) args s 0 0 (fA ad)) 3 (fA ad) D T ad σ 2 [(0, .ref (ad 6)), (1, .int x1), (2, .int x2)] [] := by
  intro n
  induction n with
  | zero =>
    intro x1 x2 hF
    cases (show (none : Option Int32) = some r from hF)
  | succ n ih =>
    intro x1 x2 hF
    rw [F_X4_leastToLead_b2] at hF
    refine V_iload_n C 2 dX4_leastToLead_2 rfl ?_
    refine V_aload_n C 0 dX4_leastToLead_3 rfl ?_
    refine gf_X4_25 C dX4_leastToLead_4 ?_
    refine gf_X4_64 C dX4_leastToLead_7 ?_
    refine V_icmp_ge C 60 dX4_leastToLead_10 (by decide) hF (fun hF => ?_) (fun hF => ?_)
    · refine V_bipush C dX4_leastToLead_60 (v := (-9 : Int32)) (by decide) ?_
      cases hF
      exact V_iret C hr hlk rfl rfl dX4_leastToLead_62
    · refine V_iload_n C 1 dX4_leastToLead_13 rfl ?_
      refine V_iload_n C 2 dX4_leastToLead_14 rfl ?_
      obtain ⟨q1, hq1, hF⟩ := bnd hF
      refine cs_X4_68 C (ct_X10_contains hq1) rfl ⟨by decide, by decide⟩ (Nat.le_of_ble_eq_true rfl) dX4_leastToLead_15 ⟨Nat.le_refl 0, Nat.le_refl 0⟩ ?_
      refine V_if_eq C 54 dX4_leastToLead_18 (by decide) hF (fun hF => ?_) (fun hF => ?_)
      · refine V_iinc C (v := (x2 + 1)) (lv' := [(2, .int (x2 + 1)), (0, .ref (ad 6)), (1, .int x1)]) 2 dX4_leastToLead_54 rfl rfl (by decide) rfl ?_
        refine V_goto C 2 dX4_leastToLead_57 (by decide) ?_
        refine V_lv (ks := [1, 2, 0]) rfl ?_
        exact ih x1 (x2 + 1) hF
      · refine V_aload_n C 0 dX4_leastToLead_21 rfl ?_
        refine gf_X4_12 C dX4_leastToLead_22 ?_
        refine V_iload_n C 2 dX4_leastToLead_25 rfl ?_
        obtain ⟨q2, hq2, hF⟩ := bnd hF
        refine cs_X4_72 C (by decide) (ct_X7_horseOf (by decide) hq2) rfl ⟨by decide, by decide⟩ (Nat.le_of_ble_eq_true rfl) dX4_leastToLead_26 ⟨Nat.le_refl 0, Nat.le_refl 0⟩ ?_
        refine V_bipush C dX4_leastToLead_29 (v := (-9 : Int32)) (by decide) ?_
        refine V_icmp_ne C 54 dX4_leastToLead_31 (by decide) hF (fun hF => ?_) (fun hF => ?_)
        · refine V_iinc C (v := (x2 + 1)) (lv' := [(2, .int (x2 + 1)), (0, .ref (ad 6)), (1, .int x1)]) 2 dX4_leastToLead_54 rfl rfl (by decide) rfl ?_
          refine V_goto C 2 dX4_leastToLead_57 (by decide) ?_
          refine V_lv (ks := [1, 2, 0]) rfl ?_
          exact ih x1 (x2 + 1) hF
        · refine V_aload_n C 0 dX4_leastToLead_34 rfl ?_
          refine gf_X4_18 C dX4_leastToLead_35 ?_
          refine V_iload_n C 2 dX4_leastToLead_38 rfl ?_
          obtain ⟨q3, hq3, hF⟩ := bnd hF
          refine cs_X4_46 C (ct_X10_at (by decide) hq3) rfl ⟨by decide, by decide⟩ (Nat.le_of_ble_eq_true rfl) dX4_leastToLead_39 ⟨Nat.le_refl 0, Nat.le_refl 0⟩ ?_
          refine V_aload_n C 0 dX4_leastToLead_42 rfl ?_
          refine gf_X4_25 C dX4_leastToLead_43 ?_
          refine gf_X4_75 C dX4_leastToLead_46 ?_
          refine V_icmp_ge C 54 dX4_leastToLead_49 (by decide) hF (fun hF => ?_) (fun hF => ?_)
          · refine V_iinc C (v := (x2 + 1)) (lv' := [(2, .int (x2 + 1)), (0, .ref (ad 6)), (1, .int x1)]) 2 dX4_leastToLead_54 rfl rfl (by decide) rfl ?_
            refine V_goto C 2 dX4_leastToLead_57 (by decide) ?_
            refine V_lv (ks := [1, 2, 0]) rfl ?_
            exact ih x1 (x2 + 1) hF
          · refine V_iload_n C 2 dX4_leastToLead_52 rfl ?_
            cases hF
            exact V_iret C hr hlk rfl rfl dX4_leastToLead_53
set_option maxHeartbeats 4000000 in
set_option maxRecDepth 20000 in
theorem ct_X4_leastToLead {a1 : Int32} {σ : Mem} {r : Int32} (hF : F_X4_leastToLead a1 σ = some r) : Ct yX4_leastToLead cX4_leastToLead 3 (some .int) 1 21 (fun ad zz => [.ref (ad 6), .int a1]) σ (fun ad => (some (.int r))) σ := by
  refine Ct_of (by decide +kernel) (lv := fun ad zz => [(0, .ref (ad 6)), (1, .int a1)]) (fun _ _ => rfl) (fun _ _ => Nat.le_of_ble_eq_true rfl) (fun p l e s m args below meth c D T ad zz C hr hlk => ?_)
  rw [F_X4_leastToLead] at hF
  refine V_iconst C dX4_leastToLead_0 (v := (0 : Int32)) (by decide) ?_
  refine V_istore_n C (lv' := [(2, .int (0 : Int32)), (0, .ref (ad 6)), (1, .int a1)]) dX4_leastToLead_1 rfl (by decide) rfl ?_
  refine V_lv (ks := [1, 2, 0]) rfl ?_
  exact w_X4_leastToLead_b2 C hr hlk 4000 a1 (0 : Int32) hF

def F_X9_of (a1 : Int32) (a2 : Int32) (σ : Mem) : Option Int32 :=
  Option.bind (F_X10_at 12 (((5 : Int32) * a1) + a2) σ) fun q1 =>
  some q1
set_option maxHeartbeats 4000000 in
set_option maxRecDepth 20000 in
theorem ct_X9_of {a1 : Int32} {a2 : Int32} {σ : Mem} {r : Int32} (hF : F_X9_of a1 a2 σ = some r) : Ct yX9_of cX9_of 3 (some .int) 1 21 (fun ad zz => [.ref (ad 5), .int a1, .int a2]) σ (fun ad => (some (.int r))) σ := by
  refine Ct_of (by decide +kernel) (lv := fun ad zz => [(0, .ref (ad 5)), (1, .int a1), (2, .int a2)]) (fun _ _ => rfl) (fun _ _ => Nat.le_of_ble_eq_true rfl) (fun p l e s m args below meth c D T ad zz C hr hlk => ?_)
  rw [F_X9_of] at hF
  refine V_aload_n C 0 dX9_of_0 rfl ?_
  refine gf_X9_9 C dX9_of_1 ?_
  refine V_iconst C dX9_of_4 (v := (5 : Int32)) (by decide) ?_
  refine V_iload_n C 1 dX9_of_5 rfl ?_
  refine V_imul C dX9_of_6 ?_
  refine V_iload_n C 2 dX9_of_7 rfl ?_
  refine V_iadd C dX9_of_8 ?_
  obtain ⟨q1, hq1, hF⟩ := bnd hF
  refine cs_X9_28 C (ct_X10_at (by decide) hq1) rfl ⟨by decide, by decide⟩ (Nat.le_of_ble_eq_true rfl) dX9_of_9 ⟨Nat.le_refl 0, Nat.le_refl 0⟩ ?_
  cases hF
  exact V_iret C hr hlk rfl rfl dX9_of_12

def F_X9_enough (a1 : Int32) (a2 : Int32) (σ : Mem) : Option Int32 :=
  Option.bind (F_X9_of a1 a2 σ) fun q1 =>
  Option.bind (F_X10_at 5 a1 σ) fun q2 =>
  if q1 < q2 then
    some (0 : Int32)
  else
    some (1 : Int32)
set_option maxHeartbeats 4000000 in
set_option maxRecDepth 20000 in
theorem ct_X9_enough {a1 : Int32} {a2 : Int32} {σ : Mem} {r : Int32} (hF : F_X9_enough a1 a2 σ = some r) : Ct yX9_enough cX9_enough 3 (some .boolean) 2 43 (fun ad zz => [.ref (ad 5), .int a1, .int a2]) σ (fun ad => (some (.int r))) σ := by
  refine Ct_of (by decide +kernel) (lv := fun ad zz => [(0, .ref (ad 5)), (1, .int a1), (2, .int a2)]) (fun _ _ => rfl) (fun _ _ => Nat.le_of_ble_eq_true rfl) (fun p l e s m args below meth c D T ad zz C hr hlk => ?_)
  rw [F_X9_enough] at hF
  refine V_aload_n C 0 dX9_enough_0 rfl ?_
  refine V_iload_n C 1 dX9_enough_1 rfl ?_
  refine V_iload_n C 2 dX9_enough_2 rfl ?_
  obtain ⟨q1, hq1, hF⟩ := bnd hF
  refine cs_X9_51 C (ct_X9_of hq1) rfl ⟨by decide, by decide⟩ (Nat.le_of_ble_eq_true rfl) dX9_enough_3 ⟨Nat.le_refl 0, Nat.le_refl 0⟩ ?_
  refine V_aload_n C 0 dX9_enough_6 rfl ?_
  refine gf_X9_15 C dX9_enough_7 ?_
  refine gf_X9_55 C dX9_enough_10 ?_
  refine V_iload_n C 1 dX9_enough_13 rfl ?_
  obtain ⟨q2, hq2, hF⟩ := bnd hF
  refine cs_X9_28 C (ct_X10_at (by decide) hq2) rfl ⟨by decide, by decide⟩ (Nat.le_of_ble_eq_true rfl) dX9_enough_14 ⟨Nat.le_refl 0, Nat.le_refl 0⟩ ?_
  refine V_icmp_lt C 24 dX9_enough_17 (by decide) hF (fun hF => ?_) (fun hF => ?_)
  · refine V_iconst C dX9_enough_24 (v := (0 : Int32)) (by decide) ?_
    cases hF
    exact V_zret C hr hlk (Or.inl rfl) rfl rfl dX9_enough_25
  · refine V_iconst C dX9_enough_20 (v := (1 : Int32)) (by decide) ?_
    refine V_goto C 25 dX9_enough_21 (by decide) ?_
    cases hF
    exact V_zret C hr hlk (Or.inr rfl) rfl rfl dX9_enough_25

def F_X7_keptBits_b4 (k0 : Nat) (σ : Mem) : Nat → Int32 → Int32 → Int32 → Option Int32
  | 0, _, _, _ => none
  | n + 1, x1, x2, x3 =>
    if (nI (alen (15 + k0))) ≤ x3 then
      some x2
    else
      Option.bind (rdA σ (15 + k0) x3) fun v1 =>
      if v1 = x1 then
        (F_X7_keptBits_b4 k0 σ n) x1 (x2 ||| ((1 : Int32) <<< (x3 &&& 31))) (x3 + 1)
      else
        (F_X7_keptBits_b4 k0 σ n) x1 x2 (x3 + 1)
def F_X7_keptBits (k0 : Nat) (a1 : Int32) (σ : Mem) : Option Int32 :=
  F_X7_keptBits_b4 k0 σ 4000 a1 (0 : Int32) (0 : Int32)
set_option maxHeartbeats 4000000 in
set_option maxRecDepth 20000 in
theorem w_X7_keptBits_b4 {p : Program} {l : Launch} {e : Env} {s : State} {m : MethodId} {args : Array Value} {below : List Frame} {meth : Method} {c : Code} {D : va_G} {T : Nat → ClassId} {ad zz : Nat → Nat} (C : Cx p s m c cX7_keptBits 4 RX7 (fA ad) D T ad zz) (hr : meth.sig.returnType = (some .int)) (hlk : meth.locks = false) {k0 : Nat} {σ : Mem} (hk0 : k0 < 21) {r : Int32}  : ∀ (n : Nat), ∀ (x1 : Int32) (x2 : Int32) (x3 : Int32), F_X7_keptBits_b4 k0 σ n x1 x2 x3 = some r → V p l e { frames := 0, cells := 0, slots := 0, locals := 0 } s m args below meth c 0 0 (MQ below (qC (some (.int r)) σ D T ad) args s 0 0 (fA ad)) 4 (fA ad) D T ad σ 4 [(0, .ref (ad (97 + k0))), (1, .int x1), (2, .int x2), (3, .int x3)] [] := by
  intro n
  induction n with
  | zero =>
    intro x1 x2 x3 hF
    cases (show (none : Option Int32) = some r from hF)
  | succ n ih =>
    intro x1 x2 x3 hF
    rw [F_X7_keptBits_b4] at hF
    refine V_iload_n C 3 dX7_keptBits_4 rfl ?_
    refine V_aload_n C 0 dX7_keptBits_5 rfl ?_
    refine gf_X7_9 C hk0 dX7_keptBits_6 ?_
    refine V_alen C (by omega) dX7_keptBits_9 ?_
    refine V_icmp_ge C 35 dX7_keptBits_10 (by decide) hF (fun hF => ?_) (fun hF => ?_)
    · refine V_iload_n C 2 dX7_keptBits_35 rfl ?_
      cases hF
      exact V_iret C hr hlk rfl rfl dX7_keptBits_36
    · refine V_aload_n C 0 dX7_keptBits_13 rfl ?_
      refine gf_X7_9 C hk0 dX7_keptBits_14 ?_
      refine V_iload_n C 3 dX7_keptBits_17 rfl ?_
      obtain ⟨v1, hv1, hF⟩ := bnd hF
      refine V_iald C (by omega) hv1 dX7_keptBits_18 ?_
      refine V_iload_n C 1 dX7_keptBits_19 rfl ?_
      refine V_icmp_ne C 29 dX7_keptBits_20 (by decide) hF (fun hF => ?_) (fun hF => ?_)
      · refine V_iinc C (v := (x3 + 1)) (lv' := [(3, .int (x3 + 1)), (0, .ref (ad (97 + k0))), (1, .int x1), (2, .int x2)]) 3 dX7_keptBits_29 rfl rfl (by decide) rfl ?_
        refine V_goto C 4 dX7_keptBits_32 (by decide) ?_
        refine V_lv (ks := [1, 2, 3, 0]) rfl ?_
        exact ih x1 x2 (x3 + 1) hF
      · refine V_iload_n C 2 dX7_keptBits_23 rfl ?_
        refine V_iconst C dX7_keptBits_24 (v := (1 : Int32)) (by decide) ?_
        refine V_iload_n C 3 dX7_keptBits_25 rfl ?_
        refine V_ishl C dX7_keptBits_26 ?_
        refine V_ior C dX7_keptBits_27 ?_
        refine V_istore_n C (lv' := [(2, .int (x2 ||| ((1 : Int32) <<< (x3 &&& 31)))), (0, .ref (ad (97 + k0))), (1, .int x1), (3, .int x3)]) dX7_keptBits_28 rfl (by decide) rfl ?_
        refine V_iinc C (v := (x3 + 1)) (lv' := [(3, .int (x3 + 1)), (2, .int (x2 ||| ((1 : Int32) <<< (x3 &&& 31)))), (0, .ref (ad (97 + k0))), (1, .int x1)]) 3 dX7_keptBits_29 rfl rfl (by decide) rfl ?_
        refine V_goto C 4 dX7_keptBits_32 (by decide) ?_
        refine V_lv (ks := [2, 3, 1, 0]) rfl ?_
        exact ih x1 (x2 ||| ((1 : Int32) <<< (x3 &&& 31))) (x3 + 1) hF
set_option maxHeartbeats 4000000 in
set_option maxRecDepth 20000 in
theorem ct_X7_keptBits {k0 : Nat} {a1 : Int32} {σ : Mem} {r : Int32} (hk0 : k0 < 21) (hF : F_X7_keptBits k0 a1 σ = some r) : Ct yX7_keptBits cX7_keptBits 4 (some .int) 0 0 (fun ad zz => [.ref (ad (97 + k0)), .int a1]) σ (fun ad => (some (.int r))) σ := by
  refine Ct_of (by decide +kernel) (lv := fun ad zz => [(0, .ref (ad (97 + k0))), (1, .int a1)]) (fun _ _ => rfl) (fun _ _ => Nat.le_of_ble_eq_true rfl) (fun p l e s m args below meth c D T ad zz C hr hlk => ?_)
  rw [F_X7_keptBits] at hF
  refine V_iconst C dX7_keptBits_0 (v := (0 : Int32)) (by decide) ?_
  refine V_istore_n C (lv' := [(2, .int (0 : Int32)), (0, .ref (ad (97 + k0))), (1, .int a1)]) dX7_keptBits_1 rfl (by decide) rfl ?_
  refine V_iconst C dX7_keptBits_2 (v := (0 : Int32)) (by decide) ?_
  refine V_istore_n C (lv' := [(3, .int (0 : Int32)), (2, .int (0 : Int32)), (0, .ref (ad (97 + k0))), (1, .int a1)]) dX7_keptBits_3 rfl (by decide) rfl ?_
  refine V_lv (ks := [2, 3, 1, 0]) rfl ?_
  exact w_X7_keptBits_b4 C hr hlk hk0 4000 a1 (0 : Int32) (0 : Int32) hF
