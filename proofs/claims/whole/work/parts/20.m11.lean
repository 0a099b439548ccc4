-- walks: X11_about X11_horse X11_bestOf X11_rider X11_worth X11_note X11_goLead X11_lead X11_dress X11_giveBack X11_bell X11_undo X11_bolts
def F_X11_about (a1 : Int32) (σ : Mem) : Option (Int32 × Mem) :=
  Option.bind (stI σ 20 (0 : Int32)) fun σ1 =>
  if a1 = 0 then
    some ((σ1.1 23), σ1)
  else if a1 = 1 then
    some ((σ1.1 24), σ1)
  else if a1 = 2 then
    Option.bind (F_X11_takenOf 58 σ1) fun q2 =>
    some (q2, σ1)
  else if a1 = 3 then
    Option.bind (rdA σ1 58 (20 : Int32)) fun v3 =>
    some (v3, σ1)
  else if a1 = 4 then
    some ((σ1.1 27), σ1)
  else if a1 = 5 then
    some ((σ1.1 28), σ1)
  else if a1 = 6 then
    some ((σ1.1 21), σ1)
  else if a1 = 7 then
    Option.bind (F_X11_boltsOf 58 σ1) fun q4 =>
    some (q4, σ1)
  else some ((-2 : Int32), σ1)
set_option maxHeartbeats 4000000 in
set_option maxRecDepth 20000 in
theorem ct_X11_about {a1 : Int32} {σ : Mem} {r : (Int32 × Mem)} (hF : F_X11_about a1 σ = some r) : Ct yX11_about cX11_about 2 (some .int) 6 142 (fun ad zz => [.ref (ad 11), .int a1]) σ (fun ad => (some (.int r.1))) r.2 := by
  refine Ct_of (by decide +kernel) (lv := fun ad zz => [(0, .ref (ad 11)), (1, .int a1)]) (fun _ _ => rfl) (fun _ _ => Nat.le_of_ble_eq_true rfl) (fun p l e s m args below meth c D T ad zz C hr hlk => ?_)
  rw [F_X11_about] at hF
  refine V_aload_n C 0 dX11_about_0 rfl ?_
  refine V_iconst C dX11_about_1 (v := (0 : Int32)) (by decide) ?_
  obtain ⟨σ1, hs1, hF⟩ := bnd hF
  refine pf_X11_56 C hs1 dX11_about_2 ?_
  refine V_iload_n C 1 dX11_about_5 rfl ?_
  by_cases hw0 : a1 = 0
  · rw [if_pos hw0] at hF
    refine V_tsIn C (v := 0) (off := 46) 52 hw0 dX11_about_6 (by decide) (by decide) (by decide) (by decide) ?_
    refine V_aload_n C 0 dX11_about_52 rfl ?_
    refine gf_X11_60 C dX11_about_53 ?_
    cases hF
    exact V_iret C hr hlk rfl rfl dX11_about_56
  rw [if_neg hw0] at hF
  by_cases hw1 : a1 = 1
  · rw [if_pos hw1] at hF
    refine V_tsIn C (v := 1) (off := 51) 57 hw1 dX11_about_6 (by decide) (by decide) (by decide) (by decide) ?_
    refine V_aload_n C 0 dX11_about_57 rfl ?_
    refine gf_X11_67 C dX11_about_58 ?_
    cases hF
    exact V_iret C hr hlk rfl rfl dX11_about_61
  rw [if_neg hw1] at hF
  by_cases hw2 : a1 = 2
  · rw [if_pos hw2] at hF
    refine V_tsIn C (v := 2) (off := 56) 62 hw2 dX11_about_6 (by decide) (by decide) (by decide) (by decide) ?_
    refine V_aload_n C 0 dX11_about_62 rfl ?_
    refine V_aload_n C 0 dX11_about_63 rfl ?_
    refine gf_X11_25 C dX11_about_64 ?_
    obtain ⟨q2, hq2, hF⟩ := bnd hF
    refine cs_X11_139 C (ct_X11_takenOf (by decide) hq2) rfl ⟨by decide, by decide⟩ (Nat.le_of_ble_eq_true rfl) dX11_about_67 ⟨Nat.le_refl 0, Nat.le_refl 0⟩ ?_
    cases hF
    exact V_iret C hr hlk rfl rfl dX11_about_70
  rw [if_neg hw2] at hF
  by_cases hw3 : a1 = 3
  · rw [if_pos hw3] at hF
    refine V_tsIn C (v := 3) (off := 65) 71 hw3 dX11_about_6 (by decide) (by decide) (by decide) (by decide) ?_
    refine V_aload_n C 0 dX11_about_71 rfl ?_
    refine gf_X11_25 C dX11_about_72 ?_
    refine V_bipush C dX11_about_75 (v := (20 : Int32)) (by decide) ?_
    obtain ⟨v3, hv3, hF⟩ := bnd hF
    refine V_iald C (by decide) hv3 dX11_about_77 ?_
    cases hF
    exact V_iret C hr hlk rfl rfl dX11_about_78
  rw [if_neg hw3] at hF
  by_cases hw4 : a1 = 4
  · rw [if_pos hw4] at hF
    refine V_tsIn C (v := 4) (off := 73) 79 hw4 dX11_about_6 (by decide) (by decide) (by decide) (by decide) ?_
    refine V_aload_n C 0 dX11_about_79 rfl ?_
    refine gf_X11_100 C dX11_about_80 ?_
    cases hF
    exact V_iret C hr hlk rfl rfl dX11_about_83
  rw [if_neg hw4] at hF
  by_cases hw5 : a1 = 5
  · rw [if_pos hw5] at hF
    refine V_tsIn C (v := 5) (off := 78) 84 hw5 dX11_about_6 (by decide) (by decide) (by decide) (by decide) ?_
    refine V_aload_n C 0 dX11_about_84 rfl ?_
    refine gf_X11_143 C dX11_about_85 ?_
    cases hF
    exact V_iret C hr hlk rfl rfl dX11_about_88
  rw [if_neg hw5] at hF
  by_cases hw6 : a1 = 6
  · rw [if_pos hw6] at hF
    refine V_tsIn C (v := 6) (off := 83) 89 hw6 dX11_about_6 (by decide) (by decide) (by decide) (by decide) ?_
    refine V_aload_n C 0 dX11_about_89 rfl ?_
    refine gf_X11_72 C dX11_about_90 ?_
    cases hF
    exact V_iret C hr hlk rfl rfl dX11_about_93
  rw [if_neg hw6] at hF
  by_cases hw7 : a1 = 7
  · rw [if_pos hw7] at hF
    refine V_tsIn C (v := 7) (off := 88) 94 hw7 dX11_about_6 (by decide) (by decide) (by decide) (by decide) ?_
    refine V_aload_n C 0 dX11_about_94 rfl ?_
    refine V_aload_n C 0 dX11_about_95 rfl ?_
    refine gf_X11_25 C dX11_about_96 ?_
    obtain ⟨q4, hq4, hF⟩ := bnd hF
    refine cs_X11_146 C (ct_X11_boltsOf (by decide) hq4) rfl ⟨by decide, by decide⟩ (Nat.le_of_ble_eq_true rfl) dX11_about_99 ⟨Nat.le_refl 0, Nat.le_refl 0⟩ ?_
    cases hF
    exact V_iret C hr hlk rfl rfl dX11_about_102
  rw [if_neg hw7] at hF
  refine V_tsOut C 103 (by have q0 := lv_neT hw0 (show (0 : Int32).toInt = 0 by decide); have q1 := lv_neT hw1 (show (1 : Int32).toInt = 1 by decide); have q2 := lv_neT hw2 (show (2 : Int32).toInt = 2 by decide); have q3 := lv_neT hw3 (show (3 : Int32).toInt = 3 by decide); have q4 := lv_neT hw4 (show (4 : Int32).toInt = 4 by decide); have q5 := lv_neT hw5 (show (5 : Int32).toInt = 5 by decide); have q6 := lv_neT hw6 (show (6 : Int32).toInt = 6 by decide); have q7 := lv_neT hw7 (show (7 : Int32).toInt = 7 by decide); omega) dX11_about_6 (by decide) ?_
  refine V_bipush C dX11_about_103 (v := (-2 : Int32)) (by decide) ?_
  cases hF
  exact V_iret C hr hlk rfl rfl dX11_about_105

def F_X11_horse (a1 : Int32) (a2 : Int32) (σ : Mem) : Option (Int32 × Mem) :=
  Option.bind (stI σ 20 (0 : Int32)) fun σ1 =>
  Option.bind (F_X11_noHorse a1 σ1) fun q2 =>
  if q2 = 0 then
    if a2 = 0 then
      Option.bind (rdA σ1 54 ((7 : Int32) * a1)) fun v3 =>
      some (v3, σ1)
    else if a2 = 1 then
      Option.bind (rdA σ1 54 (((7 : Int32) * a1) + (1 : Int32))) fun v4 =>
      Option.bind (rdA σ1 54 (((7 : Int32) * a1) + (2 : Int32))) fun v5 =>
      Option.bind (rdA σ1 54 (((7 : Int32) * a1) + (3 : Int32))) fun v6 =>
      some (((((100 : Int32) * v4) + ((10 : Int32) * v5)) + v6), σ1)
    else if a2 = 2 then
      Option.bind (rdA σ1 54 (((7 : Int32) * a1) + (4 : Int32))) fun v7 =>
      some (v7, σ1)
    else if a2 = 3 then
      Option.bind (rdA σ1 54 (((7 : Int32) * a1) + (5 : Int32))) fun v8 =>
      some (v8, σ1)
    else if a2 = 4 then
      Option.bind (rdA σ1 54 (((7 : Int32) * a1) + (6 : Int32))) fun v9 =>
      some (v9, σ1)
    else if a2 = 5 then
      Option.bind (F_X11_keeps 58 a1 σ1) fun q10 =>
      some (q10, σ1)
    else some ((-2 : Int32), σ1)
  else
    some ((-1 : Int32), σ1)
set_option maxHeartbeats 4000000 in
set_option maxRecDepth 20000 in
theorem ct_X11_horse {a1 : Int32} {a2 : Int32} {σ : Mem} {r : (Int32 × Mem)} (hF : F_X11_horse a1 a2 σ = some r) : Ct yX11_horse cX11_horse 4 (some .int) 2 46 (fun ad zz => [.ref (ad 11), .int a1, .int a2]) σ (fun ad => (some (.int r.1))) r.2 := by
  refine Ct_of (by decide +kernel) (lv := fun ad zz => [(0, .ref (ad 11)), (1, .int a1), (2, .int a2)]) (fun _ _ => rfl) (fun _ _ => Nat.le_of_ble_eq_true rfl) (fun p l e s m args below meth c D T ad zz C hr hlk => ?_)
  rw [F_X11_horse] at hF
  refine V_aload_n C 0 dX11_horse_0 rfl ?_
  refine V_iconst C dX11_horse_1 (v := (0 : Int32)) (by decide) ?_
  obtain ⟨σ1, hs1, hF⟩ := bnd hF
  refine pf_X11_56 C hs1 dX11_horse_2 ?_
  refine V_aload_n C 0 dX11_horse_5 rfl ?_
  refine V_iload_n C 1 dX11_horse_6 rfl ?_
  obtain ⟨q2, hq2, hF⟩ := bnd hF
  refine cs_X11_149 C (ct_X11_noHorse hq2) rfl ⟨by decide, by decide⟩ (Nat.le_of_ble_eq_true rfl) dX11_horse_7 ⟨Nat.le_refl 0, Nat.le_refl 0⟩ ?_
  refine V_if_eq C 15 dX11_horse_10 (by decide) hF (fun hF => ?_) (fun hF => ?_)
  · refine V_bipush C dX11_horse_15 (v := (7 : Int32)) (by decide) ?_
    refine V_iload_n C 1 dX11_horse_17 rfl ?_
    refine V_imul C dX11_horse_18 ?_
    refine V_istore_n C (lv' := [(3, .int ((7 : Int32) * a1)), (0, .ref (ad 11)), (1, .int a1), (2, .int a2)]) dX11_horse_19 rfl (by decide) rfl ?_
    refine V_iload_n C 3 dX11_horse_20 rfl ?_
    by_cases hw0 : a2 = 0
    · rw [if_pos hw0] at hF
      refine V_tsIn C (v := 0) (off := 39) 60 hw0 dX11_horse_21 (by decide) (by decide) (by decide) (by decide) ?_
      refine V_aload_n C 1 dX11_horse_60 rfl ?_
      refine gf_X11_13 C dX11_horse_61 ?_
      refine V_iload_n C 0 dX11_horse_64 rfl ?_
      obtain ⟨v3, hv3, hF⟩ := bnd hF
      refine V_iald C (by decide) hv3 dX11_horse_65 ?_
      cases hF
      exact V_iret C hr hlk rfl rfl dX11_horse_66
    rw [if_neg hw0] at hF
    by_cases hw1 : a2 = 1
    · rw [if_pos hw1] at hF
      refine V_tsIn C (v := 1) (off := 46) 67 hw1 dX11_horse_21 (by decide) (by decide) (by decide) (by decide) ?_
      refine V_bipush C dX11_horse_67 (v := (100 : Int32)) (by decide) ?_
      refine V_aload_n C 1 dX11_horse_69 rfl ?_
      refine gf_X11_13 C dX11_horse_70 ?_
      refine V_iload_n C 0 dX11_horse_73 rfl ?_
      refine V_iconst C dX11_horse_74 (v := (1 : Int32)) (by decide) ?_
      refine V_iadd C dX11_horse_75 ?_
      obtain ⟨v4, hv4, hF⟩ := bnd hF
      refine V_iald C (by decide) hv4 dX11_horse_76 ?_
      refine V_imul C dX11_horse_77 ?_
      refine V_bipush C dX11_horse_78 (v := (10 : Int32)) (by decide) ?_
      refine V_aload_n C 1 dX11_horse_80 rfl ?_
      refine gf_X11_13 C dX11_horse_81 ?_
      refine V_iload_n C 0 dX11_horse_84 rfl ?_
      refine V_iconst C dX11_horse_85 (v := (2 : Int32)) (by decide) ?_
      refine V_iadd C dX11_horse_86 ?_
      obtain ⟨v5, hv5, hF⟩ := bnd hF
      refine V_iald C (by decide) hv5 dX11_horse_87 ?_
      refine V_imul C dX11_horse_88 ?_
      refine V_iadd C dX11_horse_89 ?_
      refine V_aload_n C 1 dX11_horse_90 rfl ?_
      refine gf_X11_13 C dX11_horse_91 ?_
      refine V_iload_n C 0 dX11_horse_94 rfl ?_
      refine V_iconst C dX11_horse_95 (v := (3 : Int32)) (by decide) ?_
      refine V_iadd C dX11_horse_96 ?_
      obtain ⟨v6, hv6, hF⟩ := bnd hF
      refine V_iald C (by decide) hv6 dX11_horse_97 ?_
      refine V_iadd C dX11_horse_98 ?_
      cases hF
      exact V_iret C hr hlk rfl rfl dX11_horse_99
    rw [if_neg hw1] at hF
    by_cases hw2 : a2 = 2
    · rw [if_pos hw2] at hF
      refine V_tsIn C (v := 2) (off := 79) 100 hw2 dX11_horse_21 (by decide) (by decide) (by decide) (by decide) ?_
      refine V_aload_n C 1 dX11_horse_100 rfl ?_
      refine gf_X11_13 C dX11_horse_101 ?_
      refine V_iload_n C 0 dX11_horse_104 rfl ?_
      refine V_iconst C dX11_horse_105 (v := (4 : Int32)) (by decide) ?_
      refine V_iadd C dX11_horse_106 ?_
      obtain ⟨v7, hv7, hF⟩ := bnd hF
      refine V_iald C (by decide) hv7 dX11_horse_107 ?_
      cases hF
      exact V_iret C hr hlk rfl rfl dX11_horse_108
    rw [if_neg hw2] at hF
    by_cases hw3 : a2 = 3
    · rw [if_pos hw3] at hF
      refine V_tsIn C (v := 3) (off := 88) 109 hw3 dX11_horse_21 (by decide) (by decide) (by decide) (by decide) ?_
      refine V_aload_n C 1 dX11_horse_109 rfl ?_
      refine gf_X11_13 C dX11_horse_110 ?_
      refine V_iload_n C 0 dX11_horse_113 rfl ?_
      refine V_iconst C dX11_horse_114 (v := (5 : Int32)) (by decide) ?_
      refine V_iadd C dX11_horse_115 ?_
      obtain ⟨v8, hv8, hF⟩ := bnd hF
      refine V_iald C (by decide) hv8 dX11_horse_116 ?_
      cases hF
      exact V_iret C hr hlk rfl rfl dX11_horse_117
    rw [if_neg hw3] at hF
    by_cases hw4 : a2 = 4
    · rw [if_pos hw4] at hF
      refine V_tsIn C (v := 4) (off := 97) 118 hw4 dX11_horse_21 (by decide) (by decide) (by decide) (by decide) ?_
      refine V_aload_n C 1 dX11_horse_118 rfl ?_
      refine gf_X11_13 C dX11_horse_119 ?_
      refine V_iload_n C 0 dX11_horse_122 rfl ?_
      refine V_bipush C dX11_horse_123 (v := (6 : Int32)) (by decide) ?_
      refine V_iadd C dX11_horse_125 ?_
      obtain ⟨v9, hv9, hF⟩ := bnd hF
      refine V_iald C (by decide) hv9 dX11_horse_126 ?_
      cases hF
      exact V_iret C hr hlk rfl rfl dX11_horse_127
    rw [if_neg hw4] at hF
    by_cases hw5 : a2 = 5
    · rw [if_pos hw5] at hF
      refine V_tsIn C (v := 5) (off := 107) 128 hw5 dX11_horse_21 (by decide) (by decide) (by decide) (by decide) ?_
      refine V_aload_n C 1 dX11_horse_128 rfl ?_
      refine V_aload_n C 1 dX11_horse_129 rfl ?_
      refine gf_X11_25 C dX11_horse_130 ?_
      refine V_iload_n C 2 dX11_horse_133 rfl ?_
      obtain ⟨q10, hq10, hF⟩ := bnd hF
      refine cs_X11_109 C (ct_X11_keeps (by decide) hq10) rfl ⟨by decide, by decide⟩ (Nat.le_of_ble_eq_true rfl) dX11_horse_134 ⟨Nat.le_refl 0, Nat.le_refl 0⟩ ?_
      cases hF
      exact V_iret C hr hlk rfl rfl dX11_horse_137
    rw [if_neg hw5] at hF
    refine V_tsOut C 138 (by have q0 := lv_neT hw0 (show (0 : Int32).toInt = 0 by decide); have q1 := lv_neT hw1 (show (1 : Int32).toInt = 1 by decide); have q2 := lv_neT hw2 (show (2 : Int32).toInt = 2 by decide); have q3 := lv_neT hw3 (show (3 : Int32).toInt = 3 by decide); have q4 := lv_neT hw4 (show (4 : Int32).toInt = 4 by decide); have q5 := lv_neT hw5 (show (5 : Int32).toInt = 5 by decide); omega) dX11_horse_21 (by decide) ?_
    refine V_bipush C dX11_horse_138 (v := (-2 : Int32)) (by decide) ?_
    cases hF
    exact V_iret C hr hlk rfl rfl dX11_horse_140
  · refine V_iconst C dX11_horse_13 (v := (-1 : Int32)) (by decide) ?_
    cases hF
    exact V_iret C hr hlk rfl rfl dX11_horse_14

def F_X11_bestOf_b5 (σ : Mem) : Nat → Int32 → Int32 → Int32 → Option Int32
  | 0, _, _, _ => none
  | n + 1, x1, x2, x3 =>
    if (σ.1 23) ≤ x3 then
      some x2
    else
      Option.bind (F_X11_likesHorse x1 x3 x2 σ) fun q1 =>
      if q1 = 0 then
        (F_X11_bestOf_b5 σ n) x1 x2 (x3 + 1)
      else
        (F_X11_bestOf_b5 σ n) x1 x3 (x3 + 1)
def F_X11_bestOf (a1 : Int32) (σ : Mem) : Option Int32 :=
  F_X11_bestOf_b5 σ 4000 a1 (-9 : Int32) (0 : Int32)
set_option maxHeartbeats 4000000 in
set_option maxRecDepth 20000 in
theorem w_X11_bestOf_b5 {p : Program} {l : Launch} {e : Env} {s : State} {m : MethodId} {args : Array Value} {below : List Frame} {meth : Method} {c : Code} {D : va_G} {T : Nat → ClassId} {ad zz : Nat → Nat} (C : Cx p s m c cX11_bestOf 4 RX11 (fA ad) D T ad zz) (hr : meth.sig.returnType = (some .int)) (hlk : meth.locks = false) {σ : Mem} {r : Int32}  : ∀ (n : Nat), ∀ (x1 : Int32) (x2 : Int32) (x3 : Int32), F_X11_bestOf_b5 σ n x1 x2 x3 = some r → V p l e { frames := 1, cells := 0, slots := 0, locals := 26 } s m args below meth c 0 0 (MQ below (qC (some (.int r)) σ D T ad) args s 0 0 (fA ad)) 4 (fA ad) D T ad σ 5 [(0, .ref (ad 11)), (1, .int x1), (2, .int x2), (3, .int x3)] [] := by
  intro n
  induction n with
  | zero =>
    intro x1 x2 x3 hF
    cases (show (none : Option Int32) = some r from hF)
  | succ n ih =>
    intro x1 x2 x3 hF
    rw [F_X11_bestOf_b5] at hF
    refine V_iload_n C 3 dX11_bestOf_5 rfl ?_
    refine V_aload_n C 0 dX11_bestOf_6 rfl ?_
    refine gf_X11_60 C dX11_bestOf_7 ?_
    refine V_icmp_ge C 35 dX11_bestOf_10 (by decide) hF (fun hF => ?_) (fun hF => ?_)
    · refine V_iload_n C 2 dX11_bestOf_35 rfl ?_
      cases hF
      exact V_iret C hr hlk rfl rfl dX11_bestOf_36
    · refine V_aload_n C 0 dX11_bestOf_13 rfl ?_
      refine V_iload_n C 1 dX11_bestOf_14 rfl ?_
      refine V_iload_n C 3 dX11_bestOf_15 rfl ?_
      refine V_iload_n C 2 dX11_bestOf_16 rfl ?_
      obtain ⟨q1, hq1, hF⟩ := bnd hF
      refine cs_X11_125 C (ct_X11_likesHorse hq1) rfl ⟨by decide, by decide⟩ (Nat.le_of_ble_eq_true rfl) dX11_bestOf_17 ⟨Nat.le_refl 0, Nat.le_refl 0⟩ ?_
      refine V_if_eq C 27 dX11_bestOf_20 (by decide) hF (fun hF => ?_) (fun hF => ?_)
      · refine V_iload_n C 2 dX11_bestOf_27 rfl ?_
        refine V_istore_n C (lv' := [(2, .int x2), (0, .ref (ad 11)), (1, .int x1), (3, .int x3)]) dX11_bestOf_28 rfl (by decide) rfl ?_
        refine V_iinc C (v := (x3 + 1)) (lv' := [(3, .int (x3 + 1)), (2, .int x2), (0, .ref (ad 11)), (1, .int x1)]) 3 dX11_bestOf_29 rfl rfl (by decide) rfl ?_
        refine V_goto C 5 dX11_bestOf_32 (by decide) ?_
        refine V_lv (ks := [2, 3, 1, 0]) rfl ?_
        exact ih x1 x2 (x3 + 1) hF
      · refine V_iload_n C 3 dX11_bestOf_23 rfl ?_
        refine V_goto C 28 dX11_bestOf_24 (by decide) ?_
        refine V_istore_n C (lv' := [(2, .int x3), (0, .ref (ad 11)), (1, .int x1), (3, .int x3)]) dX11_bestOf_28 rfl (by decide) rfl ?_
        refine V_iinc C (v := (x3 + 1)) (lv' := [(3, .int (x3 + 1)), (2, .int x3), (0, .ref (ad 11)), (1, .int x1)]) 3 dX11_bestOf_29 rfl rfl (by decide) rfl ?_
        refine V_goto C 5 dX11_bestOf_32 (by decide) ?_
        refine V_lv (ks := [2, 3, 1, 0]) rfl ?_
        exact ih x1 x3 (x3 + 1) hF
set_option maxHeartbeats 4000000 in
set_option maxRecDepth 20000 in
theorem ct_X11_bestOf {a1 : Int32} {σ : Mem} {r : Int32} (hF : F_X11_bestOf a1 σ = some r) : Ct yX11_bestOf cX11_bestOf 4 (some .int) 1 26 (fun ad zz => [.ref (ad 11), .int a1]) σ (fun ad => (some (.int r))) σ := by
  refine Ct_of (by decide +kernel) (lv := fun ad zz => [(0, .ref (ad 11)), (1, .int a1)]) (fun _ _ => rfl) (fun _ _ => Nat.le_of_ble_eq_true rfl) (fun p l e s m args below meth c D T ad zz C hr hlk => ?_)
  rw [F_X11_bestOf] at hF
  refine V_bipush C dX11_bestOf_0 (v := (-9 : Int32)) (by decide) ?_
  refine V_istore_n C (lv' := [(2, .int (-9 : Int32)), (0, .ref (ad 11)), (1, .int a1)]) dX11_bestOf_2 rfl (by decide) rfl ?_
  refine V_iconst C dX11_bestOf_3 (v := (0 : Int32)) (by decide) ?_
  refine V_istore_n C (lv' := [(3, .int (0 : Int32)), (2, .int (-9 : Int32)), (0, .ref (ad 11)), (1, .int a1)]) dX11_bestOf_4 rfl (by decide) rfl ?_
  refine V_lv (ks := [2, 3, 1, 0]) rfl ?_
  exact w_X11_bestOf_b5 C hr hlk 4000 a1 (-9 : Int32) (0 : Int32) hF

def F_X11_rider (a1 : Int32) (a2 : Int32) (σ : Mem) : Option (Int32 × Mem) :=
  Option.bind (stI σ 20 (0 : Int32)) fun σ1 =>
  Option.bind (F_X11_noRider a1 σ1) fun q2 =>
  if q2 = 0 then
    if a2 = 0 then
      Option.bind (rdA σ1 55 ((4 : Int32) * a1)) fun v3 =>
      Option.bind (rdA σ1 55 (((4 : Int32) * a1) + (1 : Int32))) fun v4 =>
      Option.bind (rdA σ1 55 (((4 : Int32) * a1) + (2 : Int32))) fun v5 =>
      some (((((100 : Int32) * v3) + ((10 : Int32) * v4)) + v5), σ1)
    else if a2 = 1 then
      Option.bind (F_X11_shows a1 (0 : Int32) σ1) fun q6 =>
      Option.bind (F_X11_shows a1 (1 : Int32) σ1) fun q7 =>
      Option.bind (F_X11_shows a1 (2 : Int32) σ1) fun q8 =>
      some (((((100 : Int32) * q6) + ((10 : Int32) * q7)) + q8), σ1)
    else if a2 = 2 then
      Option.bind (rdA σ1 55 (((4 : Int32) * a1) + (3 : Int32))) fun v9 =>
      some (v9, σ1)
    else if a2 = 3 then
      Option.bind (rdA σ1 58 a1) fun v10 =>
      some (v10, σ1)
    else if a2 = 4 then
      Option.bind (F_X11_bestOf a1 σ1) fun q11 =>
      some (q11, σ1)
    else some ((-2 : Int32), σ1)
  else
    some ((-1 : Int32), σ1)
set_option maxHeartbeats 4000000 in
set_option maxRecDepth 20000 in
theorem ct_X11_rider {a1 : Int32} {a2 : Int32} {σ : Mem} {r : (Int32 × Mem)} (hF : F_X11_rider a1 a2 σ = some r) : Ct yX11_rider cX11_rider 3 (some .int) 2 49 (fun ad zz => [.ref (ad 11), .int a1, .int a2]) σ (fun ad => (some (.int r.1))) r.2 := by
  refine Ct_of (by decide +kernel) (lv := fun ad zz => [(0, .ref (ad 11)), (1, .int a1), (2, .int a2)]) (fun _ _ => rfl) (fun _ _ => Nat.le_of_ble_eq_true rfl) (fun p l e s m args below meth c D T ad zz C hr hlk => ?_)
  rw [F_X11_rider] at hF
  refine V_aload_n C 0 dX11_rider_0 rfl ?_
  refine V_iconst C dX11_rider_1 (v := (0 : Int32)) (by decide) ?_
  obtain ⟨σ1, hs1, hF⟩ := bnd hF
  refine pf_X11_56 C hs1 dX11_rider_2 ?_
  refine V_aload_n C 0 dX11_rider_5 rfl ?_
  refine V_iload_n C 1 dX11_rider_6 rfl ?_
  obtain ⟨q2, hq2, hF⟩ := bnd hF
  refine cs_X11_153 C (ct_X11_noRider hq2) rfl ⟨by decide, by decide⟩ (Nat.le_of_ble_eq_true rfl) dX11_rider_7 ⟨Nat.le_refl 0, Nat.le_refl 0⟩ ?_
  refine V_if_eq C 15 dX11_rider_10 (by decide) hF (fun hF => ?_) (fun hF => ?_)
  · refine V_iload_n C 2 dX11_rider_15 rfl ?_
    by_cases hw0 : a2 = 0
    · rw [if_pos hw0] at hF
      refine V_tsIn C (v := 0) (off := 36) 52 hw0 dX11_rider_16 (by decide) (by decide) (by decide) (by decide) ?_
      refine V_bipush C dX11_rider_52 (v := (100 : Int32)) (by decide) ?_
      refine V_aload_n C 0 dX11_rider_54 rfl ?_
      refine gf_X11_16 C dX11_rider_55 ?_
      refine V_iconst C dX11_rider_58 (v := (4 : Int32)) (by decide) ?_
      refine V_iload_n C 1 dX11_rider_59 rfl ?_
      refine V_imul C dX11_rider_60 ?_
      obtain ⟨v3, hv3, hF⟩ := bnd hF
      refine V_iald C (by decide) hv3 dX11_rider_61 ?_
      refine V_imul C dX11_rider_62 ?_
      refine V_bipush C dX11_rider_63 (v := (10 : Int32)) (by decide) ?_
      refine V_aload_n C 0 dX11_rider_65 rfl ?_
      refine gf_X11_16 C dX11_rider_66 ?_
      refine V_iconst C dX11_rider_69 (v := (4 : Int32)) (by decide) ?_
      refine V_iload_n C 1 dX11_rider_70 rfl ?_
      refine V_imul C dX11_rider_71 ?_
      refine V_iconst C dX11_rider_72 (v := (1 : Int32)) (by decide) ?_
      refine V_iadd C dX11_rider_73 ?_
      obtain ⟨v4, hv4, hF⟩ := bnd hF
      refine V_iald C (by decide) hv4 dX11_rider_74 ?_
      refine V_imul C dX11_rider_75 ?_
      refine V_iadd C dX11_rider_76 ?_
      refine V_aload_n C 0 dX11_rider_77 rfl ?_
      refine gf_X11_16 C dX11_rider_78 ?_
      refine V_iconst C dX11_rider_81 (v := (4 : Int32)) (by decide) ?_
      refine V_iload_n C 1 dX11_rider_82 rfl ?_
      refine V_imul C dX11_rider_83 ?_
      refine V_iconst C dX11_rider_84 (v := (2 : Int32)) (by decide) ?_
      refine V_iadd C dX11_rider_85 ?_
      obtain ⟨v5, hv5, hF⟩ := bnd hF
      refine V_iald C (by decide) hv5 dX11_rider_86 ?_
      refine V_iadd C dX11_rider_87 ?_
      cases hF
      exact V_iret C hr hlk rfl rfl dX11_rider_88
    rw [if_neg hw0] at hF
    by_cases hw1 : a2 = 1
    · rw [if_pos hw1] at hF
      refine V_tsIn C (v := 1) (off := 73) 89 hw1 dX11_rider_16 (by decide) (by decide) (by decide) (by decide) ?_
      refine V_bipush C dX11_rider_89 (v := (100 : Int32)) (by decide) ?_
      refine V_aload_n C 0 dX11_rider_91 rfl ?_
      refine V_iload_n C 1 dX11_rider_92 rfl ?_
      refine V_iconst C dX11_rider_93 (v := (0 : Int32)) (by decide) ?_
      obtain ⟨q6, hq6, hF⟩ := bnd hF
      refine cs_X11_103 C (ct_X11_shows hq6) rfl ⟨by decide, by decide⟩ (Nat.le_of_ble_eq_true rfl) dX11_rider_94 ⟨Nat.le_refl 0, Nat.le_refl 0⟩ ?_
      refine V_imul C dX11_rider_97 ?_
      refine V_bipush C dX11_rider_98 (v := (10 : Int32)) (by decide) ?_
      refine V_aload_n C 0 dX11_rider_100 rfl ?_
      refine V_iload_n C 1 dX11_rider_101 rfl ?_
      refine V_iconst C dX11_rider_102 (v := (1 : Int32)) (by decide) ?_
      obtain ⟨q7, hq7, hF⟩ := bnd hF
      refine cs_X11_103 C (ct_X11_shows hq7) rfl ⟨by decide, by decide⟩ (Nat.le_of_ble_eq_true rfl) dX11_rider_103 ⟨Nat.le_refl 0, Nat.le_refl 0⟩ ?_
      refine V_imul C dX11_rider_106 ?_
      refine V_iadd C dX11_rider_107 ?_
      refine V_aload_n C 0 dX11_rider_108 rfl ?_
      refine V_iload_n C 1 dX11_rider_109 rfl ?_
      refine V_iconst C dX11_rider_110 (v := (2 : Int32)) (by decide) ?_
      obtain ⟨q8, hq8, hF⟩ := bnd hF
      refine cs_X11_103 C (ct_X11_shows hq8) rfl ⟨by decide, by decide⟩ (Nat.le_of_ble_eq_true rfl) dX11_rider_111 ⟨Nat.le_refl 0, Nat.le_refl 0⟩ ?_
      refine V_iadd C dX11_rider_114 ?_
      cases hF
      exact V_iret C hr hlk rfl rfl dX11_rider_115
    rw [if_neg hw1] at hF
    by_cases hw2 : a2 = 2
    · rw [if_pos hw2] at hF
      refine V_tsIn C (v := 2) (off := 100) 116 hw2 dX11_rider_16 (by decide) (by decide) (by decide) (by decide) ?_
      refine V_aload_n C 0 dX11_rider_116 rfl ?_
      refine gf_X11_16 C dX11_rider_117 ?_
      refine V_iconst C dX11_rider_120 (v := (4 : Int32)) (by decide) ?_
      refine V_iload_n C 1 dX11_rider_121 rfl ?_
      refine V_imul C dX11_rider_122 ?_
      refine V_iconst C dX11_rider_123 (v := (3 : Int32)) (by decide) ?_
      refine V_iadd C dX11_rider_124 ?_
      obtain ⟨v9, hv9, hF⟩ := bnd hF
      refine V_iald C (by decide) hv9 dX11_rider_125 ?_
      cases hF
      exact V_iret C hr hlk rfl rfl dX11_rider_126
    rw [if_neg hw2] at hF
    by_cases hw3 : a2 = 3
    · rw [if_pos hw3] at hF
      refine V_tsIn C (v := 3) (off := 111) 127 hw3 dX11_rider_16 (by decide) (by decide) (by decide) (by decide) ?_
      refine V_aload_n C 0 dX11_rider_127 rfl ?_
      refine gf_X11_25 C dX11_rider_128 ?_
      refine V_iload_n C 1 dX11_rider_131 rfl ?_
      obtain ⟨v10, hv10, hF⟩ := bnd hF
      refine V_iald C (by decide) hv10 dX11_rider_132 ?_
      cases hF
      exact V_iret C hr hlk rfl rfl dX11_rider_133
    rw [if_neg hw3] at hF
    by_cases hw4 : a2 = 4
    · rw [if_pos hw4] at hF
      refine V_tsIn C (v := 4) (off := 118) 134 hw4 dX11_rider_16 (by decide) (by decide) (by decide) (by decide) ?_
      refine V_aload_n C 0 dX11_rider_134 rfl ?_
      refine V_iload_n C 1 dX11_rider_135 rfl ?_
      obtain ⟨q11, hq11, hF⟩ := bnd hF
      refine cs_X11_156 C (ct_X11_bestOf hq11) rfl ⟨by decide, by decide⟩ (Nat.le_of_ble_eq_true rfl) dX11_rider_136 ⟨Nat.le_refl 0, Nat.le_refl 0⟩ ?_
      cases hF
      exact V_iret C hr hlk rfl rfl dX11_rider_139
    rw [if_neg hw4] at hF
    refine V_tsOut C 140 (by have q0 := lv_neT hw0 (show (0 : Int32).toInt = 0 by decide); have q1 := lv_neT hw1 (show (1 : Int32).toInt = 1 by decide); have q2 := lv_neT hw2 (show (2 : Int32).toInt = 2 by decide); have q3 := lv_neT hw3 (show (3 : Int32).toInt = 3 by decide); have q4 := lv_neT hw4 (show (4 : Int32).toInt = 4 by decide); omega) dX11_rider_16 (by decide) ?_
    refine V_bipush C dX11_rider_140 (v := (-2 : Int32)) (by decide) ?_
    cases hF
    exact V_iret C hr hlk rfl rfl dX11_rider_142
  · refine V_iconst C dX11_rider_13 (v := (-1 : Int32)) (by decide) ?_
    cases hF
    exact V_iret C hr hlk rfl rfl dX11_rider_14

def F_X11_worth (a1 : Int32) (a2 : Int32) (σ : Mem) : Option (Int32 × Mem) :=
  Option.bind (stI σ 20 (0 : Int32)) fun σ1 =>
  Option.bind (F_X11_noHorse a1 σ1) fun q2 =>
  if q2 = 0 then
    Option.bind (F_X11_noRider a2 σ1) fun q3 =>
    if q3 = 0 then
      Option.bind (F_X11_worthOf a1 a2 σ1) fun q4 =>
      some (q4, σ1)
    else
      some ((-1 : Int32), σ1)
  else
    some ((-1 : Int32), σ1)
set_option maxHeartbeats 4000000 in
set_option maxRecDepth 20000 in
theorem ct_X11_worth {a1 : Int32} {a2 : Int32} {σ : Mem} {r : (Int32 × Mem)} (hF : F_X11_worth a1 a2 σ = some r) : Ct yX11_worth cX11_worth 3 (some .int) 2 47 (fun ad zz => [.ref (ad 11), .int a1, .int a2]) σ (fun ad => (some (.int r.1))) r.2 := by
  refine Ct_of (by decide +kernel) (lv := fun ad zz => [(0, .ref (ad 11)), (1, .int a1), (2, .int a2)]) (fun _ _ => rfl) (fun _ _ => Nat.le_of_ble_eq_true rfl) (fun p l e s m args below meth c D T ad zz C hr hlk => ?_)
  rw [F_X11_worth] at hF
  refine V_aload_n C 0 dX11_worth_0 rfl ?_
  refine V_iconst C dX11_worth_1 (v := (0 : Int32)) (by decide) ?_
  obtain ⟨σ1, hs1, hF⟩ := bnd hF
  refine pf_X11_56 C hs1 dX11_worth_2 ?_
  refine V_aload_n C 0 dX11_worth_5 rfl ?_
  refine V_iload_n C 1 dX11_worth_6 rfl ?_
  obtain ⟨q2, hq2, hF⟩ := bnd hF
  refine cs_X11_149 C (ct_X11_noHorse hq2) rfl ⟨by decide, by decide⟩ (Nat.le_of_ble_eq_true rfl) dX11_worth_7 ⟨Nat.le_refl 0, Nat.le_refl 0⟩ ?_
  refine V_if_ne C 21 dX11_worth_10 (by decide) hF (fun hF => ?_) (fun hF => ?_)
  · refine V_iconst C dX11_worth_21 (v := (-1 : Int32)) (by decide) ?_
    refine V_goto C 31 dX11_worth_22 (by decide) ?_
    cases hF
    exact V_iret C hr hlk rfl rfl dX11_worth_31
  · refine V_aload_n C 0 dX11_worth_13 rfl ?_
    refine V_iload_n C 2 dX11_worth_14 rfl ?_
    obtain ⟨q3, hq3, hF⟩ := bnd hF
    refine cs_X11_153 C (ct_X11_noRider hq3) rfl ⟨by decide, by decide⟩ (Nat.le_of_ble_eq_true rfl) dX11_worth_15 ⟨Nat.le_refl 0, Nat.le_refl 0⟩ ?_
    refine V_if_eq C 25 dX11_worth_18 (by decide) hF (fun hF => ?_) (fun hF => ?_)
    · refine V_aload_n C 0 dX11_worth_25 rfl ?_
      refine V_iload_n C 1 dX11_worth_26 rfl ?_
      refine V_iload_n C 2 dX11_worth_27 rfl ?_
      obtain ⟨q4, hq4, hF⟩ := bnd hF
      refine cs_X11_106 C (ct_X11_worthOf hq4) rfl ⟨by decide, by decide⟩ (Nat.le_of_ble_eq_true rfl) dX11_worth_28 ⟨Nat.le_refl 0, Nat.le_refl 0⟩ ?_
      cases hF
      exact V_iret C hr hlk rfl rfl dX11_worth_31
    · refine V_iconst C dX11_worth_21 (v := (-1 : Int32)) (by decide) ?_
      refine V_goto C 31 dX11_worth_22 (by decide) ?_
      cases hF
      exact V_iret C hr hlk rfl rfl dX11_worth_31

def F_X11_note_b51  : Nat → Int32 → Mem → Option Mem
  | 0, _, _ => none
  | n + 1, x1, σ =>
    if (21 : Int32) ≤ x1 then
      Option.bind (stI σ 27 ((σ.1 27) + (1 : Int32))) fun σ1 =>
      some σ1
    else
      Option.bind (rdA σ 58 x1) fun v2 =>
      Option.bind (wrA σ 59 (((21 : Int32) * (σ.1 27)) + x1) v2) fun σ3 =>
      (F_X11_note_b51 n) (x1 + 1) σ3
def F_X11_note_b11  : Nat → Int32 → Mem → Option Mem
  | 0, _, _ => none
  | n + 1, x1, σ =>
    if (273 : Int32) ≤ x1 then
      Option.bind (stI σ 27 ((σ.1 27) - (1 : Int32))) fun σ4 =>
      F_X11_note_b51 4000 (0 : Int32) σ4
    else
      Option.bind (rdA σ 59 (x1 + (21 : Int32))) fun v5 =>
      Option.bind (wrA σ 59 x1 v5) fun σ6 =>
      (F_X11_note_b11 n) (x1 + 1) σ6
def F_X11_note (σ : Mem) : Option Mem :=
  if (σ.1 27) = (14 : Int32) then
    F_X11_note_b11 4000 (0 : Int32) σ
  else
    F_X11_note_b51 4000 (0 : Int32) σ
set_option maxHeartbeats 4000000 in
set_option maxRecDepth 20000 in
theorem w_X11_note_b51 {p : Program} {l : Launch} {e : Env} {s : State} {m : MethodId} {args : Array Value} {below : List Frame} {meth : Method} {c : Code} {D : va_G} {T : Nat → ClassId} {ad zz : Nat → Nat} (C : Cx p s m c cX11_note 2 RX11 (fA ad) D T ad zz) (hr : meth.sig.returnType = none) (hlk : meth.locks = false) {r : Mem}  : ∀ (n : Nat), ∀ (x1 : Int32) (σ : Mem), F_X11_note_b51  n x1 σ = some r → V p l e { frames := 0, cells := 0, slots := 0, locals := 0 } s m args below meth c 0 0 (MQ below (qC none r D T ad) args s 0 0 (fA ad)) 2 (fA ad) D T ad σ 51 [(0, .ref (ad 11)), (1, .int x1)] [] := by
  intro n
  induction n with
  | zero =>
    intro x1 σ hF
    cases (show (none : Option Mem) = some r from hF)
  | succ n ih =>
    intro x1 σ hF
    rw [F_X11_note_b51] at hF
    refine V_iload_n C 1 dX11_note_51 rfl ?_
    refine V_bipush C dX11_note_52 (v := (21 : Int32)) (by decide) ?_
    refine V_icmp_ge C 83 dX11_note_54 (by decide) hF (fun hF => ?_) (fun hF => ?_)
    · refine V_aload_n C 0 dX11_note_83 rfl ?_
      refine V_dup C dX11_note_84 rfl ?_
      refine gf_X11_100 C dX11_note_85 ?_
      refine V_iconst C dX11_note_88 (v := (1 : Int32)) (by decide) ?_
      refine V_iadd C dX11_note_89 ?_
      obtain ⟨σ1, hs1, hF⟩ := bnd hF
      refine pf_X11_100 C hs1 dX11_note_90 ?_
      cases hF
      exact V_vret C hr hlk rfl rfl dX11_note_93
    · refine V_aload_n C 0 dX11_note_57 rfl ?_
      refine gf_X11_28 C dX11_note_58 ?_
      refine V_bipush C dX11_note_61 (v := (21 : Int32)) (by decide) ?_
      refine V_aload_n C 0 dX11_note_63 rfl ?_
      refine gf_X11_100 C dX11_note_64 ?_
      refine V_imul C dX11_note_67 ?_
      refine V_iload_n C 1 dX11_note_68 rfl ?_
      refine V_iadd C dX11_note_69 ?_
      refine V_aload_n C 0 dX11_note_70 rfl ?_
      refine gf_X11_25 C dX11_note_71 ?_
      refine V_iload_n C 1 dX11_note_74 rfl ?_
      obtain ⟨v2, hv2, hF⟩ := bnd hF
      refine V_iald C (by decide) hv2 dX11_note_75 ?_
      obtain ⟨σ3, hs3, hF⟩ := bnd hF
      refine V_iast C (by decide) hs3 dX11_note_76 ?_
      refine V_iinc C (v := (x1 + 1)) (lv' := [(1, .int (x1 + 1)), (0, .ref (ad 11))]) 1 dX11_note_77 rfl rfl (by decide) rfl ?_
      refine V_goto C 51 dX11_note_80 (by decide) ?_
      refine V_lv (ks := [1, 0]) rfl ?_
      exact ih (x1 + 1) σ3 hF
set_option maxHeartbeats 4000000 in
set_option maxRecDepth 20000 in
theorem w_X11_note_b11 {p : Program} {l : Launch} {e : Env} {s : State} {m : MethodId} {args : Array Value} {below : List Frame} {meth : Method} {c : Code} {D : va_G} {T : Nat → ClassId} {ad zz : Nat → Nat} (C : Cx p s m c cX11_note 2 RX11 (fA ad) D T ad zz) (hr : meth.sig.returnType = none) (hlk : meth.locks = false) {r : Mem}  : ∀ (n : Nat), ∀ (x1 : Int32) (σ : Mem), F_X11_note_b11  n x1 σ = some r → V p l e { frames := 0, cells := 0, slots := 0, locals := 0 } s m args below meth c 0 0 (MQ below (qC none r D T ad) args s 0 0 (fA ad)) 2 (fA ad) D T ad σ 11 [(0, .ref (ad 11)), (1, .int x1)] [] := by
  intro n
  induction n with
  | zero =>
    intro x1 σ hF
    cases (show (none : Option Mem) = some r from hF)
  | succ n ih =>
    intro x1 σ hF
    rw [F_X11_note_b11] at hF
    refine V_iload_n C 1 dX11_note_11 rfl ?_
    refine V_sipush C dX11_note_12 (v := (273 : Int32)) (by decide) ?_
    refine V_icmp_ge C 39 dX11_note_15 (by decide) hF (fun hF => ?_) (fun hF => ?_)
    · refine V_aload_n C 0 dX11_note_39 rfl ?_
      refine V_dup C dX11_note_40 rfl ?_
      refine gf_X11_100 C dX11_note_41 ?_
      refine V_iconst C dX11_note_44 (v := (1 : Int32)) (by decide) ?_
      refine V_isub C dX11_note_45 ?_
      obtain ⟨σ4, hs4, hF⟩ := bnd hF
      refine pf_X11_100 C hs4 dX11_note_46 ?_
      refine V_iconst C dX11_note_49 (v := (0 : Int32)) (by decide) ?_
      refine V_istore_n C (lv' := [(1, .int (0 : Int32)), (0, .ref (ad 11))]) dX11_note_50 rfl (by decide) rfl ?_
      refine V_lv (ks := [1, 0]) rfl ?_
      exact w_X11_note_b51 C hr hlk 4000 (0 : Int32) σ4 hF
    · refine V_aload_n C 0 dX11_note_18 rfl ?_
      refine gf_X11_28 C dX11_note_19 ?_
      refine V_iload_n C 1 dX11_note_22 rfl ?_
      refine V_aload_n C 0 dX11_note_23 rfl ?_
      refine gf_X11_28 C dX11_note_24 ?_
      refine V_iload_n C 1 dX11_note_27 rfl ?_
      refine V_bipush C dX11_note_28 (v := (21 : Int32)) (by decide) ?_
      refine V_iadd C dX11_note_30 ?_
      obtain ⟨v5, hv5, hF⟩ := bnd hF
      refine V_iald C (by decide) hv5 dX11_note_31 ?_
      obtain ⟨σ6, hs6, hF⟩ := bnd hF
      refine V_iast C (by decide) hs6 dX11_note_32 ?_
      refine V_iinc C (v := (x1 + 1)) (lv' := [(1, .int (x1 + 1)), (0, .ref (ad 11))]) 1 dX11_note_33 rfl rfl (by decide) rfl ?_
      refine V_goto C 11 dX11_note_36 (by decide) ?_
      refine V_lv (ks := [1, 0]) rfl ?_
      exact ih (x1 + 1) σ6 hF
set_option maxHeartbeats 4000000 in
set_option maxRecDepth 20000 in
theorem ct_X11_note {σ : Mem} {r : Mem} (hF : F_X11_note σ = some r) : Ct yX11_note cX11_note 2 none 0 0 (fun ad zz => [.ref (ad 11)]) σ (fun ad => none) r := by
  refine Ct_of (by decide +kernel) (lv := fun ad zz => [(0, .ref (ad 11))]) (fun _ _ => rfl) (fun _ _ => Nat.le_of_ble_eq_true rfl) (fun p l e s m args below meth c D T ad zz C hr hlk => ?_)
  rw [F_X11_note] at hF
  refine V_aload_n C 0 dX11_note_0 rfl ?_
  refine gf_X11_100 C dX11_note_1 ?_
  refine V_bipush C dX11_note_4 (v := (14 : Int32)) (by decide) ?_
  refine V_icmp_ne C 49 dX11_note_6 (by decide) hF (fun hF => ?_) (fun hF => ?_)
  · refine V_iconst C dX11_note_49 (v := (0 : Int32)) (by decide) ?_
    refine V_istore_n C (lv' := [(1, .int (0 : Int32)), (0, .ref (ad 11))]) dX11_note_50 rfl (by decide) rfl ?_
    refine V_lv (ks := [1, 0]) rfl ?_
    exact w_X11_note_b51 C hr hlk 4000 (0 : Int32) σ hF
  · refine V_iconst C dX11_note_9 (v := (0 : Int32)) (by decide) ?_
    refine V_istore_n C (lv' := [(1, .int (0 : Int32)), (0, .ref (ad 11))]) dX11_note_10 rfl (by decide) rfl ?_
    refine V_lv (ks := [1, 0]) rfl ?_
    exact w_X11_note_b11 C hr hlk 4000 (0 : Int32) σ hF

def F_X11_goLead (n1 : Nat) (a2 : Int32) (a3 : Int32) (σ : Mem) : Option (Int32 × Mem) :=
  Option.bind (F_X11_isEnough a3 a2 σ) fun q1 =>
  if q1 = 0 then
    some ((0 : Int32), σ)
  else
    Option.bind (F_X11_isFull n1 a3 σ) fun q2 =>
    if q2 = 0 then
      Option.bind (wrA σ n1 a2 a3) fun σ3 =>
      some ((1 : Int32), σ3)
    else
      Option.bind (F_X11_leastOf n1 a3 σ) fun q4 =>
      Option.bind (F_X11_likesRider a3 a2 q4 σ) fun q5 =>
      if q5 = 0 then
        some ((0 : Int32), σ)
      else
        Option.bind (wrA σ n1 q4 (-9 : Int32)) fun σ6 =>
        Option.bind (wrA σ6 n1 a2 a3) fun σ7 =>
        some ((1 : Int32), σ7)
set_option maxHeartbeats 4000000 in
set_option maxRecDepth 20000 in
theorem ct_X11_goLead {n1 : Nat} {a2 : Int32} {a3 : Int32} {σ : Mem} {r : (Int32 × Mem)} (hn1 : n1 < 67) (hF : F_X11_goLead n1 a2 a3 σ = some r) : Ct yX11_goLead cX11_goLead 5 (some .boolean) 4 95 (fun ad zz => [.ref (ad 11), .ref (ad (12 + n1)), .int a2, .int a3]) σ (fun ad => (some (.int r.1))) r.2 := by
  refine Ct_of (by decide +kernel) (lv := fun ad zz => [(0, .ref (ad 11)), (1, .ref (ad (12 + n1))), (2, .int a2), (3, .int a3)]) (fun _ _ => rfl) (fun _ _ => Nat.le_of_ble_eq_true rfl) (fun p l e s m args below meth c D T ad zz C hr hlk => ?_)
  rw [F_X11_goLead] at hF
  refine V_aload_n C 0 dX11_goLead_0 rfl ?_
  refine V_iload_n C 3 dX11_goLead_1 rfl ?_
  refine V_iload_n C 2 dX11_goLead_2 rfl ?_
  obtain ⟨q1, hq1, hF⟩ := bnd hF
  refine cs_X11_121 C (ct_X11_isEnough hq1) rfl ⟨by decide, by decide⟩ (Nat.le_of_ble_eq_true rfl) dX11_goLead_3 ⟨Nat.le_refl 0, Nat.le_refl 0⟩ ?_
  refine V_if_ne C 11 dX11_goLead_6 (by decide) hF (fun hF => ?_) (fun hF => ?_)
  · refine V_aload_n C 0 dX11_goLead_11 rfl ?_
    refine V_aload_n C 1 dX11_goLead_12 rfl ?_
    refine V_iload_n C 3 dX11_goLead_13 rfl ?_
    obtain ⟨q2, hq2, hF⟩ := bnd hF
    refine cs_X11_128 C (ct_X11_isFull hn1 hq2) rfl ⟨by decide, by decide⟩ (Nat.le_of_ble_eq_true rfl) dX11_goLead_14 ⟨Nat.le_refl 0, Nat.le_refl 0⟩ ?_
    refine V_if_eq C 47 dX11_goLead_17 (by decide) hF (fun hF => ?_) (fun hF => ?_)
    · refine V_aload_n C 1 dX11_goLead_47 rfl ?_
      refine V_iload_n C 2 dX11_goLead_48 rfl ?_
      refine V_iload_n C 3 dX11_goLead_49 rfl ?_
      obtain ⟨σ3, hs3, hF⟩ := bnd hF
      refine V_iast C hn1 hs3 dX11_goLead_50 ?_
      refine V_iconst C dX11_goLead_51 (v := (1 : Int32)) (by decide) ?_
      cases hF
      exact V_zret C hr hlk (Or.inr rfl) rfl rfl dX11_goLead_52
    · refine V_aload_n C 0 dX11_goLead_20 rfl ?_
      refine V_aload_n C 1 dX11_goLead_21 rfl ?_
      refine V_iload_n C 3 dX11_goLead_22 rfl ?_
      obtain ⟨q4, hq4, hF⟩ := bnd hF
      refine cs_X11_132 C (ct_X11_leastOf hn1 hq4) rfl ⟨by decide, by decide⟩ (Nat.le_of_ble_eq_true rfl) dX11_goLead_23 ⟨Nat.le_refl 0, Nat.le_refl 0⟩ ?_
      refine V_istore C (lv' := [(4, .int q4), (0, .ref (ad 11)), (1, .ref (ad (12 + n1))), (2, .int a2), (3, .int a3)]) dX11_goLead_26 (by decide) rfl ?_
      refine V_aload_n C 1 dX11_goLead_28 rfl ?_
      refine V_iload_n C 4 dX11_goLead_29 rfl ?_
      refine V_iload_n C 3 dX11_goLead_30 rfl ?_
      refine V_iload C 0 dX11_goLead_31 rfl ?_
      obtain ⟨q5, hq5, hF⟩ := bnd hF
      refine cs_X11_117 C (ct_X11_likesRider hq5) rfl ⟨by decide, by decide⟩ (Nat.le_of_ble_eq_true rfl) dX11_goLead_33 ⟨Nat.le_refl 0, Nat.le_refl 0⟩ ?_
      refine V_if_ne C 41 dX11_goLead_36 (by decide) hF (fun hF => ?_) (fun hF => ?_)
      · refine V_aload_n C 2 dX11_goLead_41 rfl ?_
        refine V_iload C 0 dX11_goLead_42 rfl ?_
        refine V_bipush C dX11_goLead_44 (v := (-9 : Int32)) (by decide) ?_
        obtain ⟨σ6, hs6, hF⟩ := bnd hF
        refine V_iast C hn1 hs6 dX11_goLead_46 ?_
        refine V_aload_n C 2 dX11_goLead_47 rfl ?_
        refine V_iload_n C 3 dX11_goLead_48 rfl ?_
        refine V_iload_n C 4 dX11_goLead_49 rfl ?_
        obtain ⟨σ7, hs7, hF⟩ := bnd hF
        refine V_iast C hn1 hs7 dX11_goLead_50 ?_
        refine V_iconst C dX11_goLead_51 (v := (1 : Int32)) (by decide) ?_
        cases hF
        exact V_zret C hr hlk (Or.inr rfl) rfl rfl dX11_goLead_52
      · refine V_iconst C dX11_goLead_39 (v := (0 : Int32)) (by decide) ?_
        cases hF
        exact V_zret C hr hlk (Or.inl rfl) rfl rfl dX11_goLead_40
  · refine V_iconst C dX11_goLead_9 (v := (0 : Int32)) (by decide) ?_
    cases hF
    exact V_zret C hr hlk (Or.inl rfl) rfl rfl dX11_goLead_10

def F_X11_lead (a1 : Int32) (a2 : Int32) (σ : Mem) : Option (Int32 × Mem) :=
  Option.bind (stI σ 20 (0 : Int32)) fun σ1 =>
  Option.bind (F_X11_noRider a1 σ1) fun q2 =>
  if q2 = 0 then
    Option.bind (F_X11_noHorse a2 σ1) fun q3 =>
    if q3 = 0 then
      Option.bind (rdA σ1 58 a1) fun v4 =>
      if v4 = (-9 : Int32) then
        Option.bind (F_X11_note σ1) fun σ5 =>
        Option.bind (F_X11_goLead 58 a1 a2 σ5) fun q6 =>
        if q6.1 = 0 then
          some ((0 : Int32), q6.2)
        else
          some ((1 : Int32), q6.2)
      else
        some ((-3 : Int32), σ1)
    else
      some ((-1 : Int32), σ1)
  else
    some ((-1 : Int32), σ1)
set_option maxHeartbeats 4000000 in
set_option maxRecDepth 20000 in
theorem ct_X11_lead {a1 : Int32} {a2 : Int32} {σ : Mem} {r : (Int32 × Mem)} (hF : F_X11_lead a1 a2 σ = some r) : Ct yX11_lead cX11_lead 3 (some .int) 5 119 (fun ad zz => [.ref (ad 11), .int a1, .int a2]) σ (fun ad => (some (.int r.1))) r.2 := by
  refine Ct_of (by decide +kernel) (lv := fun ad zz => [(0, .ref (ad 11)), (1, .int a1), (2, .int a2)]) (fun _ _ => rfl) (fun _ _ => Nat.le_of_ble_eq_true rfl) (fun p l e s m args below meth c D T ad zz C hr hlk => ?_)
  rw [F_X11_lead] at hF
  refine V_aload_n C 0 dX11_lead_0 rfl ?_
  refine V_iconst C dX11_lead_1 (v := (0 : Int32)) (by decide) ?_
  obtain ⟨σ1, hs1, hF⟩ := bnd hF
  refine pf_X11_56 C hs1 dX11_lead_2 ?_
  refine V_aload_n C 0 dX11_lead_5 rfl ?_
  refine V_iload_n C 1 dX11_lead_6 rfl ?_
  obtain ⟨q2, hq2, hF⟩ := bnd hF
  refine cs_X11_153 C (ct_X11_noRider hq2) rfl ⟨by decide, by decide⟩ (Nat.le_of_ble_eq_true rfl) dX11_lead_7 ⟨Nat.le_refl 0, Nat.le_refl 0⟩ ?_
  refine V_if_ne C 21 dX11_lead_10 (by decide) hF (fun hF => ?_) (fun hF => ?_)
  · refine V_iconst C dX11_lead_21 (v := (-1 : Int32)) (by decide) ?_
    cases hF
    exact V_iret C hr hlk rfl rfl dX11_lead_22
  · refine V_aload_n C 0 dX11_lead_13 rfl ?_
    refine V_iload_n C 2 dX11_lead_14 rfl ?_
    obtain ⟨q3, hq3, hF⟩ := bnd hF
    refine cs_X11_149 C (ct_X11_noHorse hq3) rfl ⟨by decide, by decide⟩ (Nat.le_of_ble_eq_true rfl) dX11_lead_15 ⟨Nat.le_refl 0, Nat.le_refl 0⟩ ?_
    refine V_if_eq C 23 dX11_lead_18 (by decide) hF (fun hF => ?_) (fun hF => ?_)
    · refine V_aload_n C 0 dX11_lead_23 rfl ?_
      refine gf_X11_25 C dX11_lead_24 ?_
      refine V_iload_n C 1 dX11_lead_27 rfl ?_
      obtain ⟨v4, hv4, hF⟩ := bnd hF
      refine V_iald C (by decide) hv4 dX11_lead_28 ?_
      refine V_bipush C dX11_lead_29 (v := (-9 : Int32)) (by decide) ?_
      refine V_icmp_eq C 37 dX11_lead_31 (by decide) hF (fun hF => ?_) (fun hF => ?_)
      · refine V_aload_n C 0 dX11_lead_37 rfl ?_
        obtain ⟨σ5, hs5, hF⟩ := bnd hF
        refine cs_X11_159 C (ct_X11_note hs5) rfl ⟨by decide, by decide⟩ (Nat.le_of_ble_eq_true rfl) dX11_lead_38 ⟨Nat.le_refl 0, Nat.le_refl 0⟩ ?_
        refine V_aload_n C 0 dX11_lead_41 rfl ?_
        refine V_aload_n C 0 dX11_lead_42 rfl ?_
        refine gf_X11_25 C dX11_lead_43 ?_
        refine V_iload_n C 1 dX11_lead_46 rfl ?_
        refine V_iload_n C 2 dX11_lead_47 rfl ?_
        obtain ⟨q6, hq6, hF⟩ := bnd hF
        refine cs_X11_162 C (ct_X11_goLead (by decide) hq6) rfl ⟨by decide, by decide⟩ (Nat.le_of_ble_eq_true rfl) dX11_lead_48 ⟨Nat.le_refl 0, Nat.le_refl 0⟩ ?_
        refine V_if_eq C 58 dX11_lead_51 (by decide) hF (fun hF => ?_) (fun hF => ?_)
        · refine V_iconst C dX11_lead_58 (v := (0 : Int32)) (by decide) ?_
          cases hF
          exact V_iret C hr hlk rfl rfl dX11_lead_59
        · refine V_iconst C dX11_lead_54 (v := (1 : Int32)) (by decide) ?_
          refine V_goto C 59 dX11_lead_55 (by decide) ?_
          cases hF
          exact V_iret C hr hlk rfl rfl dX11_lead_59
      · refine V_bipush C dX11_lead_34 (v := (-3 : Int32)) (by decide) ?_
        cases hF
        exact V_iret C hr hlk rfl rfl dX11_lead_36
    · refine V_iconst C dX11_lead_21 (v := (-1 : Int32)) (by decide) ?_
      cases hF
      exact V_iret C hr hlk rfl rfl dX11_lead_22

def F_X11_dress (a1 : Int32) (a2 : Int32) (σ : Mem) : Option (Int32 × Mem) :=
  Option.bind (stI σ 20 (0 : Int32)) fun σ1 =>
  Option.bind (F_X11_noRider a1 σ1) fun q2 =>
  if q2 = 0 then
    Option.bind (F_X11_in ((a2).toInt64) (0 : Int64) (2 : Int64) σ1) fun q3 =>
    if q3 = 0 then
      some ((-2 : Int32), σ1)
    else
      Option.bind (F_X11_shows a1 a2 σ1) fun q4 =>
      if q4 = (9 : Int32) then
        some ((-4 : Int32), σ1)
      else
        Option.bind (F_X11_note σ1) fun σ5 =>
        Option.bind (rdA σ5 58 (((5 : Int32) + ((3 : Int32) * a1)) + a2)) fun v6 =>
        Option.bind (wrA σ5 58 (((5 : Int32) + ((3 : Int32) * a1)) + a2) (v6 + (1 : Int32))) fun σ7 =>
        Option.bind (rdA σ7 58 (20 : Int32)) fun v8 =>
        Option.bind (wrA σ7 58 (20 : Int32) (v8 + (1 : Int32))) fun σ9 =>
        Option.bind (F_X11_shows a1 a2 σ9) fun q10 =>
        some (q10, σ9)
  else
    some ((-1 : Int32), σ1)
set_option maxHeartbeats 4000000 in
set_option maxRecDepth 20000 in
theorem ct_X11_dress {a1 : Int32} {a2 : Int32} {σ : Mem} {r : (Int32 × Mem)} (hF : F_X11_dress a1 a2 σ = some r) : Ct yX11_dress cX11_dress 3 (some .int) 2 46 (fun ad zz => [.ref (ad 11), .int a1, .int a2]) σ (fun ad => (some (.int r.1))) r.2 := by
  refine Ct_of (by decide +kernel) (lv := fun ad zz => [(0, .ref (ad 11)), (1, .int a1), (2, .int a2)]) (fun _ _ => rfl) (fun _ _ => Nat.le_of_ble_eq_true rfl) (fun p l e s m args below meth c D T ad zz C hr hlk => ?_)
  rw [F_X11_dress] at hF
  refine V_aload_n C 0 dX11_dress_0 rfl ?_
  refine V_iconst C dX11_dress_1 (v := (0 : Int32)) (by decide) ?_
  obtain ⟨σ1, hs1, hF⟩ := bnd hF
  refine pf_X11_56 C hs1 dX11_dress_2 ?_
  refine V_aload_n C 0 dX11_dress_5 rfl ?_
  refine V_iload_n C 1 dX11_dress_6 rfl ?_
  obtain ⟨q2, hq2, hF⟩ := bnd hF
  refine cs_X11_153 C (ct_X11_noRider hq2) rfl ⟨by decide, by decide⟩ (Nat.le_of_ble_eq_true rfl) dX11_dress_7 ⟨Nat.le_refl 0, Nat.le_refl 0⟩ ?_
  refine V_if_eq C 15 dX11_dress_10 (by decide) hF (fun hF => ?_) (fun hF => ?_)
  · refine V_iload_n C 2 dX11_dress_15 rfl ?_
    refine V_i2l C dX11_dress_16 ?_
    refine V_lconst C dX11_dress_17 (v := (0 : Int64)) (by decide) ?_
    refine V_ldc2 C dX11_dress_18 (v := (2 : Int64)) (TB_in 1112 (by decide +kernel) (by decide +kernel)) ?_
    obtain ⟨q3, hq3, hF⟩ := bnd hF
    refine cs_X11_63 C (ct_X11_in hq3) rfl ⟨by decide, by decide⟩ (Nat.le_of_ble_eq_true rfl) dX11_dress_21 ⟨Nat.le_refl 0, Nat.le_refl 0⟩ ?_
    refine V_if_ne C 30 dX11_dress_24 (by decide) hF (fun hF => ?_) (fun hF => ?_)
    · refine V_aload_n C 0 dX11_dress_30 rfl ?_
      refine V_iload_n C 1 dX11_dress_31 rfl ?_
      refine V_iload_n C 2 dX11_dress_32 rfl ?_
      obtain ⟨q4, hq4, hF⟩ := bnd hF
      refine cs_X11_103 C (ct_X11_shows hq4) rfl ⟨by decide, by decide⟩ (Nat.le_of_ble_eq_true rfl) dX11_dress_33 ⟨Nat.le_refl 0, Nat.le_refl 0⟩ ?_
      refine V_bipush C dX11_dress_36 (v := (9 : Int32)) (by decide) ?_
      refine V_icmp_ne C 44 dX11_dress_38 (by decide) hF (fun hF => ?_) (fun hF => ?_)
      · refine V_aload_n C 0 dX11_dress_44 rfl ?_
        obtain ⟨σ5, hs5, hF⟩ := bnd hF
        refine cs_X11_159 C (ct_X11_note hs5) rfl ⟨by decide, by decide⟩ (Nat.le_of_ble_eq_true rfl) dX11_dress_45 ⟨Nat.le_refl 0, Nat.le_refl 0⟩ ?_
        refine V_aload_n C 0 dX11_dress_48 rfl ?_
        refine gf_X11_25 C dX11_dress_49 ?_
        refine V_iconst C dX11_dress_52 (v := (5 : Int32)) (by decide) ?_
        refine V_iconst C dX11_dress_53 (v := (3 : Int32)) (by decide) ?_
        refine V_iload_n C 1 dX11_dress_54 rfl ?_
        refine V_imul C dX11_dress_55 ?_
        refine V_iadd C dX11_dress_56 ?_
        refine V_iload_n C 2 dX11_dress_57 rfl ?_
        refine V_iadd C dX11_dress_58 ?_
        refine V_dup2 C dX11_dress_59 rfl rfl ?_
        obtain ⟨v6, hv6, hF⟩ := bnd hF
        refine V_iald C (by decide) hv6 dX11_dress_60 ?_
        refine V_iconst C dX11_dress_61 (v := (1 : Int32)) (by decide) ?_
        refine V_iadd C dX11_dress_62 ?_
        obtain ⟨σ7, hs7, hF⟩ := bnd hF
        refine V_iast C (by decide) hs7 dX11_dress_63 ?_
        refine V_aload_n C 0 dX11_dress_64 rfl ?_
        refine gf_X11_25 C dX11_dress_65 ?_
        refine V_bipush C dX11_dress_68 (v := (20 : Int32)) (by decide) ?_
        refine V_dup2 C dX11_dress_70 rfl rfl ?_
        obtain ⟨v8, hv8, hF⟩ := bnd hF
        refine V_iald C (by decide) hv8 dX11_dress_71 ?_
        refine V_iconst C dX11_dress_72 (v := (1 : Int32)) (by decide) ?_
        refine V_iadd C dX11_dress_73 ?_
        obtain ⟨σ9, hs9, hF⟩ := bnd hF
        refine V_iast C (by decide) hs9 dX11_dress_74 ?_
        refine V_aload_n C 0 dX11_dress_75 rfl ?_
        refine V_iload_n C 1 dX11_dress_76 rfl ?_
        refine V_iload_n C 2 dX11_dress_77 rfl ?_
        obtain ⟨q10, hq10, hF⟩ := bnd hF
        refine cs_X11_103 C (ct_X11_shows hq10) rfl ⟨by decide, by decide⟩ (Nat.le_of_ble_eq_true rfl) dX11_dress_78 ⟨Nat.le_refl 0, Nat.le_refl 0⟩ ?_
        cases hF
        exact V_iret C hr hlk rfl rfl dX11_dress_81
      · refine V_bipush C dX11_dress_41 (v := (-4 : Int32)) (by decide) ?_
        cases hF
        exact V_iret C hr hlk rfl rfl dX11_dress_43
    · refine V_bipush C dX11_dress_27 (v := (-2 : Int32)) (by decide) ?_
      cases hF
      exact V_iret C hr hlk rfl rfl dX11_dress_29
  · refine V_iconst C dX11_dress_13 (v := (-1 : Int32)) (by decide) ?_
    cases hF
    exact V_iret C hr hlk rfl rfl dX11_dress_14

def F_X11_giveBack (a1 : Int32) (σ : Mem) : Option (Int32 × Mem) :=
  Option.bind (stI σ 20 (0 : Int32)) fun σ1 =>
  Option.bind (F_X11_noRider a1 σ1) fun q2 =>
  if q2 = 0 then
    Option.bind (rdA σ1 58 a1) fun v3 =>
    if v3 = (-9 : Int32) then
      some ((-3 : Int32), σ1)
    else
      Option.bind (F_X11_note σ1) fun σ4 =>
      Option.bind (wrA σ4 58 a1 (-9 : Int32)) fun σ5 =>
      some (v3, σ5)
  else
    some ((-1 : Int32), σ1)
set_option maxHeartbeats 4000000 in
set_option maxRecDepth 20000 in
theorem ct_X11_giveBack {a1 : Int32} {σ : Mem} {r : (Int32 × Mem)} (hF : F_X11_giveBack a1 σ = some r) : Ct yX11_giveBack cX11_giveBack 3 (some .int) 2 46 (fun ad zz => [.ref (ad 11), .int a1]) σ (fun ad => (some (.int r.1))) r.2 := by
  refine Ct_of (by decide +kernel) (lv := fun ad zz => [(0, .ref (ad 11)), (1, .int a1)]) (fun _ _ => rfl) (fun _ _ => Nat.le_of_ble_eq_true rfl) (fun p l e s m args below meth c D T ad zz C hr hlk => ?_)
  rw [F_X11_giveBack] at hF
  refine V_aload_n C 0 dX11_giveBack_0 rfl ?_
  refine V_iconst C dX11_giveBack_1 (v := (0 : Int32)) (by decide) ?_
  obtain ⟨σ1, hs1, hF⟩ := bnd hF
  refine pf_X11_56 C hs1 dX11_giveBack_2 ?_
  refine V_aload_n C 0 dX11_giveBack_5 rfl ?_
  refine V_iload_n C 1 dX11_giveBack_6 rfl ?_
  obtain ⟨q2, hq2, hF⟩ := bnd hF
  refine cs_X11_153 C (ct_X11_noRider hq2) rfl ⟨by decide, by decide⟩ (Nat.le_of_ble_eq_true rfl) dX11_giveBack_7 ⟨Nat.le_refl 0, Nat.le_refl 0⟩ ?_
  refine V_if_eq C 15 dX11_giveBack_10 (by decide) hF (fun hF => ?_) (fun hF => ?_)
  · refine V_aload_n C 0 dX11_giveBack_15 rfl ?_
    refine gf_X11_25 C dX11_giveBack_16 ?_
    refine V_iload_n C 1 dX11_giveBack_19 rfl ?_
    obtain ⟨v3, hv3, hF⟩ := bnd hF
    refine V_iald C (by decide) hv3 dX11_giveBack_20 ?_
    refine V_istore_n C (lv' := [(2, .int v3), (0, .ref (ad 11)), (1, .int a1)]) dX11_giveBack_21 rfl (by decide) rfl ?_
    refine V_iload_n C 0 dX11_giveBack_22 rfl ?_
    refine V_bipush C dX11_giveBack_23 (v := (-9 : Int32)) (by decide) ?_
    refine V_icmp_ne C 31 dX11_giveBack_25 (by decide) hF (fun hF => ?_) (fun hF => ?_)
    · refine V_aload_n C 1 dX11_giveBack_31 rfl ?_
      obtain ⟨σ4, hs4, hF⟩ := bnd hF
      refine cs_X11_159 C (ct_X11_note hs4) rfl ⟨by decide, by decide⟩ (Nat.le_of_ble_eq_true rfl) dX11_giveBack_32 ⟨Nat.le_refl 0, Nat.le_refl 0⟩ ?_
      refine V_aload_n C 1 dX11_giveBack_35 rfl ?_
      refine gf_X11_25 C dX11_giveBack_36 ?_
      refine V_iload_n C 2 dX11_giveBack_39 rfl ?_
      refine V_bipush C dX11_giveBack_40 (v := (-9 : Int32)) (by decide) ?_
      obtain ⟨σ5, hs5, hF⟩ := bnd hF
      refine V_iast C (by decide) hs5 dX11_giveBack_42 ?_
      refine V_iload_n C 0 dX11_giveBack_43 rfl ?_
      cases hF
      exact V_iret C hr hlk rfl rfl dX11_giveBack_44
    · refine V_bipush C dX11_giveBack_28 (v := (-3 : Int32)) (by decide) ?_
      cases hF
      exact V_iret C hr hlk rfl rfl dX11_giveBack_30
  · refine V_iconst C dX11_giveBack_13 (v := (-1 : Int32)) (by decide) ?_
    cases hF
    exact V_iret C hr hlk rfl rfl dX11_giveBack_14

def F_X11_bell_b34  : Nat → Int32 → Int32 → Mem → Option (Int32 × Mem)
  | 0, _, _, _ => none
  | n + 1, x1, x2, σ =>
    if (σ.1 24) ≤ x2 then
      some (x1, σ)
    else
      Option.bind (rdA σ 58 x2) fun v3 =>
      if v3 = (-9 : Int32) then
        (F_X11_bell_b34 n) x1 (x2 + 1) σ
      else
        Option.bind (rdA σ 58 x2) fun v4 =>
        Option.bind (F_X11_isEnough v4 x2 σ) fun q5 =>
        if q5 = 0 then
          Option.bind (wrA σ 58 x2 (-9 : Int32)) fun σ6 =>
          (F_X11_bell_b34 n) (x1 ||| ((1 : Int32) <<< (x2 &&& 31))) (x2 + 1) σ6
        else
          (F_X11_bell_b34 n) x1 (x2 + 1) σ
def F_X11_bell_b11  : Nat → Int32 → Mem → Option (Int32 × Mem)
  | 0, _, _ => none
  | n + 1, x1, σ =>
    if (20 : Int32) ≤ x1 then
      F_X11_bell_b34 4000 (0 : Int32) (0 : Int32) σ
    else
      Option.bind (wrA σ 58 x1 (0 : Int32)) fun σ7 =>
      (F_X11_bell_b11 n) (x1 + 1) σ7
def F_X11_bell (σ : Mem) : Option (Int32 × Mem) :=
  Option.bind (stI σ 20 (0 : Int32)) fun σ1 =>
  Option.bind (F_X11_note σ1) fun σ2 =>
  F_X11_bell_b11 4000 (5 : Int32) σ2
set_option maxHeartbeats 4000000 in
set_option maxRecDepth 20000 in
theorem w_X11_bell_b34 {p : Program} {l : Launch} {e : Env} {s : State} {m : MethodId} {args : Array Value} {below : List Frame} {meth : Method} {c : Code} {D : va_G} {T : Nat → ClassId} {ad zz : Nat → Nat} (C : Cx p s m c cX11_bell 3 RX11 (fA ad) D T ad zz) (hr : meth.sig.returnType = (some .int)) (hlk : meth.locks = false) {r : (Int32 × Mem)}  : ∀ (n : Nat), ∀ (x1 : Int32) (x2 : Int32) (σ : Mem), F_X11_bell_b34  n x1 x2 σ = some r → V p l e { frames := 3, cells := 0, slots := 0, locals := 69 } s m args below meth c 0 0 (MQ below (qC (some (.int r.1)) r.2 D T ad) args s 0 0 (fA ad)) 3 (fA ad) D T ad σ 34 [(0, .ref (ad 11)), (1, .int x1), (2, .int x2)] [] := by
  intro n
  induction n with
  | zero =>
    intro x1 x2 σ hF
    cases (show (none : Option (Int32 × Mem)) = some r from hF)
  | succ n ih =>
    intro x1 x2 σ hF
    rw [F_X11_bell_b34] at hF
    refine V_iload_n C 2 dX11_bell_34 rfl ?_
    refine V_aload_n C 0 dX11_bell_35 rfl ?_
    refine gf_X11_67 C dX11_bell_36 ?_
    refine V_icmp_ge C 87 dX11_bell_39 (by decide) hF (fun hF => ?_) (fun hF => ?_)
    · refine V_iload_n C 1 dX11_bell_87 rfl ?_
      cases hF
      exact V_iret C hr hlk rfl rfl dX11_bell_88
    · refine V_aload_n C 0 dX11_bell_42 rfl ?_
      refine gf_X11_25 C dX11_bell_43 ?_
      refine V_iload_n C 2 dX11_bell_46 rfl ?_
      obtain ⟨v3, hv3, hF⟩ := bnd hF
      refine V_iald C (by decide) hv3 dX11_bell_47 ?_
      refine V_bipush C dX11_bell_48 (v := (-9 : Int32)) (by decide) ?_
      refine V_icmp_eq C 81 dX11_bell_50 (by decide) hF (fun hF => ?_) (fun hF => ?_)
      · refine V_iinc C (v := (x2 + 1)) (lv' := [(2, .int (x2 + 1)), (0, .ref (ad 11)), (1, .int x1)]) 2 dX11_bell_81 rfl rfl (by decide) rfl ?_
        refine V_goto C 34 dX11_bell_84 (by decide) ?_
        refine V_lv (ks := [1, 2, 0]) rfl ?_
        exact ih x1 (x2 + 1) σ hF
      · refine V_aload_n C 0 dX11_bell_53 rfl ?_
        refine V_aload_n C 0 dX11_bell_54 rfl ?_
        refine gf_X11_25 C dX11_bell_55 ?_
        refine V_iload_n C 2 dX11_bell_58 rfl ?_
        obtain ⟨v4, hv4, hF⟩ := bnd hF
        refine V_iald C (by decide) hv4 dX11_bell_59 ?_
        refine V_iload_n C 2 dX11_bell_60 rfl ?_
        obtain ⟨q5, hq5, hF⟩ := bnd hF
        refine cs_X11_121 C (ct_X11_isEnough hq5) rfl ⟨by decide, by decide⟩ (Nat.le_of_ble_eq_true rfl) dX11_bell_61 ⟨Nat.le_refl 0, Nat.le_refl 0⟩ ?_
        refine V_if_ne C 81 dX11_bell_64 (by decide) hF (fun hF => ?_) (fun hF => ?_)
        · refine V_iinc C (v := (x2 + 1)) (lv' := [(2, .int (x2 + 1)), (0, .ref (ad 11)), (1, .int x1)]) 2 dX11_bell_81 rfl rfl (by decide) rfl ?_
          refine V_goto C 34 dX11_bell_84 (by decide) ?_
          refine V_lv (ks := [1, 2, 0]) rfl ?_
          exact ih x1 (x2 + 1) σ hF
        · refine V_aload_n C 0 dX11_bell_67 rfl ?_
          refine gf_X11_25 C dX11_bell_68 ?_
          refine V_iload_n C 2 dX11_bell_71 rfl ?_
          refine V_bipush C dX11_bell_72 (v := (-9 : Int32)) (by decide) ?_
          obtain ⟨σ6, hs6, hF⟩ := bnd hF
          refine V_iast C (by decide) hs6 dX11_bell_74 ?_
          refine V_iload_n C 1 dX11_bell_75 rfl ?_
          refine V_iconst C dX11_bell_76 (v := (1 : Int32)) (by decide) ?_
          refine V_iload_n C 2 dX11_bell_77 rfl ?_
          refine V_ishl C dX11_bell_78 ?_
          refine V_ior C dX11_bell_79 ?_
          refine V_istore_n C (lv' := [(1, .int (x1 ||| ((1 : Int32) <<< (x2 &&& 31)))), (0, .ref (ad 11)), (2, .int x2)]) dX11_bell_80 rfl (by decide) rfl ?_
          refine V_iinc C (v := (x2 + 1)) (lv' := [(2, .int (x2 + 1)), (1, .int (x1 ||| ((1 : Int32) <<< (x2 &&& 31)))), (0, .ref (ad 11))]) 2 dX11_bell_81 rfl rfl (by decide) rfl ?_
          refine V_goto C 34 dX11_bell_84 (by decide) ?_
          refine V_lv (ks := [2, 1, 0]) rfl ?_
          exact ih (x1 ||| ((1 : Int32) <<< (x2 &&& 31))) (x2 + 1) σ6 hF
set_option maxHeartbeats 4000000 in
set_option maxRecDepth 20000 in
theorem w_X11_bell_b11 {p : Program} {l : Launch} {e : Env} {s : State} {m : MethodId} {args : Array Value} {below : List Frame} {meth : Method} {c : Code} {D : va_G} {T : Nat → ClassId} {ad zz : Nat → Nat} (C : Cx p s m c cX11_bell 3 RX11 (fA ad) D T ad zz) (hr : meth.sig.returnType = (some .int)) (hlk : meth.locks = false) {r : (Int32 × Mem)}  : ∀ (n : Nat), ∀ (x1 : Int32) (σ : Mem), F_X11_bell_b11  n x1 σ = some r → V p l e { frames := 3, cells := 0, slots := 0, locals := 69 } s m args below meth c 0 0 (MQ below (qC (some (.int r.1)) r.2 D T ad) args s 0 0 (fA ad)) 3 (fA ad) D T ad σ 11 [(0, .ref (ad 11)), (1, .int x1)] [] := by
  intro n
  induction n with
  | zero =>
    intro x1 σ hF
    cases (show (none : Option (Int32 × Mem)) = some r from hF)
  | succ n ih =>
    intro x1 σ hF
    rw [F_X11_bell_b11] at hF
    refine V_iload_n C 1 dX11_bell_11 rfl ?_
    refine V_bipush C dX11_bell_12 (v := (20 : Int32)) (by decide) ?_
    refine V_icmp_ge C 30 dX11_bell_14 (by decide) hF (fun hF => ?_) (fun hF => ?_)
    · refine V_iconst C dX11_bell_30 (v := (0 : Int32)) (by decide) ?_
      refine V_istore_n C (lv' := [(1, .int (0 : Int32)), (0, .ref (ad 11))]) dX11_bell_31 rfl (by decide) rfl ?_
      refine V_iconst C dX11_bell_32 (v := (0 : Int32)) (by decide) ?_
      refine V_istore_n C (lv' := [(2, .int (0 : Int32)), (1, .int (0 : Int32)), (0, .ref (ad 11))]) dX11_bell_33 rfl (by decide) rfl ?_
      refine V_lv (ks := [2, 1, 0]) rfl ?_
      exact w_X11_bell_b34 C hr hlk 4000 (0 : Int32) (0 : Int32) σ hF
    · refine V_aload_n C 0 dX11_bell_17 rfl ?_
      refine gf_X11_25 C dX11_bell_18 ?_
      refine V_iload_n C 1 dX11_bell_21 rfl ?_
      refine V_iconst C dX11_bell_22 (v := (0 : Int32)) (by decide) ?_
      obtain ⟨σ7, hs7, hF⟩ := bnd hF
      refine V_iast C (by decide) hs7 dX11_bell_23 ?_
      refine V_iinc C (v := (x1 + 1)) (lv' := [(1, .int (x1 + 1)), (0, .ref (ad 11))]) 1 dX11_bell_24 rfl rfl (by decide) rfl ?_
      refine V_goto C 11 dX11_bell_27 (by decide) ?_
      refine V_lv (ks := [1, 0]) rfl ?_
      exact ih (x1 + 1) σ7 hF
set_option maxHeartbeats 4000000 in
set_option maxRecDepth 20000 in
theorem ct_X11_bell {σ : Mem} {r : (Int32 × Mem)} (hF : F_X11_bell σ = some r) : Ct yX11_bell cX11_bell 3 (some .int) 3 69 (fun ad zz => [.ref (ad 11)]) σ (fun ad => (some (.int r.1))) r.2 := by
  refine Ct_of (by decide +kernel) (lv := fun ad zz => [(0, .ref (ad 11))]) (fun _ _ => rfl) (fun _ _ => Nat.le_of_ble_eq_true rfl) (fun p l e s m args below meth c D T ad zz C hr hlk => ?_)
  rw [F_X11_bell] at hF
  refine V_aload_n C 0 dX11_bell_0 rfl ?_
  refine V_iconst C dX11_bell_1 (v := (0 : Int32)) (by decide) ?_
  obtain ⟨σ1, hs1, hF⟩ := bnd hF
  refine pf_X11_56 C hs1 dX11_bell_2 ?_
  refine V_aload_n C 0 dX11_bell_5 rfl ?_
  obtain ⟨σ2, hs2, hF⟩ := bnd hF
  refine cs_X11_159 C (ct_X11_note hs2) rfl ⟨by decide, by decide⟩ (Nat.le_of_ble_eq_true rfl) dX11_bell_6 ⟨Nat.le_refl 0, Nat.le_refl 0⟩ ?_
  refine V_iconst C dX11_bell_9 (v := (5 : Int32)) (by decide) ?_
  refine V_istore_n C (lv' := [(1, .int (5 : Int32)), (0, .ref (ad 11))]) dX11_bell_10 rfl (by decide) rfl ?_
  refine V_lv (ks := [1, 0]) rfl ?_
  exact w_X11_bell_b11 C hr hlk 4000 (5 : Int32) σ2 hF

def F_X11_undo_b27  : Nat → Int32 → Mem → Option (Int32 × Mem)
  | 0, _, _ => none
  | n + 1, x1, σ =>
    if (21 : Int32) ≤ x1 then
      some ((σ.1 27), σ)
    else
      Option.bind (rdA σ 59 (((21 : Int32) * (σ.1 27)) + x1)) fun v3 =>
      Option.bind (wrA σ 58 x1 v3) fun σ4 =>
      (F_X11_undo_b27 n) (x1 + 1) σ4
def F_X11_undo (σ : Mem) : Option (Int32 × Mem) :=
  Option.bind (stI σ 20 (0 : Int32)) fun σ1 =>
  if (σ1.1 27) = 0 then
    some ((-3 : Int32), σ1)
  else
    Option.bind (stI σ1 27 ((σ1.1 27) - (1 : Int32))) fun σ2 =>
    F_X11_undo_b27 4000 (0 : Int32) σ2
set_option maxHeartbeats 4000000 in
set_option maxRecDepth 20000 in
theorem w_X11_undo_b27 {p : Program} {l : Launch} {e : Env} {s : State} {m : MethodId} {args : Array Value} {below : List Frame} {meth : Method} {c : Code} {D : va_G} {T : Nat → ClassId} {ad zz : Nat → Nat} (C : Cx p s m c cX11_undo 2 RX11 (fA ad) D T ad zz) (hr : meth.sig.returnType = (some .int)) (hlk : meth.locks = false) {r : (Int32 × Mem)}  : ∀ (n : Nat), ∀ (x1 : Int32) (σ : Mem), F_X11_undo_b27  n x1 σ = some r → V p l e { frames := 0, cells := 0, slots := 0, locals := 0 } s m args below meth c 0 0 (MQ below (qC (some (.int r.1)) r.2 D T ad) args s 0 0 (fA ad)) 2 (fA ad) D T ad σ 27 [(0, .ref (ad 11)), (1, .int x1)] [] := by
  intro n
  induction n with
  | zero =>
    intro x1 σ hF
    cases (show (none : Option (Int32 × Mem)) = some r from hF)
  | succ n ih =>
    intro x1 σ hF
    rw [F_X11_undo_b27] at hF
    refine V_iload_n C 1 dX11_undo_27 rfl ?_
    refine V_bipush C dX11_undo_28 (v := (21 : Int32)) (by decide) ?_
    refine V_icmp_ge C 59 dX11_undo_30 (by decide) hF (fun hF => ?_) (fun hF => ?_)
    · refine V_aload_n C 0 dX11_undo_59 rfl ?_
      refine gf_X11_100 C dX11_undo_60 ?_
      cases hF
      exact V_iret C hr hlk rfl rfl dX11_undo_63
    · refine V_aload_n C 0 dX11_undo_33 rfl ?_
      refine gf_X11_25 C dX11_undo_34 ?_
      refine V_iload_n C 1 dX11_undo_37 rfl ?_
      refine V_aload_n C 0 dX11_undo_38 rfl ?_
      refine gf_X11_28 C dX11_undo_39 ?_
      refine V_bipush C dX11_undo_42 (v := (21 : Int32)) (by decide) ?_
      refine V_aload_n C 0 dX11_undo_44 rfl ?_
      refine gf_X11_100 C dX11_undo_45 ?_
      refine V_imul C dX11_undo_48 ?_
      refine V_iload_n C 1 dX11_undo_49 rfl ?_
      refine V_iadd C dX11_undo_50 ?_
      obtain ⟨v3, hv3, hF⟩ := bnd hF
      refine V_iald C (by decide) hv3 dX11_undo_51 ?_
      obtain ⟨σ4, hs4, hF⟩ := bnd hF
      refine V_iast C (by decide) hs4 dX11_undo_52 ?_
      refine V_iinc C (v := (x1 + 1)) (lv' := [(1, .int (x1 + 1)), (0, .ref (ad 11))]) 1 dX11_undo_53 rfl rfl (by decide) rfl ?_
      refine V_goto C 27 dX11_undo_56 (by decide) ?_
      refine V_lv (ks := [1, 0]) rfl ?_
      exact ih (x1 + 1) σ4 hF
set_option maxHeartbeats 4000000 in
set_option maxRecDepth 20000 in
theorem ct_X11_undo {σ : Mem} {r : (Int32 × Mem)} (hF : F_X11_undo σ = some r) : Ct yX11_undo cX11_undo 2 (some .int) 0 0 (fun ad zz => [.ref (ad 11)]) σ (fun ad => (some (.int r.1))) r.2 := by
  refine Ct_of (by decide +kernel) (lv := fun ad zz => [(0, .ref (ad 11))]) (fun _ _ => rfl) (fun _ _ => Nat.le_of_ble_eq_true rfl) (fun p l e s m args below meth c D T ad zz C hr hlk => ?_)
  rw [F_X11_undo] at hF
  refine V_aload_n C 0 dX11_undo_0 rfl ?_
  refine V_iconst C dX11_undo_1 (v := (0 : Int32)) (by decide) ?_
  obtain ⟨σ1, hs1, hF⟩ := bnd hF
  refine pf_X11_56 C hs1 dX11_undo_2 ?_
  refine V_aload_n C 0 dX11_undo_5 rfl ?_
  refine gf_X11_100 C dX11_undo_6 ?_
  refine V_if_ne C 15 dX11_undo_9 (by decide) hF (fun hF => ?_) (fun hF => ?_)
  · refine V_aload_n C 0 dX11_undo_15 rfl ?_
    refine V_dup C dX11_undo_16 rfl ?_
    refine gf_X11_100 C dX11_undo_17 ?_
    refine V_iconst C dX11_undo_20 (v := (1 : Int32)) (by decide) ?_
    refine V_isub C dX11_undo_21 ?_
    obtain ⟨σ2, hs2, hF⟩ := bnd hF
    refine pf_X11_100 C hs2 dX11_undo_22 ?_
    refine V_iconst C dX11_undo_25 (v := (0 : Int32)) (by decide) ?_
    refine V_istore_n C (lv' := [(1, .int (0 : Int32)), (0, .ref (ad 11))]) dX11_undo_26 rfl (by decide) rfl ?_
    refine V_lv (ks := [1, 0]) rfl ?_
    exact w_X11_undo_b27 C hr hlk 4000 (0 : Int32) σ2 hF
  · refine V_bipush C dX11_undo_12 (v := (-3 : Int32)) (by decide) ?_
    cases hF
    exact V_iret C hr hlk rfl rfl dX11_undo_14

def F_X11_bolts (a1 : Int32) (a2 : Int32) (σ : Mem) : Option (Int32 × Mem) :=
  Option.bind (stI σ 20 (0 : Int32)) fun σ1 =>
  Option.bind (F_X11_noRider a1 σ1) fun q2 =>
  if q2 = 0 then
    Option.bind (F_X11_noHorse a2 σ1) fun q3 =>
    if q3 = 0 then
      Option.bind (F_X11_bolt 58 a1 a2 σ1) fun q4 =>
      if q4 = 0 then
        some ((0 : Int32), σ1)
      else
        some ((1 : Int32), σ1)
    else
      some ((-1 : Int32), σ1)
  else
    some ((-1 : Int32), σ1)
set_option maxHeartbeats 4000000 in
set_option maxRecDepth 20000 in
theorem ct_X11_bolts {a1 : Int32} {a2 : Int32} {σ : Mem} {r : (Int32 × Mem)} (hF : F_X11_bolts a1 a2 σ = some r) : Ct yX11_bolts cX11_bolts 3 (some .int) 5 118 (fun ad zz => [.ref (ad 11), .int a1, .int a2]) σ (fun ad => (some (.int r.1))) r.2 := by
  refine Ct_of (by decide +kernel) (lv := fun ad zz => [(0, .ref (ad 11)), (1, .int a1), (2, .int a2)]) (fun _ _ => rfl) (fun _ _ => Nat.le_of_ble_eq_true rfl) (fun p l e s m args below meth c D T ad zz C hr hlk => ?_)
  rw [F_X11_bolts] at hF
  refine V_aload_n C 0 dX11_bolts_0 rfl ?_
  refine V_iconst C dX11_bolts_1 (v := (0 : Int32)) (by decide) ?_
  obtain ⟨σ1, hs1, hF⟩ := bnd hF
  refine pf_X11_56 C hs1 dX11_bolts_2 ?_
  refine V_aload_n C 0 dX11_bolts_5 rfl ?_
  refine V_iload_n C 1 dX11_bolts_6 rfl ?_
  obtain ⟨q2, hq2, hF⟩ := bnd hF
  refine cs_X11_153 C (ct_X11_noRider hq2) rfl ⟨by decide, by decide⟩ (Nat.le_of_ble_eq_true rfl) dX11_bolts_7 ⟨Nat.le_refl 0, Nat.le_refl 0⟩ ?_
  refine V_if_ne C 21 dX11_bolts_10 (by decide) hF (fun hF => ?_) (fun hF => ?_)
  · refine V_iconst C dX11_bolts_21 (v := (-1 : Int32)) (by decide) ?_
    refine V_goto C 43 dX11_bolts_22 (by decide) ?_
    cases hF
    exact V_iret C hr hlk rfl rfl dX11_bolts_43
  · refine V_aload_n C 0 dX11_bolts_13 rfl ?_
    refine V_iload_n C 2 dX11_bolts_14 rfl ?_
    obtain ⟨q3, hq3, hF⟩ := bnd hF
    refine cs_X11_149 C (ct_X11_noHorse hq3) rfl ⟨by decide, by decide⟩ (Nat.le_of_ble_eq_true rfl) dX11_bolts_15 ⟨Nat.le_refl 0, Nat.le_refl 0⟩ ?_
    refine V_if_eq C 25 dX11_bolts_18 (by decide) hF (fun hF => ?_) (fun hF => ?_)
    · refine V_aload_n C 0 dX11_bolts_25 rfl ?_
      refine V_aload_n C 0 dX11_bolts_26 rfl ?_
      refine gf_X11_25 C dX11_bolts_27 ?_
      refine V_iload_n C 1 dX11_bolts_30 rfl ?_
      refine V_iload_n C 2 dX11_bolts_31 rfl ?_
      obtain ⟨q4, hq4, hF⟩ := bnd hF
      refine cs_X11_135 C (ct_X11_bolt (by decide) hq4) rfl ⟨by decide, by decide⟩ (Nat.le_of_ble_eq_true rfl) dX11_bolts_32 ⟨Nat.le_refl 0, Nat.le_refl 0⟩ ?_
      refine V_if_eq C 42 dX11_bolts_35 (by decide) hF (fun hF => ?_) (fun hF => ?_)
      · refine V_iconst C dX11_bolts_42 (v := (0 : Int32)) (by decide) ?_
        cases hF
        exact V_iret C hr hlk rfl rfl dX11_bolts_43
      · refine V_iconst C dX11_bolts_38 (v := (1 : Int32)) (by decide) ?_
        refine V_goto C 43 dX11_bolts_39 (by decide) ?_
        cases hF
        exact V_iret C hr hlk rfl rfl dX11_bolts_43
    · refine V_iconst C dX11_bolts_21 (v := (-1 : Int32)) (by decide) ?_
      refine V_goto C 43 dX11_bolts_22 (by decide) ?_
      cases hF
      exact V_iret C hr hlk rfl rfl dX11_bolts_43
