-- walks: X11_fair X11_shows X11_worthOf X11_isEnough X11_likesRider X11_likesHorse X11_keeps X11_isFull X11_leastOf X11_bolt X11_boltsOf X11_takenOf
def F_X11_fair_b96  : Nat → Int32 → Mem → Option (Int32 × Mem)
  | 0, _, _ => none
  | n + 1, x1, σ =>
    if (21 : Int32) ≤ x1 then
      Option.bind (stI σ 27 (0 : Int32)) fun σ5 =>
      Option.bind (wrA σ5 67 (0 : Int32) (0 : Int32)) fun σ6 =>
      Option.bind (wrA σ6 67 (1 : Int32) (0 : Int32)) fun σ7 =>
      some ((((10 : Int32) * (σ7.1 23)) + (σ7.1 24)), σ7)
    else
      if (5 : Int32) ≤ x1 then
        Option.bind (wrA σ 58 x1 (0 : Int32)) fun σ8 =>
        (F_X11_fair_b96 n) (x1 + 1) σ8
      else
        Option.bind (wrA σ 58 x1 (-9 : Int32)) fun σ9 =>
        (F_X11_fair_b96 n) (x1 + 1) σ9
def F_X11_fair_b66  : Nat → Int32 → Mem → Option (Int32 × Mem)
  | 0, _, _ => none
  | n + 1, x1, σ =>
    if ((4 : Int32) * (σ.1 24)) ≤ x1 then
      F_X11_fair_b96 4000 (0 : Int32) σ
    else
      Option.bind (rdA σ 57 x1) fun v10 =>
      Option.bind (wrA σ 55 x1 v10) fun σ11 =>
      (F_X11_fair_b66 n) (x1 + 1) σ11
def F_X11_fair_b35  : Nat → Int32 → Mem → Option (Int32 × Mem)
  | 0, _, _ => none
  | n + 1, x1, σ =>
    if ((7 : Int32) * (σ.1 23)) ≤ x1 then
      F_X11_fair_b66 4000 (0 : Int32) σ
    else
      Option.bind (rdA σ 56 x1) fun v12 =>
      Option.bind (wrA σ 54 x1 v12) fun σ13 =>
      (F_X11_fair_b35 n) (x1 + 1) σ13
def F_X11_fair (σ : Mem) : Option (Int32 × Mem) :=
  Option.bind (stI σ 20 (0 : Int32)) fun σ1 =>
  Option.bind (F_X11_readFair σ1) fun q2 =>
  if q2.1 = (-9 : Int32) then
    Option.bind (stI q2.2 23 (q2.2.1 25)) fun σ3 =>
    Option.bind (stI σ3 24 (σ3.1 26)) fun σ4 =>
    F_X11_fair_b35 4000 (0 : Int32) σ4
  else
    some ((-3 : Int32), q2.2)
set_option maxHeartbeats 4000000 in
set_option maxRecDepth 20000 in
theorem w_X11_fair_b96 {p : Program} {l : Launch} {e : Env} {s : State} {m : MethodId} {args : Array Value} {below : List Frame} {meth : Method} {c : Code} {D : va_G} {T : Nat → ClassId} {ad zz : Nat → Nat} (C : Cx p s m c cX11_fair 2 RX11 (fA ad) D T ad zz) (hr : meth.sig.returnType = (some .int)) (hlk : meth.locks = false) {r : (Int32 × Mem)}  : ∀ (n : Nat), ∀ (x1 : Int32) (σ : Mem), F_X11_fair_b96  n x1 σ = some r → V p l e { frames := 5, cells := 0, slots := 0, locals := 112 } s m args below meth c 0 0 (MQ below (qC (some (.int r.1)) r.2 D T ad) args s 0 0 (fA ad)) 2 (fA ad) D T ad σ 96 [(0, .ref (ad 11)), (1, .int x1)] [] := by
  intro n
  induction n with
  | zero =>
    intro x1 σ hF
    cases (show (none : Option (Int32 × Mem)) = some r from hF)
  | succ n ih =>
    intro x1 σ hF
    rw [F_X11_fair_b96] at hF
    refine V_iload_n C 1 dX11_fair_96 rfl ?_
    refine V_bipush C dX11_fair_97 (v := (21 : Int32)) (by decide) ?_
    refine V_icmp_ge C 125 dX11_fair_99 (by decide) hF (fun hF => ?_) (fun hF => ?_)
    · refine V_aload_n C 0 dX11_fair_125 rfl ?_
      refine V_iconst C dX11_fair_126 (v := (0 : Int32)) (by decide) ?_
      obtain ⟨σ5, hs5, hF⟩ := bnd hF
      refine pf_X11_100 C hs5 dX11_fair_127 ?_
      refine V_aload_n C 0 dX11_fair_130 rfl ?_
      refine gf_X11_34 C dX11_fair_131 ?_
      refine V_iconst C dX11_fair_134 (v := (0 : Int32)) (by decide) ?_
      refine V_iconst C dX11_fair_135 (v := (0 : Int32)) (by decide) ?_
      obtain ⟨σ6, hs6, hF⟩ := bnd hF
      refine V_zast C hs6 (by decide) dX11_fair_136 ?_
      refine V_aload_n C 0 dX11_fair_137 rfl ?_
      refine gf_X11_34 C dX11_fair_138 ?_
      refine V_iconst C dX11_fair_141 (v := (1 : Int32)) (by decide) ?_
      refine V_iconst C dX11_fair_142 (v := (0 : Int32)) (by decide) ?_
      obtain ⟨σ7, hs7, hF⟩ := bnd hF
      refine V_zast C hs7 (by decide) dX11_fair_143 ?_
      refine V_bipush C dX11_fair_144 (v := (10 : Int32)) (by decide) ?_
      refine V_aload_n C 0 dX11_fair_146 rfl ?_
      refine gf_X11_60 C dX11_fair_147 ?_
      refine V_imul C dX11_fair_150 ?_
      refine V_aload_n C 0 dX11_fair_151 rfl ?_
      refine gf_X11_67 C dX11_fair_152 ?_
      refine V_iadd C dX11_fair_155 ?_
      cases hF
      exact V_iret C hr hlk rfl rfl dX11_fair_156
    · refine V_aload_n C 0 dX11_fair_102 rfl ?_
      refine gf_X11_25 C dX11_fair_103 ?_
      refine V_iload_n C 1 dX11_fair_106 rfl ?_
      refine V_iload_n C 1 dX11_fair_107 rfl ?_
      refine V_iconst C dX11_fair_108 (v := (5 : Int32)) (by decide) ?_
      refine V_icmp_ge C 117 dX11_fair_109 (by decide) hF (fun hF => ?_) (fun hF => ?_)
      · refine V_iconst C dX11_fair_117 (v := (0 : Int32)) (by decide) ?_
        obtain ⟨σ8, hs8, hF⟩ := bnd hF
        refine V_iast C (by decide) hs8 dX11_fair_118 ?_
        refine V_iinc C (v := (x1 + 1)) (lv' := [(1, .int (x1 + 1)), (0, .ref (ad 11))]) 1 dX11_fair_119 rfl rfl (by decide) rfl ?_
        refine V_goto C 96 dX11_fair_122 (by decide) ?_
        refine V_lv (ks := [1, 0]) rfl ?_
        exact ih (x1 + 1) σ8 hF
      · refine V_bipush C dX11_fair_112 (v := (-9 : Int32)) (by decide) ?_
        refine V_goto C 118 dX11_fair_114 (by decide) ?_
        obtain ⟨σ9, hs9, hF⟩ := bnd hF
        refine V_iast C (by decide) hs9 dX11_fair_118 ?_
        refine V_iinc C (v := (x1 + 1)) (lv' := [(1, .int (x1 + 1)), (0, .ref (ad 11))]) 1 dX11_fair_119 rfl rfl (by decide) rfl ?_
        refine V_goto C 96 dX11_fair_122 (by decide) ?_
        refine V_lv (ks := [1, 0]) rfl ?_
        exact ih (x1 + 1) σ9 hF
set_option maxHeartbeats 4000000 in
set_option maxRecDepth 20000 in
theorem w_X11_fair_b66 {p : Program} {l : Launch} {e : Env} {s : State} {m : MethodId} {args : Array Value} {below : List Frame} {meth : Method} {c : Code} {D : va_G} {T : Nat → ClassId} {ad zz : Nat → Nat} (C : Cx p s m c cX11_fair 2 RX11 (fA ad) D T ad zz) (hr : meth.sig.returnType = (some .int)) (hlk : meth.locks = false) {r : (Int32 × Mem)}  : ∀ (n : Nat), ∀ (x1 : Int32) (σ : Mem), F_X11_fair_b66  n x1 σ = some r → V p l e { frames := 5, cells := 0, slots := 0, locals := 112 } s m args below meth c 0 0 (MQ below (qC (some (.int r.1)) r.2 D T ad) args s 0 0 (fA ad)) 2 (fA ad) D T ad σ 66 [(0, .ref (ad 11)), (1, .int x1)] [] := by
  intro n
  induction n with
  | zero =>
    intro x1 σ hF
    cases (show (none : Option (Int32 × Mem)) = some r from hF)
  | succ n ih =>
    intro x1 σ hF
    rw [F_X11_fair_b66] at hF
    refine V_iload_n C 1 dX11_fair_66 rfl ?_
    refine V_iconst C dX11_fair_67 (v := (4 : Int32)) (by decide) ?_
    refine V_aload_n C 0 dX11_fair_68 rfl ?_
    refine gf_X11_67 C dX11_fair_69 ?_
    refine V_imul C dX11_fair_72 ?_
    refine V_icmp_ge C 94 dX11_fair_73 (by decide) hF (fun hF => ?_) (fun hF => ?_)
    · refine V_iconst C dX11_fair_94 (v := (0 : Int32)) (by decide) ?_
      refine V_istore_n C (lv' := [(1, .int (0 : Int32)), (0, .ref (ad 11))]) dX11_fair_95 rfl (by decide) rfl ?_
      refine V_lv (ks := [1, 0]) rfl ?_
      exact w_X11_fair_b96 C hr hlk 4000 (0 : Int32) σ hF
    · refine V_aload_n C 0 dX11_fair_76 rfl ?_
      refine gf_X11_16 C dX11_fair_77 ?_
      refine V_iload_n C 1 dX11_fair_80 rfl ?_
      refine V_aload_n C 0 dX11_fair_81 rfl ?_
      refine gf_X11_22 C dX11_fair_82 ?_
      refine V_iload_n C 1 dX11_fair_85 rfl ?_
      obtain ⟨v10, hv10, hF⟩ := bnd hF
      refine V_iald C (by decide) hv10 dX11_fair_86 ?_
      obtain ⟨σ11, hs11, hF⟩ := bnd hF
      refine V_iast C (by decide) hs11 dX11_fair_87 ?_
      refine V_iinc C (v := (x1 + 1)) (lv' := [(1, .int (x1 + 1)), (0, .ref (ad 11))]) 1 dX11_fair_88 rfl rfl (by decide) rfl ?_
      refine V_goto C 66 dX11_fair_91 (by decide) ?_
      refine V_lv (ks := [1, 0]) rfl ?_
      exact ih (x1 + 1) σ11 hF
set_option maxHeartbeats 4000000 in
set_option maxRecDepth 20000 in
theorem w_X11_fair_b35 {p : Program} {l : Launch} {e : Env} {s : State} {m : MethodId} {args : Array Value} {below : List Frame} {meth : Method} {c : Code} {D : va_G} {T : Nat → ClassId} {ad zz : Nat → Nat} (C : Cx p s m c cX11_fair 2 RX11 (fA ad) D T ad zz) (hr : meth.sig.returnType = (some .int)) (hlk : meth.locks = false) {r : (Int32 × Mem)}  : ∀ (n : Nat), ∀ (x1 : Int32) (σ : Mem), F_X11_fair_b35  n x1 σ = some r → V p l e { frames := 5, cells := 0, slots := 0, locals := 112 } s m args below meth c 0 0 (MQ below (qC (some (.int r.1)) r.2 D T ad) args s 0 0 (fA ad)) 2 (fA ad) D T ad σ 35 [(0, .ref (ad 11)), (1, .int x1)] [] := by
  intro n
  induction n with
  | zero =>
    intro x1 σ hF
    cases (show (none : Option (Int32 × Mem)) = some r from hF)
  | succ n ih =>
    intro x1 σ hF
    rw [F_X11_fair_b35] at hF
    refine V_iload_n C 1 dX11_fair_35 rfl ?_
    refine V_bipush C dX11_fair_36 (v := (7 : Int32)) (by decide) ?_
    refine V_aload_n C 0 dX11_fair_38 rfl ?_
    refine gf_X11_60 C dX11_fair_39 ?_
    refine V_imul C dX11_fair_42 ?_
    refine V_icmp_ge C 64 dX11_fair_43 (by decide) hF (fun hF => ?_) (fun hF => ?_)
    · refine V_iconst C dX11_fair_64 (v := (0 : Int32)) (by decide) ?_
      refine V_istore_n C (lv' := [(1, .int (0 : Int32)), (0, .ref (ad 11))]) dX11_fair_65 rfl (by decide) rfl ?_
      refine V_lv (ks := [1, 0]) rfl ?_
      exact w_X11_fair_b66 C hr hlk 4000 (0 : Int32) σ hF
    · refine V_aload_n C 0 dX11_fair_46 rfl ?_
      refine gf_X11_13 C dX11_fair_47 ?_
      refine V_iload_n C 1 dX11_fair_50 rfl ?_
      refine V_aload_n C 0 dX11_fair_51 rfl ?_
      refine gf_X11_19 C dX11_fair_52 ?_
      refine V_iload_n C 1 dX11_fair_55 rfl ?_
      obtain ⟨v12, hv12, hF⟩ := bnd hF
      refine V_iald C (by decide) hv12 dX11_fair_56 ?_
      obtain ⟨σ13, hs13, hF⟩ := bnd hF
      refine V_iast C (by decide) hs13 dX11_fair_57 ?_
      refine V_iinc C (v := (x1 + 1)) (lv' := [(1, .int (x1 + 1)), (0, .ref (ad 11))]) 1 dX11_fair_58 rfl rfl (by decide) rfl ?_
      refine V_goto C 35 dX11_fair_61 (by decide) ?_
      refine V_lv (ks := [1, 0]) rfl ?_
      exact ih (x1 + 1) σ13 hF
set_option maxHeartbeats 4000000 in
set_option maxRecDepth 20000 in
theorem ct_X11_fair {σ : Mem} {r : (Int32 × Mem)} (hF : F_X11_fair σ = some r) : Ct yX11_fair cX11_fair 2 (some .int) 5 112 (fun ad zz => [.ref (ad 11)]) σ (fun ad => (some (.int r.1))) r.2 := by
  refine Ct_of (by decide +kernel) (lv := fun ad zz => [(0, .ref (ad 11))]) (fun _ _ => rfl) (fun _ _ => Nat.le_of_ble_eq_true rfl) (fun p l e s m args below meth c D T ad zz C hr hlk => ?_)
  rw [F_X11_fair] at hF
  refine V_aload_n C 0 dX11_fair_0 rfl ?_
  refine V_iconst C dX11_fair_1 (v := (0 : Int32)) (by decide) ?_
  obtain ⟨σ1, hs1, hF⟩ := bnd hF
  refine pf_X11_56 C hs1 dX11_fair_2 ?_
  refine V_aload_n C 0 dX11_fair_5 rfl ?_
  obtain ⟨q2, hq2, hF⟩ := bnd hF
  refine cs_X11_96 C (ct_X11_readFair hq2) rfl ⟨by decide, by decide⟩ (Nat.le_of_ble_eq_true rfl) dX11_fair_6 ⟨Nat.le_refl 0, Nat.le_refl 0⟩ ?_
  refine V_bipush C dX11_fair_9 (v := (-9 : Int32)) (by decide) ?_
  refine V_icmp_eq C 17 dX11_fair_11 (by decide) hF (fun hF => ?_) (fun hF => ?_)
  · refine V_aload_n C 0 dX11_fair_17 rfl ?_
    refine V_aload_n C 0 dX11_fair_18 rfl ?_
    refine gf_X11_78 C dX11_fair_19 ?_
    obtain ⟨σ3, hs3, hF⟩ := bnd hF
    refine pf_X11_60 C hs3 dX11_fair_22 ?_
    refine V_aload_n C 0 dX11_fair_25 rfl ?_
    refine V_aload_n C 0 dX11_fair_26 rfl ?_
    refine gf_X11_85 C dX11_fair_27 ?_
    obtain ⟨σ4, hs4, hF⟩ := bnd hF
    refine pf_X11_67 C hs4 dX11_fair_30 ?_
    refine V_iconst C dX11_fair_33 (v := (0 : Int32)) (by decide) ?_
    refine V_istore_n C (lv' := [(1, .int (0 : Int32)), (0, .ref (ad 11))]) dX11_fair_34 rfl (by decide) rfl ?_
    refine V_lv (ks := [1, 0]) rfl ?_
    exact w_X11_fair_b35 C hr hlk 4000 (0 : Int32) σ4 hF
  · refine V_bipush C dX11_fair_14 (v := (-3 : Int32)) (by decide) ?_
    cases hF
    exact V_iret C hr hlk rfl rfl dX11_fair_16

def F_X11_shows (a1 : Int32) (a2 : Int32) (σ : Mem) : Option Int32 :=
  Option.bind (rdA σ 55 (((4 : Int32) * a1) + a2)) fun v1 =>
  Option.bind (rdA σ 58 (((5 : Int32) + ((3 : Int32) * a1)) + a2)) fun v2 =>
  Option.bind (rdA σ 66 (((3 : Int32) * a1) + a2)) fun v3 =>
  if ((v1 + v2) + v3) ≤ (9 : Int32) then
    some ((v1 + v2) + v3)
  else
    some (9 : Int32)
set_option maxHeartbeats 4000000 in
set_option maxRecDepth 20000 in
theorem ct_X11_shows {a1 : Int32} {a2 : Int32} {σ : Mem} {r : Int32} (hF : F_X11_shows a1 a2 σ = some r) : Ct yX11_shows cX11_shows 4 (some .int) 0 0 (fun ad zz => [.ref (ad 11), .int a1, .int a2]) σ (fun ad => (some (.int r))) σ := by
  refine Ct_of (by decide +kernel) (lv := fun ad zz => [(0, .ref (ad 11)), (1, .int a1), (2, .int a2)]) (fun _ _ => rfl) (fun _ _ => Nat.le_of_ble_eq_true rfl) (fun p l e s m args below meth c D T ad zz C hr hlk => ?_)
  rw [F_X11_shows] at hF
  refine V_aload_n C 0 dX11_shows_0 rfl ?_
  refine gf_X11_16 C dX11_shows_1 ?_
  refine V_iconst C dX11_shows_4 (v := (4 : Int32)) (by decide) ?_
  refine V_iload_n C 1 dX11_shows_5 rfl ?_
  refine V_imul C dX11_shows_6 ?_
  refine V_iload_n C 2 dX11_shows_7 rfl ?_
  refine V_iadd C dX11_shows_8 ?_
  obtain ⟨v1, hv1, hF⟩ := bnd hF
  refine V_iald C (by decide) hv1 dX11_shows_9 ?_
  refine V_aload_n C 0 dX11_shows_10 rfl ?_
  refine gf_X11_25 C dX11_shows_11 ?_
  refine V_iconst C dX11_shows_14 (v := (5 : Int32)) (by decide) ?_
  refine V_iconst C dX11_shows_15 (v := (3 : Int32)) (by decide) ?_
  refine V_iload_n C 1 dX11_shows_16 rfl ?_
  refine V_imul C dX11_shows_17 ?_
  refine V_iadd C dX11_shows_18 ?_
  refine V_iload_n C 2 dX11_shows_19 rfl ?_
  refine V_iadd C dX11_shows_20 ?_
  obtain ⟨v2, hv2, hF⟩ := bnd hF
  refine V_iald C (by decide) hv2 dX11_shows_21 ?_
  refine V_iadd C dX11_shows_22 ?_
  refine V_aload_n C 0 dX11_shows_23 rfl ?_
  refine gf_X11_53 C dX11_shows_24 ?_
  refine V_iconst C dX11_shows_27 (v := (3 : Int32)) (by decide) ?_
  refine V_iload_n C 1 dX11_shows_28 rfl ?_
  refine V_imul C dX11_shows_29 ?_
  refine V_iload_n C 2 dX11_shows_30 rfl ?_
  refine V_iadd C dX11_shows_31 ?_
  obtain ⟨v3, hv3, hF⟩ := bnd hF
  refine V_iald C (by decide) hv3 dX11_shows_32 ?_
  refine V_iadd C dX11_shows_33 ?_
  refine V_istore_n C (lv' := [(3, .int ((v1 + v2) + v3)), (0, .ref (ad 11)), (1, .int a1), (2, .int a2)]) dX11_shows_34 rfl (by decide) rfl ?_
  refine V_iload_n C 0 dX11_shows_35 rfl ?_
  refine V_bipush C dX11_shows_36 (v := (9 : Int32)) (by decide) ?_
  refine V_icmp_le C 46 dX11_shows_38 (by decide) hF (fun hF => ?_) (fun hF => ?_)
  · refine V_iload_n C 0 dX11_shows_46 rfl ?_
    cases hF
    exact V_iret C hr hlk rfl rfl dX11_shows_47
  · refine V_bipush C dX11_shows_41 (v := (9 : Int32)) (by decide) ?_
    refine V_goto C 47 dX11_shows_43 (by decide) ?_
    cases hF
    exact V_iret C hr hlk rfl rfl dX11_shows_47

def F_X11_worthOf_b5 (σ : Mem) : Nat → Int32 → Int32 → Int32 → Int32 → Option Int32
  | 0, _, _, _, _ => none
  | n + 1, x1, x2, x3, x4 =>
    if (3 : Int32) ≤ x4 then
      some x3
    else
      Option.bind (rdA σ 54 ((((7 : Int32) * x1) + (1 : Int32)) + x4)) fun v1 =>
      Option.bind (F_X11_shows x2 x4 σ) fun q2 =>
      (F_X11_worthOf_b5 σ n) x1 x2 (x3 + (v1 * q2)) (x4 + 1)
def F_X11_worthOf (a1 : Int32) (a2 : Int32) (σ : Mem) : Option Int32 :=
  F_X11_worthOf_b5 σ 4000 a1 a2 (0 : Int32) (0 : Int32)
set_option maxHeartbeats 4000000 in
set_option maxRecDepth 20000 in
theorem w_X11_worthOf_b5 {p : Program} {l : Launch} {e : Env} {s : State} {m : MethodId} {args : Array Value} {below : List Frame} {meth : Method} {c : Code} {D : va_G} {T : Nat → ClassId} {ad zz : Nat → Nat} (C : Cx p s m c cX11_worthOf 5 RX11 (fA ad) D T ad zz) (hr : meth.sig.returnType = (some .int)) (hlk : meth.locks = false) {σ : Mem} {r : Int32}  : ∀ (n : Nat), ∀ (x1 : Int32) (x2 : Int32) (x3 : Int32) (x4 : Int32), F_X11_worthOf_b5 σ n x1 x2 x3 x4 = some r → V p l e { frames := 1, cells := 0, slots := 0, locals := 23 } s m args below meth c 0 0 (MQ below (qC (some (.int r)) σ D T ad) args s 0 0 (fA ad)) 5 (fA ad) D T ad σ 5 [(0, .ref (ad 11)), (1, .int x1), (2, .int x2), (3, .int x3), (4, .int x4)] [] := by
  intro n
  induction n with
  | zero =>
    intro x1 x2 x3 x4 hF
    cases (show (none : Option Int32) = some r from hF)
  | succ n ih =>
    intro x1 x2 x3 x4 hF
    rw [F_X11_worthOf_b5] at hF
    refine V_iload C 4 dX11_worthOf_5 rfl ?_
    refine V_iconst C dX11_worthOf_7 (v := (3 : Int32)) (by decide) ?_
    refine V_icmp_ge C 42 dX11_worthOf_8 (by decide) hF (fun hF => ?_) (fun hF => ?_)
    · refine V_iload_n C 3 dX11_worthOf_42 rfl ?_
      cases hF
      exact V_iret C hr hlk rfl rfl dX11_worthOf_43
    · refine V_iload_n C 3 dX11_worthOf_11 rfl ?_
      refine V_aload_n C 0 dX11_worthOf_12 rfl ?_
      refine gf_X11_13 C dX11_worthOf_13 ?_
      refine V_bipush C dX11_worthOf_16 (v := (7 : Int32)) (by decide) ?_
      refine V_iload_n C 1 dX11_worthOf_18 rfl ?_
      refine V_imul C dX11_worthOf_19 ?_
      refine V_iconst C dX11_worthOf_20 (v := (1 : Int32)) (by decide) ?_
      refine V_iadd C dX11_worthOf_21 ?_
      refine V_iload C 4 dX11_worthOf_22 rfl ?_
      refine V_iadd C dX11_worthOf_24 ?_
      obtain ⟨v1, hv1, hF⟩ := bnd hF
      refine V_iald C (by decide) hv1 dX11_worthOf_25 ?_
      refine V_aload_n C 0 dX11_worthOf_26 rfl ?_
      refine V_iload_n C 2 dX11_worthOf_27 rfl ?_
      refine V_iload C 4 dX11_worthOf_28 rfl ?_
      obtain ⟨q2, hq2, hF⟩ := bnd hF
      refine cs_X11_103 C (ct_X11_shows hq2) rfl ⟨by decide, by decide⟩ (Nat.le_of_ble_eq_true rfl) dX11_worthOf_30 ⟨Nat.le_refl 0, Nat.le_refl 0⟩ ?_
      refine V_imul C dX11_worthOf_33 ?_
      refine V_iadd C dX11_worthOf_34 ?_
      refine V_istore_n C (lv' := [(3, .int (x3 + (v1 * q2))), (0, .ref (ad 11)), (1, .int x1), (2, .int x2), (4, .int x4)]) dX11_worthOf_35 rfl (by decide) rfl ?_
      refine V_iinc C (v := (x4 + 1)) (lv' := [(4, .int (x4 + 1)), (3, .int (x3 + (v1 * q2))), (0, .ref (ad 11)), (1, .int x1), (2, .int x2)]) 4 dX11_worthOf_36 rfl rfl (by decide) rfl ?_
      refine V_goto C 5 dX11_worthOf_39 (by decide) ?_
      refine V_lv (ks := [2, 3, 4, 1, 0]) rfl ?_
      exact ih x1 x2 (x3 + (v1 * q2)) (x4 + 1) hF
set_option maxHeartbeats 4000000 in
set_option maxRecDepth 20000 in
theorem ct_X11_worthOf {a1 : Int32} {a2 : Int32} {σ : Mem} {r : Int32} (hF : F_X11_worthOf a1 a2 σ = some r) : Ct yX11_worthOf cX11_worthOf 5 (some .int) 1 23 (fun ad zz => [.ref (ad 11), .int a1, .int a2]) σ (fun ad => (some (.int r))) σ := by
  refine Ct_of (by decide +kernel) (lv := fun ad zz => [(0, .ref (ad 11)), (1, .int a1), (2, .int a2)]) (fun _ _ => rfl) (fun _ _ => Nat.le_of_ble_eq_true rfl) (fun p l e s m args below meth c D T ad zz C hr hlk => ?_)
  rw [F_X11_worthOf] at hF
  refine V_iconst C dX11_worthOf_0 (v := (0 : Int32)) (by decide) ?_
  refine V_istore_n C (lv' := [(3, .int (0 : Int32)), (0, .ref (ad 11)), (1, .int a1), (2, .int a2)]) dX11_worthOf_1 rfl (by decide) rfl ?_
  refine V_iconst C dX11_worthOf_2 (v := (0 : Int32)) (by decide) ?_
  refine V_istore C (lv' := [(4, .int (0 : Int32)), (3, .int (0 : Int32)), (0, .ref (ad 11)), (1, .int a1), (2, .int a2)]) dX11_worthOf_3 (by decide) rfl ?_
  refine V_lv (ks := [2, 3, 4, 1, 0]) rfl ?_
  exact w_X11_worthOf_b5 C hr hlk 4000 a1 a2 (0 : Int32) (0 : Int32) hF

def F_X11_isEnough (a1 : Int32) (a2 : Int32) (σ : Mem) : Option Int32 :=
  Option.bind (F_X11_worthOf a1 a2 σ) fun q1 =>
  Option.bind (rdA σ 54 (((7 : Int32) * a1) + (6 : Int32))) fun v2 =>
  if q1 < v2 then
    some (0 : Int32)
  else
    some (1 : Int32)
set_option maxHeartbeats 4000000 in
set_option maxRecDepth 20000 in
theorem ct_X11_isEnough {a1 : Int32} {a2 : Int32} {σ : Mem} {r : Int32} (hF : F_X11_isEnough a1 a2 σ = some r) : Ct yX11_isEnough cX11_isEnough 3 (some .boolean) 2 47 (fun ad zz => [.ref (ad 11), .int a1, .int a2]) σ (fun ad => (some (.int r))) σ := by
  refine Ct_of (by decide +kernel) (lv := fun ad zz => [(0, .ref (ad 11)), (1, .int a1), (2, .int a2)]) (fun _ _ => rfl) (fun _ _ => Nat.le_of_ble_eq_true rfl) (fun p l e s m args below meth c D T ad zz C hr hlk => ?_)
  rw [F_X11_isEnough] at hF
  refine V_aload_n C 0 dX11_isEnough_0 rfl ?_
  refine V_iload_n C 1 dX11_isEnough_1 rfl ?_
  refine V_iload_n C 2 dX11_isEnough_2 rfl ?_
  obtain ⟨q1, hq1, hF⟩ := bnd hF
  refine cs_X11_106 C (ct_X11_worthOf hq1) rfl ⟨by decide, by decide⟩ (Nat.le_of_ble_eq_true rfl) dX11_isEnough_3 ⟨Nat.le_refl 0, Nat.le_refl 0⟩ ?_
  refine V_aload_n C 0 dX11_isEnough_6 rfl ?_
  refine gf_X11_13 C dX11_isEnough_7 ?_
  refine V_bipush C dX11_isEnough_10 (v := (7 : Int32)) (by decide) ?_
  refine V_iload_n C 1 dX11_isEnough_12 rfl ?_
  refine V_imul C dX11_isEnough_13 ?_
  refine V_bipush C dX11_isEnough_14 (v := (6 : Int32)) (by decide) ?_
  refine V_iadd C dX11_isEnough_16 ?_
  obtain ⟨v2, hv2, hF⟩ := bnd hF
  refine V_iald C (by decide) hv2 dX11_isEnough_17 ?_
  refine V_icmp_lt C 25 dX11_isEnough_18 (by decide) hF (fun hF => ?_) (fun hF => ?_)
  · refine V_iconst C dX11_isEnough_25 (v := (0 : Int32)) (by decide) ?_
    cases hF
    exact V_zret C hr hlk (Or.inl rfl) rfl rfl dX11_isEnough_26
  · refine V_iconst C dX11_isEnough_21 (v := (1 : Int32)) (by decide) ?_
    refine V_goto C 26 dX11_isEnough_22 (by decide) ?_
    cases hF
    exact V_zret C hr hlk (Or.inr rfl) rfl rfl dX11_isEnough_26

def F_X11_likesRider (a1 : Int32) (a2 : Int32) (a3 : Int32) (σ : Mem) : Option Int32 :=
  Option.bind (F_X11_worthOf a1 a2 σ) fun q1 =>
  Option.bind (F_X11_worthOf a1 a3 σ) fun q2 =>
  if 0 < (q1 - q2) then
    some (1 : Int32)
  else
    if (q1 - q2) = 0 then
      if a3 ≤ a2 then
        some (0 : Int32)
      else
        some (1 : Int32)
    else
      some (0 : Int32)
set_option maxHeartbeats 4000000 in
set_option maxRecDepth 20000 in
theorem ct_X11_likesRider {a1 : Int32} {a2 : Int32} {a3 : Int32} {σ : Mem} {r : Int32} (hF : F_X11_likesRider a1 a2 a3 σ = some r) : Ct yX11_likesRider cX11_likesRider 5 (some .boolean) 2 47 (fun ad zz => [.ref (ad 11), .int a1, .int a2, .int a3]) σ (fun ad => (some (.int r))) σ := by
  refine Ct_of (by decide +kernel) (lv := fun ad zz => [(0, .ref (ad 11)), (1, .int a1), (2, .int a2), (3, .int a3)]) (fun _ _ => rfl) (fun _ _ => Nat.le_of_ble_eq_true rfl) (fun p l e s m args below meth c D T ad zz C hr hlk => ?_)
  rw [F_X11_likesRider] at hF
  refine V_aload_n C 0 dX11_likesRider_0 rfl ?_
  refine V_iload_n C 1 dX11_likesRider_1 rfl ?_
  refine V_iload_n C 2 dX11_likesRider_2 rfl ?_
  obtain ⟨q1, hq1, hF⟩ := bnd hF
  refine cs_X11_106 C (ct_X11_worthOf hq1) rfl ⟨by decide, by decide⟩ (Nat.le_of_ble_eq_true rfl) dX11_likesRider_3 ⟨Nat.le_refl 0, Nat.le_refl 0⟩ ?_
  refine V_aload_n C 0 dX11_likesRider_6 rfl ?_
  refine V_iload_n C 1 dX11_likesRider_7 rfl ?_
  refine V_iload_n C 3 dX11_likesRider_8 rfl ?_
  obtain ⟨q2, hq2, hF⟩ := bnd hF
  refine cs_X11_106 C (ct_X11_worthOf hq2) rfl ⟨by decide, by decide⟩ (Nat.le_of_ble_eq_true rfl) dX11_likesRider_9 ⟨Nat.le_refl 0, Nat.le_refl 0⟩ ?_
  refine V_isub C dX11_likesRider_12 ?_
  refine V_istore C (lv' := [(4, .int (q1 - q2)), (0, .ref (ad 11)), (1, .int a1), (2, .int a2), (3, .int a3)]) dX11_likesRider_13 (by decide) rfl ?_
  refine V_iload C 0 dX11_likesRider_15 rfl ?_
  refine V_if_gt C 30 dX11_likesRider_17 (by decide) hF (fun hF => ?_) (fun hF => ?_)
  · refine V_iconst C dX11_likesRider_30 (v := (1 : Int32)) (by decide) ?_
    refine V_goto C 35 dX11_likesRider_31 (by decide) ?_
    cases hF
    exact V_zret C hr hlk (Or.inr rfl) rfl rfl dX11_likesRider_35
  · refine V_iload C 0 dX11_likesRider_20 rfl ?_
    refine V_if_ne C 34 dX11_likesRider_22 (by decide) hF (fun hF => ?_) (fun hF => ?_)
    · refine V_iconst C dX11_likesRider_34 (v := (0 : Int32)) (by decide) ?_
      cases hF
      exact V_zret C hr hlk (Or.inl rfl) rfl rfl dX11_likesRider_35
    · refine V_iload_n C 3 dX11_likesRider_25 rfl ?_
      refine V_iload_n C 4 dX11_likesRider_26 rfl ?_
      refine V_icmp_ge C 34 dX11_likesRider_27 (by decide) hF (fun hF => ?_) (fun hF => ?_)
      · refine V_iconst C dX11_likesRider_34 (v := (0 : Int32)) (by decide) ?_
        cases hF
        exact V_zret C hr hlk (Or.inl rfl) rfl rfl dX11_likesRider_35
      · refine V_iconst C dX11_likesRider_30 (v := (1 : Int32)) (by decide) ?_
        refine V_goto C 35 dX11_likesRider_31 (by decide) ?_
        cases hF
        exact V_zret C hr hlk (Or.inr rfl) rfl rfl dX11_likesRider_35

def F_X11_likesHorse_b36 (σ : Mem) (x2 : Int32) (x3 : Int32) (x4 : Int32) (y0 : Int32) : Option Int32 :=
  Option.bind (rdA σ 54 (((7 : Int32) * x2) + y0)) fun v2 =>
  Option.bind (rdA σ 54 (((7 : Int32) * x3) + y0)) fun v3 =>
  if x4 = (1 : Int32) then
    if 0 < (-(v2 - v3)) then
      some (1 : Int32)
    else
      if (-(v2 - v3)) = 0 then
        if x3 ≤ x2 then
          some (0 : Int32)
        else
          some (1 : Int32)
      else
        some (0 : Int32)
  else
    if x4 = (3 : Int32) then
      if 0 < (-(v2 - v3)) then
        some (1 : Int32)
      else
        if (-(v2 - v3)) = 0 then
          if x3 ≤ x2 then
            some (0 : Int32)
          else
            some (1 : Int32)
        else
          some (0 : Int32)
    else
      if 0 < (v2 - v3) then
        some (1 : Int32)
      else
        if (v2 - v3) = 0 then
          if x3 ≤ x2 then
            some (0 : Int32)
          else
            some (1 : Int32)
        else
          some (0 : Int32)
def F_X11_likesHorse (a1 : Int32) (a2 : Int32) (a3 : Int32) (σ : Mem) : Option Int32 :=
  if a3 = (-9 : Int32) then
    some (1 : Int32)
  else
    Option.bind (rdA σ 55 (((4 : Int32) * a1) + (3 : Int32))) fun v1 =>
    if v1 = 0 then
      F_X11_likesHorse_b36 σ a2 a3 v1 (4 : Int32)
    else
      if v1 = (3 : Int32) then
        F_X11_likesHorse_b36 σ a2 a3 v1 (4 : Int32)
      else
        F_X11_likesHorse_b36 σ a2 a3 v1 (5 : Int32)
set_option maxHeartbeats 4000000 in
set_option maxRecDepth 20000 in
theorem w_X11_likesHorse_b36 {p : Program} {l : Launch} {e : Env} {s : State} {m : MethodId} {args : Array Value} {below : List Frame} {meth : Method} {c : Code} {D : va_G} {T : Nat → ClassId} {ad zz : Nat → Nat} (C : Cx p s m c cX11_likesHorse 7 RX11 (fA ad) D T ad zz) (hr : meth.sig.returnType = (some .boolean)) (hlk : meth.locks = false) {σ : Mem} {r : Int32}  (x2 : Int32) (x3 : Int32) (x4 : Int32) (y0 : Int32) (hF : F_X11_likesHorse_b36 σ x2 x3 x4 y0 = some r) : V p l e { frames := 0, cells := 0, slots := 0, locals := 0 } s m args below meth c 0 0 (MQ below (qC (some (.int r)) σ D T ad) args s 0 0 (fA ad)) 7 (fA ad) D T ad σ 36 [(0, .ref (ad 11)), (2, .int x2), (3, .int x3), (4, .int x4)] [.int y0] := by
  rw [F_X11_likesHorse_b36] at hF
  refine V_istore C (lv' := [(5, .int y0), (0, .ref (ad 11)), (2, .int x2), (3, .int x3), (4, .int x4)]) dX11_likesHorse_36 (by decide) rfl ?_
  refine V_aload_n C 1 dX11_likesHorse_38 rfl ?_
  refine gf_X11_13 C dX11_likesHorse_39 ?_
  refine V_bipush C dX11_likesHorse_42 (v := (7 : Int32)) (by decide) ?_
  refine V_iload_n C 2 dX11_likesHorse_44 rfl ?_
  refine V_imul C dX11_likesHorse_45 ?_
  refine V_iload C 0 dX11_likesHorse_46 rfl ?_
  refine V_iadd C dX11_likesHorse_48 ?_
  obtain ⟨v2, hv2, hF⟩ := bnd hF
  refine V_iald C (by decide) hv2 dX11_likesHorse_49 ?_
  refine V_aload_n C 1 dX11_likesHorse_50 rfl ?_
  refine gf_X11_13 C dX11_likesHorse_51 ?_
  refine V_bipush C dX11_likesHorse_54 (v := (7 : Int32)) (by decide) ?_
  refine V_iload_n C 3 dX11_likesHorse_56 rfl ?_
  refine V_imul C dX11_likesHorse_57 ?_
  refine V_iload C 0 dX11_likesHorse_58 rfl ?_
  refine V_iadd C dX11_likesHorse_60 ?_
  obtain ⟨v3, hv3, hF⟩ := bnd hF
  refine V_iald C (by decide) hv3 dX11_likesHorse_61 ?_
  refine V_isub C dX11_likesHorse_62 ?_
  refine V_istore C (lv' := [(6, .int (v2 - v3)), (5, .int y0), (0, .ref (ad 11)), (2, .int x2), (3, .int x3), (4, .int x4)]) dX11_likesHorse_63 (by decide) rfl ?_
  refine V_iload C 5 dX11_likesHorse_65 rfl ?_
  refine V_iconst C dX11_likesHorse_67 (v := (1 : Int32)) (by decide) ?_
  refine V_icmp_eq C 77 dX11_likesHorse_68 (by decide) hF (fun hF => ?_) (fun hF => ?_)
  · refine V_iload C 0 dX11_likesHorse_77 rfl ?_
    refine V_ineg C dX11_likesHorse_79 ?_
    refine V_goto C 85 dX11_likesHorse_80 (by decide) ?_
    refine V_istore C (lv' := [(6, .int (-(v2 - v3))), (5, .int y0), (0, .ref (ad 11)), (2, .int x2), (3, .int x3), (4, .int x4)]) dX11_likesHorse_85 (by decide) rfl ?_
    refine V_iload C 0 dX11_likesHorse_87 rfl ?_
    refine V_if_gt C 102 dX11_likesHorse_89 (by decide) hF (fun hF => ?_) (fun hF => ?_)
    · refine V_iconst C dX11_likesHorse_102 (v := (1 : Int32)) (by decide) ?_
      refine V_goto C 107 dX11_likesHorse_103 (by decide) ?_
      cases hF
      exact V_zret C hr hlk (Or.inr rfl) rfl rfl dX11_likesHorse_107
    · refine V_iload C 0 dX11_likesHorse_92 rfl ?_
      refine V_if_ne C 106 dX11_likesHorse_94 (by decide) hF (fun hF => ?_) (fun hF => ?_)
      · refine V_iconst C dX11_likesHorse_106 (v := (0 : Int32)) (by decide) ?_
        cases hF
        exact V_zret C hr hlk (Or.inl rfl) rfl rfl dX11_likesHorse_107
      · refine V_iload_n C 3 dX11_likesHorse_97 rfl ?_
        refine V_iload_n C 4 dX11_likesHorse_98 rfl ?_
        refine V_icmp_ge C 106 dX11_likesHorse_99 (by decide) hF (fun hF => ?_) (fun hF => ?_)
        · refine V_iconst C dX11_likesHorse_106 (v := (0 : Int32)) (by decide) ?_
          cases hF
          exact V_zret C hr hlk (Or.inl rfl) rfl rfl dX11_likesHorse_107
        · refine V_iconst C dX11_likesHorse_102 (v := (1 : Int32)) (by decide) ?_
          refine V_goto C 107 dX11_likesHorse_103 (by decide) ?_
          cases hF
          exact V_zret C hr hlk (Or.inr rfl) rfl rfl dX11_likesHorse_107
  · refine V_iload C 5 dX11_likesHorse_71 rfl ?_
    refine V_iconst C dX11_likesHorse_73 (v := (3 : Int32)) (by decide) ?_
    refine V_icmp_ne C 83 dX11_likesHorse_74 (by decide) hF (fun hF => ?_) (fun hF => ?_)
    · refine V_iload C 0 dX11_likesHorse_83 rfl ?_
      refine V_istore C (lv' := [(6, .int (v2 - v3)), (5, .int y0), (0, .ref (ad 11)), (2, .int x2), (3, .int x3), (4, .int x4)]) dX11_likesHorse_85 (by decide) rfl ?_
      refine V_iload C 0 dX11_likesHorse_87 rfl ?_
      refine V_if_gt C 102 dX11_likesHorse_89 (by decide) hF (fun hF => ?_) (fun hF => ?_)
      · refine V_iconst C dX11_likesHorse_102 (v := (1 : Int32)) (by decide) ?_
        refine V_goto C 107 dX11_likesHorse_103 (by decide) ?_
        cases hF
        exact V_zret C hr hlk (Or.inr rfl) rfl rfl dX11_likesHorse_107
      · refine V_iload C 0 dX11_likesHorse_92 rfl ?_
        refine V_if_ne C 106 dX11_likesHorse_94 (by decide) hF (fun hF => ?_) (fun hF => ?_)
        · refine V_iconst C dX11_likesHorse_106 (v := (0 : Int32)) (by decide) ?_
          cases hF
          exact V_zret C hr hlk (Or.inl rfl) rfl rfl dX11_likesHorse_107
        · refine V_iload_n C 3 dX11_likesHorse_97 rfl ?_
          refine V_iload_n C 4 dX11_likesHorse_98 rfl ?_
          refine V_icmp_ge C 106 dX11_likesHorse_99 (by decide) hF (fun hF => ?_) (fun hF => ?_)
          · refine V_iconst C dX11_likesHorse_106 (v := (0 : Int32)) (by decide) ?_
            cases hF
            exact V_zret C hr hlk (Or.inl rfl) rfl rfl dX11_likesHorse_107
          · refine V_iconst C dX11_likesHorse_102 (v := (1 : Int32)) (by decide) ?_
            refine V_goto C 107 dX11_likesHorse_103 (by decide) ?_
            cases hF
            exact V_zret C hr hlk (Or.inr rfl) rfl rfl dX11_likesHorse_107
    · refine V_iload C 0 dX11_likesHorse_77 rfl ?_
      refine V_ineg C dX11_likesHorse_79 ?_
      refine V_goto C 85 dX11_likesHorse_80 (by decide) ?_
      refine V_istore C (lv' := [(6, .int (-(v2 - v3))), (5, .int y0), (0, .ref (ad 11)), (2, .int x2), (3, .int x3), (4, .int x4)]) dX11_likesHorse_85 (by decide) rfl ?_
      refine V_iload C 0 dX11_likesHorse_87 rfl ?_
      refine V_if_gt C 102 dX11_likesHorse_89 (by decide) hF (fun hF => ?_) (fun hF => ?_)
      · refine V_iconst C dX11_likesHorse_102 (v := (1 : Int32)) (by decide) ?_
        refine V_goto C 107 dX11_likesHorse_103 (by decide) ?_
        cases hF
        exact V_zret C hr hlk (Or.inr rfl) rfl rfl dX11_likesHorse_107
      · refine V_iload C 0 dX11_likesHorse_92 rfl ?_
        refine V_if_ne C 106 dX11_likesHorse_94 (by decide) hF (fun hF => ?_) (fun hF => ?_)
        · refine V_iconst C dX11_likesHorse_106 (v := (0 : Int32)) (by decide) ?_
          cases hF
          exact V_zret C hr hlk (Or.inl rfl) rfl rfl dX11_likesHorse_107
        · refine V_iload_n C 3 dX11_likesHorse_97 rfl ?_
          refine V_iload_n C 4 dX11_likesHorse_98 rfl ?_
          refine V_icmp_ge C 106 dX11_likesHorse_99 (by decide) hF (fun hF => ?_) (fun hF => ?_)
          · refine V_iconst C dX11_likesHorse_106 (v := (0 : Int32)) (by decide) ?_
            cases hF
            exact V_zret C hr hlk (Or.inl rfl) rfl rfl dX11_likesHorse_107
          · refine V_iconst C dX11_likesHorse_102 (v := (1 : Int32)) (by decide) ?_
            refine V_goto C 107 dX11_likesHorse_103 (by decide) ?_
            cases hF
            exact V_zret C hr hlk (Or.inr rfl) rfl rfl dX11_likesHorse_107
set_option maxHeartbeats 4000000 in
set_option maxRecDepth 20000 in
theorem ct_X11_likesHorse {a1 : Int32} {a2 : Int32} {a3 : Int32} {σ : Mem} {r : Int32} (hF : F_X11_likesHorse a1 a2 a3 σ = some r) : Ct yX11_likesHorse cX11_likesHorse 7 (some .boolean) 0 0 (fun ad zz => [.ref (ad 11), .int a1, .int a2, .int a3]) σ (fun ad => (some (.int r))) σ := by
  refine Ct_of (by decide +kernel) (lv := fun ad zz => [(0, .ref (ad 11)), (1, .int a1), (2, .int a2), (3, .int a3)]) (fun _ _ => rfl) (fun _ _ => Nat.le_of_ble_eq_true rfl) (fun p l e s m args below meth c D T ad zz C hr hlk => ?_)
  rw [F_X11_likesHorse] at hF
  refine V_iload_n C 3 dX11_likesHorse_0 rfl ?_
  refine V_bipush C dX11_likesHorse_1 (v := (-9 : Int32)) (by decide) ?_
  refine V_icmp_ne C 8 dX11_likesHorse_3 (by decide) hF (fun hF => ?_) (fun hF => ?_)
  · refine V_aload_n C 0 dX11_likesHorse_8 rfl ?_
    refine gf_X11_16 C dX11_likesHorse_9 ?_
    refine V_iconst C dX11_likesHorse_12 (v := (4 : Int32)) (by decide) ?_
    refine V_iload_n C 1 dX11_likesHorse_13 rfl ?_
    refine V_imul C dX11_likesHorse_14 ?_
    refine V_iconst C dX11_likesHorse_15 (v := (3 : Int32)) (by decide) ?_
    refine V_iadd C dX11_likesHorse_16 ?_
    obtain ⟨v1, hv1, hF⟩ := bnd hF
    refine V_iald C (by decide) hv1 dX11_likesHorse_17 ?_
    refine V_istore C (lv' := [(4, .int v1), (0, .ref (ad 11)), (1, .int a1), (2, .int a2), (3, .int a3)]) dX11_likesHorse_18 (by decide) rfl ?_
    refine V_iload C 0 dX11_likesHorse_20 rfl ?_
    refine V_if_eq C 31 dX11_likesHorse_22 (by decide) hF (fun hF => ?_) (fun hF => ?_)
    · refine V_iconst C dX11_likesHorse_31 (v := (4 : Int32)) (by decide) ?_
      refine V_goto C 36 dX11_likesHorse_32 (by decide) ?_
      refine V_lv (ks := [1, 3, 4, 0]) rfl ?_
      exact w_X11_likesHorse_b36 C hr hlk a2 a3 v1 (4 : Int32) hF
    · refine V_iload C 0 dX11_likesHorse_25 rfl ?_
      refine V_iconst C dX11_likesHorse_27 (v := (3 : Int32)) (by decide) ?_
      refine V_icmp_ne C 35 dX11_likesHorse_28 (by decide) hF (fun hF => ?_) (fun hF => ?_)
      · refine V_iconst C dX11_likesHorse_35 (v := (5 : Int32)) (by decide) ?_
        refine V_lv (ks := [1, 3, 4, 0]) rfl ?_
        exact w_X11_likesHorse_b36 C hr hlk a2 a3 v1 (5 : Int32) hF
      · refine V_iconst C dX11_likesHorse_31 (v := (4 : Int32)) (by decide) ?_
        refine V_goto C 36 dX11_likesHorse_32 (by decide) ?_
        refine V_lv (ks := [1, 3, 4, 0]) rfl ?_
        exact w_X11_likesHorse_b36 C hr hlk a2 a3 v1 (4 : Int32) hF
  · refine V_iconst C dX11_likesHorse_6 (v := (1 : Int32)) (by decide) ?_
    cases hF
    exact V_zret C hr hlk (Or.inr rfl) rfl rfl dX11_likesHorse_7

def F_X11_keeps_b5 (n1 : Nat) (σ : Mem) : Nat → Int32 → Int32 → Int32 → Option Int32
  | 0, _, _, _ => none
  | n + 1, x2, x3, x4 =>
    if (σ.1 24) ≤ x4 then
      some x3
    else
      Option.bind (rdA σ n1 x4) fun v1 =>
      if v1 = x2 then
        (F_X11_keeps_b5 n1 σ n) x2 (x3 ||| ((1 : Int32) <<< (x4 &&& 31))) (x4 + 1)
      else
        (F_X11_keeps_b5 n1 σ n) x2 (x3 ||| (0 : Int32)) (x4 + 1)
def F_X11_keeps (n1 : Nat) (a2 : Int32) (σ : Mem) : Option Int32 :=
  F_X11_keeps_b5 n1 σ 4000 a2 (0 : Int32) (0 : Int32)
set_option maxHeartbeats 4000000 in
set_option maxRecDepth 20000 in
theorem w_X11_keeps_b5 {p : Program} {l : Launch} {e : Env} {s : State} {m : MethodId} {args : Array Value} {below : List Frame} {meth : Method} {c : Code} {D : va_G} {T : Nat → ClassId} {ad zz : Nat → Nat} (C : Cx p s m c cX11_keeps 5 RX11 (fA ad) D T ad zz) (hr : meth.sig.returnType = (some .int)) (hlk : meth.locks = false) {n1 : Nat} {σ : Mem} (hn1 : n1 < 67) {r : Int32}  : ∀ (n : Nat), ∀ (x2 : Int32) (x3 : Int32) (x4 : Int32), F_X11_keeps_b5 n1 σ n x2 x3 x4 = some r → V p l e { frames := 0, cells := 0, slots := 0, locals := 0 } s m args below meth c 0 0 (MQ below (qC (some (.int r)) σ D T ad) args s 0 0 (fA ad)) 5 (fA ad) D T ad σ 5 [(0, .ref (ad 11)), (1, .ref (ad (12 + n1))), (2, .int x2), (3, .int x3), (4, .int x4)] [] := by
  intro n
  induction n with
  | zero =>
    intro x2 x3 x4 hF
    cases (show (none : Option Int32) = some r from hF)
  | succ n ih =>
    intro x2 x3 x4 hF
    rw [F_X11_keeps_b5] at hF
    refine V_iload C 4 dX11_keeps_5 rfl ?_
    refine V_aload_n C 0 dX11_keeps_7 rfl ?_
    refine gf_X11_67 C dX11_keeps_8 ?_
    refine V_icmp_ge C 39 dX11_keeps_11 (by decide) hF (fun hF => ?_) (fun hF => ?_)
    · refine V_iload_n C 3 dX11_keeps_39 rfl ?_
      cases hF
      exact V_iret C hr hlk rfl rfl dX11_keeps_40
    · refine V_iload_n C 3 dX11_keeps_14 rfl ?_
      refine V_aload_n C 1 dX11_keeps_15 rfl ?_
      refine V_iload C 4 dX11_keeps_16 rfl ?_
      obtain ⟨v1, hv1, hF⟩ := bnd hF
      refine V_iald C hn1 hv1 dX11_keeps_18 ?_
      refine V_iload_n C 2 dX11_keeps_19 rfl ?_
      refine V_icmp_ne C 30 dX11_keeps_20 (by decide) hF (fun hF => ?_) (fun hF => ?_)
      · refine V_iconst C dX11_keeps_30 (v := (0 : Int32)) (by decide) ?_
        refine V_ior C dX11_keeps_31 ?_
        refine V_istore_n C (lv' := [(3, .int (x3 ||| (0 : Int32))), (0, .ref (ad 11)), (1, .ref (ad (12 + n1))), (2, .int x2), (4, .int x4)]) dX11_keeps_32 rfl (by decide) rfl ?_
        refine V_iinc C (v := (x4 + 1)) (lv' := [(4, .int (x4 + 1)), (3, .int (x3 ||| (0 : Int32))), (0, .ref (ad 11)), (1, .ref (ad (12 + n1))), (2, .int x2)]) 4 dX11_keeps_33 rfl rfl (by decide) rfl ?_
        refine V_goto C 5 dX11_keeps_36 (by decide) ?_
        refine V_lv (ks := [2, 3, 4, 1, 0]) rfl ?_
        exact ih x2 (x3 ||| (0 : Int32)) (x4 + 1) hF
      · refine V_iconst C dX11_keeps_23 (v := (1 : Int32)) (by decide) ?_
        refine V_iload C 4 dX11_keeps_24 rfl ?_
        refine V_ishl C dX11_keeps_26 ?_
        refine V_goto C 31 dX11_keeps_27 (by decide) ?_
        refine V_ior C dX11_keeps_31 ?_
        refine V_istore_n C (lv' := [(3, .int (x3 ||| ((1 : Int32) <<< (x4 &&& 31)))), (0, .ref (ad 11)), (1, .ref (ad (12 + n1))), (2, .int x2), (4, .int x4)]) dX11_keeps_32 rfl (by decide) rfl ?_
        refine V_iinc C (v := (x4 + 1)) (lv' := [(4, .int (x4 + 1)), (3, .int (x3 ||| ((1 : Int32) <<< (x4 &&& 31)))), (0, .ref (ad 11)), (1, .ref (ad (12 + n1))), (2, .int x2)]) 4 dX11_keeps_33 rfl rfl (by decide) rfl ?_
        refine V_goto C 5 dX11_keeps_36 (by decide) ?_
        refine V_lv (ks := [2, 3, 4, 1, 0]) rfl ?_
        exact ih x2 (x3 ||| ((1 : Int32) <<< (x4 &&& 31))) (x4 + 1) hF
set_option maxHeartbeats 4000000 in
set_option maxRecDepth 20000 in
theorem ct_X11_keeps {n1 : Nat} {a2 : Int32} {σ : Mem} {r : Int32} (hn1 : n1 < 67) (hF : F_X11_keeps n1 a2 σ = some r) : Ct yX11_keeps cX11_keeps 5 (some .int) 0 0 (fun ad zz => [.ref (ad 11), .ref (ad (12 + n1)), .int a2]) σ (fun ad => (some (.int r))) σ := by
  refine Ct_of (by decide +kernel) (lv := fun ad zz => [(0, .ref (ad 11)), (1, .ref (ad (12 + n1))), (2, .int a2)]) (fun _ _ => rfl) (fun _ _ => Nat.le_of_ble_eq_true rfl) (fun p l e s m args below meth c D T ad zz C hr hlk => ?_)
  rw [F_X11_keeps] at hF
  refine V_iconst C dX11_keeps_0 (v := (0 : Int32)) (by decide) ?_
  refine V_istore_n C (lv' := [(3, .int (0 : Int32)), (0, .ref (ad 11)), (1, .ref (ad (12 + n1))), (2, .int a2)]) dX11_keeps_1 rfl (by decide) rfl ?_
  refine V_iconst C dX11_keeps_2 (v := (0 : Int32)) (by decide) ?_
  refine V_istore C (lv' := [(4, .int (0 : Int32)), (3, .int (0 : Int32)), (0, .ref (ad 11)), (1, .ref (ad (12 + n1))), (2, .int a2)]) dX11_keeps_3 (by decide) rfl ?_
  refine V_lv (ks := [2, 3, 4, 1, 0]) rfl ?_
  exact w_X11_keeps_b5 C hr hlk hn1 4000 a2 (0 : Int32) (0 : Int32) hF

def F_X11_isFull (n1 : Nat) (a2 : Int32) (σ : Mem) : Option Int32 :=
  Option.bind (F_X11_keeps n1 a2 σ) fun q1 =>
  Option.bind (F_X11_many q1 σ) fun q2 =>
  Option.bind (rdA σ 54 ((7 : Int32) * a2)) fun v3 =>
  if q2 < v3 then
    some (0 : Int32)
  else
    some (1 : Int32)
set_option maxHeartbeats 4000000 in
set_option maxRecDepth 20000 in
theorem ct_X11_isFull {n1 : Nat} {a2 : Int32} {σ : Mem} {r : Int32} (hn1 : n1 < 67) (hF : F_X11_isFull n1 a2 σ = some r) : Ct yX11_isFull cX11_isFull 3 (some .boolean) 1 24 (fun ad zz => [.ref (ad 11), .ref (ad (12 + n1)), .int a2]) σ (fun ad => (some (.int r))) σ := by
  refine Ct_of (by decide +kernel) (lv := fun ad zz => [(0, .ref (ad 11)), (1, .ref (ad (12 + n1))), (2, .int a2)]) (fun _ _ => rfl) (fun _ _ => Nat.le_of_ble_eq_true rfl) (fun p l e s m args below meth c D T ad zz C hr hlk => ?_)
  rw [F_X11_isFull] at hF
  refine V_aload_n C 0 dX11_isFull_0 rfl ?_
  refine V_aload_n C 1 dX11_isFull_1 rfl ?_
  refine V_iload_n C 2 dX11_isFull_2 rfl ?_
  obtain ⟨q1, hq1, hF⟩ := bnd hF
  refine cs_X11_109 C (ct_X11_keeps hn1 hq1) rfl ⟨by decide, by decide⟩ (Nat.le_of_ble_eq_true rfl) dX11_isFull_3 ⟨Nat.le_refl 0, Nat.le_refl 0⟩ ?_
  obtain ⟨q2, hq2, hF⟩ := bnd hF
  refine cs_X11_113 C (ct_X11_many hq2) rfl ⟨by decide, by decide⟩ (Nat.le_of_ble_eq_true rfl) dX11_isFull_6 ⟨Nat.le_refl 0, Nat.le_refl 0⟩ ?_
  refine V_aload_n C 0 dX11_isFull_9 rfl ?_
  refine gf_X11_13 C dX11_isFull_10 ?_
  refine V_bipush C dX11_isFull_13 (v := (7 : Int32)) (by decide) ?_
  refine V_iload_n C 2 dX11_isFull_15 rfl ?_
  refine V_imul C dX11_isFull_16 ?_
  obtain ⟨v3, hv3, hF⟩ := bnd hF
  refine V_iald C (by decide) hv3 dX11_isFull_17 ?_
  refine V_icmp_lt C 25 dX11_isFull_18 (by decide) hF (fun hF => ?_) (fun hF => ?_)
  · refine V_iconst C dX11_isFull_25 (v := (0 : Int32)) (by decide) ?_
    cases hF
    exact V_zret C hr hlk (Or.inl rfl) rfl rfl dX11_isFull_26
  · refine V_iconst C dX11_isFull_21 (v := (1 : Int32)) (by decide) ?_
    refine V_goto C 26 dX11_isFull_22 (by decide) ?_
    cases hF
    exact V_zret C hr hlk (Or.inr rfl) rfl rfl dX11_isFull_26

def F_X11_leastOf_b6 (n1 : Nat) (σ : Mem) : Nat → Int32 → Int32 → Int32 → Option Int32
  | 0, _, _, _ => none
  | n + 1, x2, x3, x4 =>
    if (σ.1 24) ≤ x4 then
      some x3
    else
      Option.bind (rdA σ n1 x4) fun v1 =>
      if v1 = x2 then
        if x3 = (-9 : Int32) then
          (F_X11_leastOf_b6 n1 σ n) x2 x4 (x4 + 1)
        else
          Option.bind (F_X11_likesRider x2 x3 x4 σ) fun q2 =>
          if q2 = 0 then
            (F_X11_leastOf_b6 n1 σ n) x2 x3 (x4 + 1)
          else
            (F_X11_leastOf_b6 n1 σ n) x2 x4 (x4 + 1)
      else
        (F_X11_leastOf_b6 n1 σ n) x2 x3 (x4 + 1)
def F_X11_leastOf (n1 : Nat) (a2 : Int32) (σ : Mem) : Option Int32 :=
  F_X11_leastOf_b6 n1 σ 4000 a2 (-9 : Int32) (0 : Int32)
set_option maxHeartbeats 4000000 in
set_option maxRecDepth 20000 in
theorem w_X11_leastOf_b6 {p : Program} {l : Launch} {e : Env} {s : State} {m : MethodId} {args : Array Value} {below : List Frame} {meth : Method} {c : Code} {D : va_G} {T : Nat → ClassId} {ad zz : Nat → Nat} (C : Cx p s m c cX11_leastOf 5 RX11 (fA ad) D T ad zz) (hr : meth.sig.returnType = (some .int)) (hlk : meth.locks = false) {n1 : Nat} {σ : Mem} (hn1 : n1 < 67) {r : Int32}  : ∀ (n : Nat), ∀ (x2 : Int32) (x3 : Int32) (x4 : Int32), F_X11_leastOf_b6 n1 σ n x2 x3 x4 = some r → V p l e { frames := 3, cells := 0, slots := 0, locals := 71 } s m args below meth c 0 0 (MQ below (qC (some (.int r)) σ D T ad) args s 0 0 (fA ad)) 5 (fA ad) D T ad σ 6 [(0, .ref (ad 11)), (1, .ref (ad (12 + n1))), (2, .int x2), (3, .int x3), (4, .int x4)] [] := by
  intro n
  induction n with
  | zero =>
    intro x2 x3 x4 hF
    cases (show (none : Option Int32) = some r from hF)
  | succ n ih =>
    intro x2 x3 x4 hF
    rw [F_X11_leastOf_b6] at hF
    refine V_iload C 4 dX11_leastOf_6 rfl ?_
    refine V_aload_n C 0 dX11_leastOf_8 rfl ?_
    refine gf_X11_67 C dX11_leastOf_9 ?_
    refine V_icmp_ge C 53 dX11_leastOf_12 (by decide) hF (fun hF => ?_) (fun hF => ?_)
    · refine V_iload_n C 3 dX11_leastOf_53 rfl ?_
      cases hF
      exact V_iret C hr hlk rfl rfl dX11_leastOf_54
    · refine V_aload_n C 1 dX11_leastOf_15 rfl ?_
      refine V_iload C 4 dX11_leastOf_16 rfl ?_
      obtain ⟨v1, hv1, hF⟩ := bnd hF
      refine V_iald C hn1 hv1 dX11_leastOf_18 ?_
      refine V_iload_n C 2 dX11_leastOf_19 rfl ?_
      refine V_icmp_ne C 45 dX11_leastOf_20 (by decide) hF (fun hF => ?_) (fun hF => ?_)
      · refine V_iload_n C 3 dX11_leastOf_45 rfl ?_
        refine V_istore_n C (lv' := [(3, .int x3), (0, .ref (ad 11)), (1, .ref (ad (12 + n1))), (2, .int x2), (4, .int x4)]) dX11_leastOf_46 rfl (by decide) rfl ?_
        refine V_iinc C (v := (x4 + 1)) (lv' := [(4, .int (x4 + 1)), (3, .int x3), (0, .ref (ad 11)), (1, .ref (ad (12 + n1))), (2, .int x2)]) 4 dX11_leastOf_47 rfl rfl (by decide) rfl ?_
        refine V_goto C 6 dX11_leastOf_50 (by decide) ?_
        refine V_lv (ks := [2, 3, 4, 1, 0]) rfl ?_
        exact ih x2 x3 (x4 + 1) hF
      · refine V_iload_n C 3 dX11_leastOf_23 rfl ?_
        refine V_bipush C dX11_leastOf_24 (v := (-9 : Int32)) (by decide) ?_
        refine V_icmp_eq C 40 dX11_leastOf_26 (by decide) hF (fun hF => ?_) (fun hF => ?_)
        · refine V_iload C 4 dX11_leastOf_40 rfl ?_
          refine V_goto C 46 dX11_leastOf_42 (by decide) ?_
          refine V_istore_n C (lv' := [(3, .int x4), (0, .ref (ad 11)), (1, .ref (ad (12 + n1))), (2, .int x2), (4, .int x4)]) dX11_leastOf_46 rfl (by decide) rfl ?_
          refine V_iinc C (v := (x4 + 1)) (lv' := [(4, .int (x4 + 1)), (3, .int x4), (0, .ref (ad 11)), (1, .ref (ad (12 + n1))), (2, .int x2)]) 4 dX11_leastOf_47 rfl rfl (by decide) rfl ?_
          refine V_goto C 6 dX11_leastOf_50 (by decide) ?_
          refine V_lv (ks := [2, 3, 4, 1, 0]) rfl ?_
          exact ih x2 x4 (x4 + 1) hF
        · refine V_aload_n C 0 dX11_leastOf_29 rfl ?_
          refine V_iload_n C 2 dX11_leastOf_30 rfl ?_
          refine V_iload_n C 3 dX11_leastOf_31 rfl ?_
          refine V_iload C 4 dX11_leastOf_32 rfl ?_
          obtain ⟨q2, hq2, hF⟩ := bnd hF
          refine cs_X11_117 C (ct_X11_likesRider hq2) rfl ⟨by decide, by decide⟩ (Nat.le_of_ble_eq_true rfl) dX11_leastOf_34 ⟨Nat.le_refl 0, Nat.le_refl 0⟩ ?_
          refine V_if_eq C 45 dX11_leastOf_37 (by decide) hF (fun hF => ?_) (fun hF => ?_)
          · refine V_iload_n C 3 dX11_leastOf_45 rfl ?_
            refine V_istore_n C (lv' := [(3, .int x3), (0, .ref (ad 11)), (1, .ref (ad (12 + n1))), (2, .int x2), (4, .int x4)]) dX11_leastOf_46 rfl (by decide) rfl ?_
            refine V_iinc C (v := (x4 + 1)) (lv' := [(4, .int (x4 + 1)), (3, .int x3), (0, .ref (ad 11)), (1, .ref (ad (12 + n1))), (2, .int x2)]) 4 dX11_leastOf_47 rfl rfl (by decide) rfl ?_
            refine V_goto C 6 dX11_leastOf_50 (by decide) ?_
            refine V_lv (ks := [2, 3, 4, 1, 0]) rfl ?_
            exact ih x2 x3 (x4 + 1) hF
          · refine V_iload C 4 dX11_leastOf_40 rfl ?_
            refine V_goto C 46 dX11_leastOf_42 (by decide) ?_
            refine V_istore_n C (lv' := [(3, .int x4), (0, .ref (ad 11)), (1, .ref (ad (12 + n1))), (2, .int x2), (4, .int x4)]) dX11_leastOf_46 rfl (by decide) rfl ?_
            refine V_iinc C (v := (x4 + 1)) (lv' := [(4, .int (x4 + 1)), (3, .int x4), (0, .ref (ad 11)), (1, .ref (ad (12 + n1))), (2, .int x2)]) 4 dX11_leastOf_47 rfl rfl (by decide) rfl ?_
            refine V_goto C 6 dX11_leastOf_50 (by decide) ?_
            refine V_lv (ks := [2, 3, 4, 1, 0]) rfl ?_
            exact ih x2 x4 (x4 + 1) hF
set_option maxHeartbeats 4000000 in
set_option maxRecDepth 20000 in
theorem ct_X11_leastOf {n1 : Nat} {a2 : Int32} {σ : Mem} {r : Int32} (hn1 : n1 < 67) (hF : F_X11_leastOf n1 a2 σ = some r) : Ct yX11_leastOf cX11_leastOf 5 (some .int) 3 71 (fun ad zz => [.ref (ad 11), .ref (ad (12 + n1)), .int a2]) σ (fun ad => (some (.int r))) σ := by
  refine Ct_of (by decide +kernel) (lv := fun ad zz => [(0, .ref (ad 11)), (1, .ref (ad (12 + n1))), (2, .int a2)]) (fun _ _ => rfl) (fun _ _ => Nat.le_of_ble_eq_true rfl) (fun p l e s m args below meth c D T ad zz C hr hlk => ?_)
  rw [F_X11_leastOf] at hF
  refine V_bipush C dX11_leastOf_0 (v := (-9 : Int32)) (by decide) ?_
  refine V_istore_n C (lv' := [(3, .int (-9 : Int32)), (0, .ref (ad 11)), (1, .ref (ad (12 + n1))), (2, .int a2)]) dX11_leastOf_2 rfl (by decide) rfl ?_
  refine V_iconst C dX11_leastOf_3 (v := (0 : Int32)) (by decide) ?_
  refine V_istore C (lv' := [(4, .int (0 : Int32)), (3, .int (-9 : Int32)), (0, .ref (ad 11)), (1, .ref (ad (12 + n1))), (2, .int a2)]) dX11_leastOf_4 (by decide) rfl ?_
  refine V_lv (ks := [2, 3, 4, 1, 0]) rfl ?_
  exact w_X11_leastOf_b6 C hr hlk hn1 4000 a2 (-9 : Int32) (0 : Int32) hF

def F_X11_bolt (n1 : Nat) (a2 : Int32) (a3 : Int32) (σ : Mem) : Option Int32 :=
  Option.bind (rdA σ n1 a2) fun v1 =>
  if v1 = a3 then
    some (0 : Int32)
  else
    Option.bind (F_X11_isEnough a3 a2 σ) fun q2 =>
    if q2 = 0 then
      some (0 : Int32)
    else
      Option.bind (rdA σ n1 a2) fun v3 =>
      Option.bind (F_X11_likesHorse a2 a3 v3 σ) fun q4 =>
      if q4 = 0 then
        some (0 : Int32)
      else
        Option.bind (F_X11_isFull n1 a3 σ) fun q5 =>
        if q5 = 0 then
          some (1 : Int32)
        else
          Option.bind (F_X11_leastOf n1 a3 σ) fun q6 =>
          Option.bind (F_X11_likesRider a3 a2 q6 σ) fun q7 =>
          if q7 = 0 then
            some (0 : Int32)
          else
            some (1 : Int32)
set_option maxHeartbeats 4000000 in
set_option maxRecDepth 20000 in
theorem ct_X11_bolt {n1 : Nat} {a2 : Int32} {a3 : Int32} {σ : Mem} {r : Int32} (hn1 : n1 < 67) (hF : F_X11_bolt n1 a2 a3 σ = some r) : Ct yX11_bolt cX11_bolt 4 (some .boolean) 4 95 (fun ad zz => [.ref (ad 11), .ref (ad (12 + n1)), .int a2, .int a3]) σ (fun ad => (some (.int r))) σ := by
  refine Ct_of (by decide +kernel) (lv := fun ad zz => [(0, .ref (ad 11)), (1, .ref (ad (12 + n1))), (2, .int a2), (3, .int a3)]) (fun _ _ => rfl) (fun _ _ => Nat.le_of_ble_eq_true rfl) (fun p l e s m args below meth c D T ad zz C hr hlk => ?_)
  rw [F_X11_bolt] at hF
  refine V_aload_n C 1 dX11_bolt_0 rfl ?_
  refine V_iload_n C 2 dX11_bolt_1 rfl ?_
  obtain ⟨v1, hv1, hF⟩ := bnd hF
  refine V_iald C hn1 hv1 dX11_bolt_2 ?_
  refine V_iload_n C 3 dX11_bolt_3 rfl ?_
  refine V_icmp_eq C 28 dX11_bolt_4 (by decide) hF (fun hF => ?_) (fun hF => ?_)
  · refine V_iconst C dX11_bolt_28 (v := (0 : Int32)) (by decide) ?_
    cases hF
    exact V_zret C hr hlk (Or.inl rfl) rfl rfl dX11_bolt_29
  · refine V_aload_n C 0 dX11_bolt_7 rfl ?_
    refine V_iload_n C 3 dX11_bolt_8 rfl ?_
    refine V_iload_n C 2 dX11_bolt_9 rfl ?_
    obtain ⟨q2, hq2, hF⟩ := bnd hF
    refine cs_X11_121 C (ct_X11_isEnough hq2) rfl ⟨by decide, by decide⟩ (Nat.le_of_ble_eq_true rfl) dX11_bolt_10 ⟨Nat.le_refl 0, Nat.le_refl 0⟩ ?_
    refine V_if_eq C 28 dX11_bolt_13 (by decide) hF (fun hF => ?_) (fun hF => ?_)
    · refine V_iconst C dX11_bolt_28 (v := (0 : Int32)) (by decide) ?_
      cases hF
      exact V_zret C hr hlk (Or.inl rfl) rfl rfl dX11_bolt_29
    · refine V_aload_n C 0 dX11_bolt_16 rfl ?_
      refine V_iload_n C 2 dX11_bolt_17 rfl ?_
      refine V_iload_n C 3 dX11_bolt_18 rfl ?_
      refine V_aload_n C 1 dX11_bolt_19 rfl ?_
      refine V_iload_n C 2 dX11_bolt_20 rfl ?_
      obtain ⟨v3, hv3, hF⟩ := bnd hF
      refine V_iald C hn1 hv3 dX11_bolt_21 ?_
      obtain ⟨q4, hq4, hF⟩ := bnd hF
      refine cs_X11_125 C (ct_X11_likesHorse hq4) rfl ⟨by decide, by decide⟩ (Nat.le_of_ble_eq_true rfl) dX11_bolt_22 ⟨Nat.le_refl 0, Nat.le_refl 0⟩ ?_
      refine V_if_ne C 30 dX11_bolt_25 (by decide) hF (fun hF => ?_) (fun hF => ?_)
      · refine V_aload_n C 0 dX11_bolt_30 rfl ?_
        refine V_aload_n C 1 dX11_bolt_31 rfl ?_
        refine V_iload_n C 3 dX11_bolt_32 rfl ?_
        obtain ⟨q5, hq5, hF⟩ := bnd hF
        refine cs_X11_128 C (ct_X11_isFull hn1 hq5) rfl ⟨by decide, by decide⟩ (Nat.le_of_ble_eq_true rfl) dX11_bolt_33 ⟨Nat.le_refl 0, Nat.le_refl 0⟩ ?_
        refine V_if_eq C 54 dX11_bolt_36 (by decide) hF (fun hF => ?_) (fun hF => ?_)
        · refine V_iconst C dX11_bolt_54 (v := (1 : Int32)) (by decide) ?_
          refine V_goto C 59 dX11_bolt_55 (by decide) ?_
          cases hF
          exact V_zret C hr hlk (Or.inr rfl) rfl rfl dX11_bolt_59
        · refine V_aload_n C 0 dX11_bolt_39 rfl ?_
          refine V_iload_n C 3 dX11_bolt_40 rfl ?_
          refine V_iload_n C 2 dX11_bolt_41 rfl ?_
          refine V_aload_n C 0 dX11_bolt_42 rfl ?_
          refine V_aload_n C 1 dX11_bolt_43 rfl ?_
          refine V_iload_n C 3 dX11_bolt_44 rfl ?_
          obtain ⟨q6, hq6, hF⟩ := bnd hF
          refine cs_X11_132 C (ct_X11_leastOf hn1 hq6) rfl ⟨by decide, by decide⟩ (Nat.le_of_ble_eq_true rfl) dX11_bolt_45 ⟨Nat.le_refl 0, Nat.le_refl 0⟩ ?_
          obtain ⟨q7, hq7, hF⟩ := bnd hF
          refine cs_X11_117 C (ct_X11_likesRider hq7) rfl ⟨by decide, by decide⟩ (Nat.le_of_ble_eq_true rfl) dX11_bolt_48 ⟨Nat.le_refl 0, Nat.le_refl 0⟩ ?_
          refine V_if_eq C 58 dX11_bolt_51 (by decide) hF (fun hF => ?_) (fun hF => ?_)
          · refine V_iconst C dX11_bolt_58 (v := (0 : Int32)) (by decide) ?_
            cases hF
            exact V_zret C hr hlk (Or.inl rfl) rfl rfl dX11_bolt_59
          · refine V_iconst C dX11_bolt_54 (v := (1 : Int32)) (by decide) ?_
            refine V_goto C 59 dX11_bolt_55 (by decide) ?_
            cases hF
            exact V_zret C hr hlk (Or.inr rfl) rfl rfl dX11_bolt_59
      · refine V_iconst C dX11_bolt_28 (v := (0 : Int32)) (by decide) ?_
        cases hF
        exact V_zret C hr hlk (Or.inl rfl) rfl rfl dX11_bolt_29

def F_X11_boltsOf_b15 (n1 : Nat) (σ : Mem) (kL4 : Int32 → Int32 → Option Int32) : Nat → Int32 → Int32 → Int32 → Option Int32
  | 0, _, _, _ => none
  | n + 1, x2, x3, x4 =>
    if (σ.1 23) ≤ x4 then
      kL4 x2 (x3 + 1)
    else
      Option.bind (F_X11_bolt n1 x3 x4 σ) fun q1 =>
      if q1 = 0 then
        (F_X11_boltsOf_b15 n1 σ kL4 n) (x2 + (0 : Int32)) x3 (x4 + 1)
      else
        (F_X11_boltsOf_b15 n1 σ kL4 n) (x2 + (1 : Int32)) x3 (x4 + 1)
def F_X11_boltsOf_b4 (n1 : Nat) (σ : Mem) : Nat → Int32 → Int32 → Option Int32
  | 0, _, _ => none
  | n + 1, x2, x3 =>
    if (σ.1 24) ≤ x3 then
      some x2
    else
      F_X11_boltsOf_b15 n1 σ (F_X11_boltsOf_b4 n1 σ n) 4000 x2 x3 (0 : Int32)
def F_X11_boltsOf (n1 : Nat) (σ : Mem) : Option Int32 :=
  F_X11_boltsOf_b4 n1 σ 4000 (0 : Int32) (0 : Int32)
set_option maxHeartbeats 4000000 in
set_option maxRecDepth 20000 in
theorem w_X11_boltsOf_b15 {p : Program} {l : Launch} {e : Env} {s : State} {m : MethodId} {args : Array Value} {below : List Frame} {meth : Method} {c : Code} {D : va_G} {T : Nat → ClassId} {ad zz : Nat → Nat} (C : Cx p s m c cX11_boltsOf 5 RX11 (fA ad) D T ad zz) (hr : meth.sig.returnType = (some .int)) (hlk : meth.locks = false) {n1 : Nat} {σ : Mem} (hn1 : n1 < 67) {r : Int32} (kL4 : Int32 → Int32 → Option Int32) (hL4 : ∀ (x2 : Int32) (x3 : Int32), kL4 x2 x3 = some r → V p l e { frames := 5, cells := 0, slots := 0, locals := 118 } s m args below meth c 0 0 (MQ below (qC (some (.int r)) σ D T ad) args s 0 0 (fA ad)) 5 (fA ad) D T ad σ 4 [(0, .ref (ad 11)), (1, .ref (ad (12 + n1))), (2, .int x2), (3, .int x3)] []) : ∀ (n : Nat), ∀ (x2 : Int32) (x3 : Int32) (x4 : Int32), F_X11_boltsOf_b15 n1 σ kL4 n x2 x3 x4 = some r → V p l e { frames := 5, cells := 0, slots := 0, locals := 118 } s m args below meth c 0 0 (MQ below (qC (some (.int r)) σ D T ad) args s 0 0 (fA ad)) 5 (fA ad) D T ad σ 15 [(0, .ref (ad 11)), (1, .ref (ad (12 + n1))), (2, .int x2), (3, .int x3), (4, .int x4)] [] := by
  intro n
  induction n with
  | zero =>
    intro x2 x3 x4 hF
    cases (show (none : Option Int32) = some r from hF)
  | succ n ih =>
    intro x2 x3 x4 hF
    rw [F_X11_boltsOf_b15] at hF
    refine V_iload C 4 dX11_boltsOf_15 rfl ?_
    refine V_aload_n C 0 dX11_boltsOf_17 rfl ?_
    refine gf_X11_60 C dX11_boltsOf_18 ?_
    refine V_icmp_ge C 49 dX11_boltsOf_21 (by decide) hF (fun hF => ?_) (fun hF => ?_)
    · refine V_iinc C (v := (x3 + 1)) (lv' := [(3, .int (x3 + 1)), (0, .ref (ad 11)), (1, .ref (ad (12 + n1))), (2, .int x2), (4, .int x4)]) 3 dX11_boltsOf_49 rfl rfl (by decide) rfl ?_
      refine V_goto C 4 dX11_boltsOf_52 (by decide) ?_
      refine V_lv (ks := [1, 2, 3, 0]) rfl ?_
      exact hL4 x2 (x3 + 1) hF
    · refine V_iload_n C 2 dX11_boltsOf_24 rfl ?_
      refine V_aload_n C 0 dX11_boltsOf_25 rfl ?_
      refine V_aload_n C 1 dX11_boltsOf_26 rfl ?_
      refine V_iload_n C 3 dX11_boltsOf_27 rfl ?_
      refine V_iload C 4 dX11_boltsOf_28 rfl ?_
      obtain ⟨q1, hq1, hF⟩ := bnd hF
      refine cs_X11_135 C (ct_X11_bolt hn1 hq1) rfl ⟨by decide, by decide⟩ (Nat.le_of_ble_eq_true rfl) dX11_boltsOf_30 ⟨Nat.le_refl 0, Nat.le_refl 0⟩ ?_
      refine V_if_eq C 40 dX11_boltsOf_33 (by decide) hF (fun hF => ?_) (fun hF => ?_)
      · refine V_iconst C dX11_boltsOf_40 (v := (0 : Int32)) (by decide) ?_
        refine V_iadd C dX11_boltsOf_41 ?_
        refine V_istore_n C (lv' := [(2, .int (x2 + (0 : Int32))), (0, .ref (ad 11)), (1, .ref (ad (12 + n1))), (3, .int x3), (4, .int x4)]) dX11_boltsOf_42 rfl (by decide) rfl ?_
        refine V_iinc C (v := (x4 + 1)) (lv' := [(4, .int (x4 + 1)), (2, .int (x2 + (0 : Int32))), (0, .ref (ad 11)), (1, .ref (ad (12 + n1))), (3, .int x3)]) 4 dX11_boltsOf_43 rfl rfl (by decide) rfl ?_
        refine V_goto C 15 dX11_boltsOf_46 (by decide) ?_
        refine V_lv (ks := [2, 3, 1, 4, 0]) rfl ?_
        exact ih (x2 + (0 : Int32)) x3 (x4 + 1) hF
      · refine V_iconst C dX11_boltsOf_36 (v := (1 : Int32)) (by decide) ?_
        refine V_goto C 41 dX11_boltsOf_37 (by decide) ?_
        refine V_iadd C dX11_boltsOf_41 ?_
        refine V_istore_n C (lv' := [(2, .int (x2 + (1 : Int32))), (0, .ref (ad 11)), (1, .ref (ad (12 + n1))), (3, .int x3), (4, .int x4)]) dX11_boltsOf_42 rfl (by decide) rfl ?_
        refine V_iinc C (v := (x4 + 1)) (lv' := [(4, .int (x4 + 1)), (2, .int (x2 + (1 : Int32))), (0, .ref (ad 11)), (1, .ref (ad (12 + n1))), (3, .int x3)]) 4 dX11_boltsOf_43 rfl rfl (by decide) rfl ?_
        refine V_goto C 15 dX11_boltsOf_46 (by decide) ?_
        refine V_lv (ks := [2, 3, 1, 4, 0]) rfl ?_
        exact ih (x2 + (1 : Int32)) x3 (x4 + 1) hF
set_option maxHeartbeats 4000000 in
set_option maxRecDepth 20000 in
theorem w_X11_boltsOf_b4 {p : Program} {l : Launch} {e : Env} {s : State} {m : MethodId} {args : Array Value} {below : List Frame} {meth : Method} {c : Code} {D : va_G} {T : Nat → ClassId} {ad zz : Nat → Nat} (C : Cx p s m c cX11_boltsOf 5 RX11 (fA ad) D T ad zz) (hr : meth.sig.returnType = (some .int)) (hlk : meth.locks = false) {n1 : Nat} {σ : Mem} (hn1 : n1 < 67) {r : Int32}  : ∀ (n : Nat), ∀ (x2 : Int32) (x3 : Int32), F_X11_boltsOf_b4 n1 σ n x2 x3 = some r → V p l e { frames := 5, cells := 0, slots := 0, locals := 118 } s m args below meth c 0 0 (MQ below (qC (some (.int r)) σ D T ad) args s 0 0 (fA ad)) 5 (fA ad) D T ad σ 4 [(0, .ref (ad 11)), (1, .ref (ad (12 + n1))), (2, .int x2), (3, .int x3)] [] := by
  intro n
  induction n with
  | zero =>
    intro x2 x3 hF
    cases (show (none : Option Int32) = some r from hF)
  | succ n ih =>
    intro x2 x3 hF
    rw [F_X11_boltsOf_b4] at hF
    refine V_iload_n C 3 dX11_boltsOf_4 rfl ?_
    refine V_aload_n C 0 dX11_boltsOf_5 rfl ?_
    refine gf_X11_67 C dX11_boltsOf_6 ?_
    refine V_icmp_ge C 55 dX11_boltsOf_9 (by decide) hF (fun hF => ?_) (fun hF => ?_)
    · refine V_iload_n C 2 dX11_boltsOf_55 rfl ?_
      cases hF
      exact V_iret C hr hlk rfl rfl dX11_boltsOf_56
    · refine V_iconst C dX11_boltsOf_12 (v := (0 : Int32)) (by decide) ?_
      refine V_istore C (lv' := [(4, .int (0 : Int32)), (0, .ref (ad 11)), (1, .ref (ad (12 + n1))), (2, .int x2), (3, .int x3)]) dX11_boltsOf_13 (by decide) rfl ?_
      refine V_lv (ks := [1, 2, 3, 4, 0]) rfl ?_
      exact w_X11_boltsOf_b15 C hr hlk hn1 (F_X11_boltsOf_b4 n1 σ n) ih 4000 x2 x3 (0 : Int32) hF
set_option maxHeartbeats 4000000 in
set_option maxRecDepth 20000 in
theorem ct_X11_boltsOf {n1 : Nat} {σ : Mem} {r : Int32} (hn1 : n1 < 67) (hF : F_X11_boltsOf n1 σ = some r) : Ct yX11_boltsOf cX11_boltsOf 5 (some .int) 5 118 (fun ad zz => [.ref (ad 11), .ref (ad (12 + n1))]) σ (fun ad => (some (.int r))) σ := by
  refine Ct_of (by decide +kernel) (lv := fun ad zz => [(0, .ref (ad 11)), (1, .ref (ad (12 + n1)))]) (fun _ _ => rfl) (fun _ _ => Nat.le_of_ble_eq_true rfl) (fun p l e s m args below meth c D T ad zz C hr hlk => ?_)
  rw [F_X11_boltsOf] at hF
  refine V_iconst C dX11_boltsOf_0 (v := (0 : Int32)) (by decide) ?_
  refine V_istore_n C (lv' := [(2, .int (0 : Int32)), (0, .ref (ad 11)), (1, .ref (ad (12 + n1)))]) dX11_boltsOf_1 rfl (by decide) rfl ?_
  refine V_iconst C dX11_boltsOf_2 (v := (0 : Int32)) (by decide) ?_
  refine V_istore_n C (lv' := [(3, .int (0 : Int32)), (2, .int (0 : Int32)), (0, .ref (ad 11)), (1, .ref (ad (12 + n1)))]) dX11_boltsOf_3 rfl (by decide) rfl ?_
  refine V_lv (ks := [2, 3, 1, 0]) rfl ?_
  exact w_X11_boltsOf_b4 C hr hlk hn1 4000 (0 : Int32) (0 : Int32) hF

def F_X11_takenOf_b4 (n1 : Nat) (σ : Mem) : Nat → Int32 → Int32 → Option Int32
  | 0, _, _ => none
  | n + 1, x2, x3 =>
    if (σ.1 24) ≤ x3 then
      some x2
    else
      Option.bind (rdA σ n1 x3) fun v1 =>
      if v1 = (-9 : Int32) then
        (F_X11_takenOf_b4 n1 σ n) (x2 ||| (0 : Int32)) (x3 + 1)
      else
        (F_X11_takenOf_b4 n1 σ n) (x2 ||| ((1 : Int32) <<< (x3 &&& 31))) (x3 + 1)
def F_X11_takenOf (n1 : Nat) (σ : Mem) : Option Int32 :=
  F_X11_takenOf_b4 n1 σ 4000 (0 : Int32) (0 : Int32)
set_option maxHeartbeats 4000000 in
set_option maxRecDepth 20000 in
theorem w_X11_takenOf_b4 {p : Program} {l : Launch} {e : Env} {s : State} {m : MethodId} {args : Array Value} {below : List Frame} {meth : Method} {c : Code} {D : va_G} {T : Nat → ClassId} {ad zz : Nat → Nat} (C : Cx p s m c cX11_takenOf 4 RX11 (fA ad) D T ad zz) (hr : meth.sig.returnType = (some .int)) (hlk : meth.locks = false) {n1 : Nat} {σ : Mem} (hn1 : n1 < 67) {r : Int32}  : ∀ (n : Nat), ∀ (x2 : Int32) (x3 : Int32), F_X11_takenOf_b4 n1 σ n x2 x3 = some r → V p l e { frames := 0, cells := 0, slots := 0, locals := 0 } s m args below meth c 0 0 (MQ below (qC (some (.int r)) σ D T ad) args s 0 0 (fA ad)) 4 (fA ad) D T ad σ 4 [(0, .ref (ad 11)), (1, .ref (ad (12 + n1))), (2, .int x2), (3, .int x3)] [] := by
  intro n
  induction n with
  | zero =>
    intro x2 x3 hF
    cases (show (none : Option Int32) = some r from hF)
  | succ n ih =>
    intro x2 x3 hF
    rw [F_X11_takenOf_b4] at hF
    refine V_iload_n C 3 dX11_takenOf_4 rfl ?_
    refine V_aload_n C 0 dX11_takenOf_5 rfl ?_
    refine gf_X11_67 C dX11_takenOf_6 ?_
    refine V_icmp_ge C 36 dX11_takenOf_9 (by decide) hF (fun hF => ?_) (fun hF => ?_)
    · refine V_iload_n C 2 dX11_takenOf_36 rfl ?_
      cases hF
      exact V_iret C hr hlk rfl rfl dX11_takenOf_37
    · refine V_iload_n C 2 dX11_takenOf_12 rfl ?_
      refine V_aload_n C 1 dX11_takenOf_13 rfl ?_
      refine V_iload_n C 3 dX11_takenOf_14 rfl ?_
      obtain ⟨v1, hv1, hF⟩ := bnd hF
      refine V_iald C hn1 hv1 dX11_takenOf_15 ?_
      refine V_bipush C dX11_takenOf_16 (v := (-9 : Int32)) (by decide) ?_
      refine V_icmp_ne C 25 dX11_takenOf_18 (by decide) hF (fun hF => ?_) (fun hF => ?_)
      · refine V_iconst C dX11_takenOf_25 (v := (1 : Int32)) (by decide) ?_
        refine V_iload_n C 3 dX11_takenOf_26 rfl ?_
        refine V_ishl C dX11_takenOf_27 ?_
        refine V_ior C dX11_takenOf_28 ?_
        refine V_istore_n C (lv' := [(2, .int (x2 ||| ((1 : Int32) <<< (x3 &&& 31)))), (0, .ref (ad 11)), (1, .ref (ad (12 + n1))), (3, .int x3)]) dX11_takenOf_29 rfl (by decide) rfl ?_
        refine V_iinc C (v := (x3 + 1)) (lv' := [(3, .int (x3 + 1)), (2, .int (x2 ||| ((1 : Int32) <<< (x3 &&& 31)))), (0, .ref (ad 11)), (1, .ref (ad (12 + n1)))]) 3 dX11_takenOf_30 rfl rfl (by decide) rfl ?_
        refine V_goto C 4 dX11_takenOf_33 (by decide) ?_
        refine V_lv (ks := [2, 3, 1, 0]) rfl ?_
        exact ih (x2 ||| ((1 : Int32) <<< (x3 &&& 31))) (x3 + 1) hF
      · refine V_iconst C dX11_takenOf_21 (v := (0 : Int32)) (by decide) ?_
        refine V_goto C 28 dX11_takenOf_22 (by decide) ?_
        refine V_ior C dX11_takenOf_28 ?_
        refine V_istore_n C (lv' := [(2, .int (x2 ||| (0 : Int32))), (0, .ref (ad 11)), (1, .ref (ad (12 + n1))), (3, .int x3)]) dX11_takenOf_29 rfl (by decide) rfl ?_
        refine V_iinc C (v := (x3 + 1)) (lv' := [(3, .int (x3 + 1)), (2, .int (x2 ||| (0 : Int32))), (0, .ref (ad 11)), (1, .ref (ad (12 + n1)))]) 3 dX11_takenOf_30 rfl rfl (by decide) rfl ?_
        refine V_goto C 4 dX11_takenOf_33 (by decide) ?_
        refine V_lv (ks := [2, 3, 1, 0]) rfl ?_
        exact ih (x2 ||| (0 : Int32)) (x3 + 1) hF
set_option maxHeartbeats 4000000 in
set_option maxRecDepth 20000 in
theorem ct_X11_takenOf {n1 : Nat} {σ : Mem} {r : Int32} (hn1 : n1 < 67) (hF : F_X11_takenOf n1 σ = some r) : Ct yX11_takenOf cX11_takenOf 4 (some .int) 0 0 (fun ad zz => [.ref (ad 11), .ref (ad (12 + n1))]) σ (fun ad => (some (.int r))) σ := by
  refine Ct_of (by decide +kernel) (lv := fun ad zz => [(0, .ref (ad 11)), (1, .ref (ad (12 + n1)))]) (fun _ _ => rfl) (fun _ _ => Nat.le_of_ble_eq_true rfl) (fun p l e s m args below meth c D T ad zz C hr hlk => ?_)
  rw [F_X11_takenOf] at hF
  refine V_iconst C dX11_takenOf_0 (v := (0 : Int32)) (by decide) ?_
  refine V_istore_n C (lv' := [(2, .int (0 : Int32)), (0, .ref (ad 11)), (1, .ref (ad (12 + n1)))]) dX11_takenOf_1 rfl (by decide) rfl ?_
  refine V_iconst C dX11_takenOf_2 (v := (0 : Int32)) (by decide) ?_
  refine V_istore_n C (lv' := [(3, .int (0 : Int32)), (2, .int (0 : Int32)), (0, .ref (ad 11)), (1, .ref (ad (12 + n1)))]) dX11_takenOf_3 rfl (by decide) rfl ?_
  refine V_lv (ks := [2, 3, 1, 0]) rfl ?_
  exact w_X11_takenOf_b4 C hr hlk hn1 4000 (0 : Int32) (0 : Int32) hF
