-- walks: X11_begin X11_nextOf X11_holdByRiders X11_askOf X11_holdByHorses X11_all X11_held X11_nextWay X11_firstWay X11_isWay X11_isHeld
def F_X11_begin_b2  : Nat → Int32 → Mem → Option Mem
  | 0, _, _ => none
  | n + 1, x1, σ =>
    if (5 : Int32) ≤ x1 then
      Option.bind (stI σ 29 (0 : Int32)) fun σ1 =>
      some σ1
    else
      Option.bind (wrA σ 63 x1 (-9 : Int32)) fun σ2 =>
      (F_X11_begin_b2 n) (x1 + 1) σ2
def F_X11_begin (σ : Mem) : Option Mem :=
  F_X11_begin_b2 4000 (0 : Int32) σ
set_option maxHeartbeats 4000000 in
set_option maxRecDepth 20000 in
theorem w_X11_begin_b2 {p : Program} {l : Launch} {e : Env} {s : State} {m : MethodId} {args : Array Value} {below : List Frame} {meth : Method} {c : Code} {D : va_G} {T : Nat → ClassId} {ad zz : Nat → Nat} (C : Cx p s m c cX11_begin 2 RX11 (fA ad) D T ad zz) (hr : meth.sig.returnType = none) (hlk : meth.locks = false) {r : Mem}  : ∀ (n : Nat), ∀ (x1 : Int32) (σ : Mem), F_X11_begin_b2  n x1 σ = some r → V p l e { frames := 0, cells := 0, slots := 0, locals := 0 } s m args below meth c 0 0 (MQ below (qC none r D T ad) args s 0 0 (fA ad)) 2 (fA ad) D T ad σ 2 [(0, .ref (ad 11)), (1, .int x1)] [] := by
  intro n
  induction n with
  | zero =>
    intro x1 σ hF
    cases (show (none : Option Mem) = some r from hF)
  | succ n ih =>
    intro x1 σ hF
    rw [F_X11_begin_b2] at hF
    refine V_iload_n C 1 dX11_begin_2 rfl ?_
    refine V_iconst C dX11_begin_3 (v := (5 : Int32)) (by decide) ?_
    refine V_icmp_ge C 21 dX11_begin_4 (by decide) hF (fun hF => ?_) (fun hF => ?_)
    · refine V_aload_n C 0 dX11_begin_21 rfl ?_
      refine V_iconst C dX11_begin_22 (v := (0 : Int32)) (by decide) ?_
      obtain ⟨σ1, hs1, hF⟩ := bnd hF
      refine pf_X11_167 C hs1 dX11_begin_23 ?_
      cases hF
      exact V_vret C hr hlk rfl rfl dX11_begin_26
    · refine V_aload_n C 0 dX11_begin_7 rfl ?_
      refine gf_X11_44 C dX11_begin_8 ?_
      refine V_iload_n C 1 dX11_begin_11 rfl ?_
      refine V_bipush C dX11_begin_12 (v := (-9 : Int32)) (by decide) ?_
      obtain ⟨σ2, hs2, hF⟩ := bnd hF
      refine V_iast C (by decide) hs2 dX11_begin_14 ?_
      refine V_iinc C (v := (x1 + 1)) (lv' := [(1, .int (x1 + 1)), (0, .ref (ad 11))]) 1 dX11_begin_15 rfl rfl (by decide) rfl ?_
      refine V_goto C 2 dX11_begin_18 (by decide) ?_
      refine V_lv (ks := [1, 0]) rfl ?_
      exact ih (x1 + 1) σ2 hF
set_option maxHeartbeats 4000000 in
set_option maxRecDepth 20000 in
theorem ct_X11_begin {σ : Mem} {r : Mem} (hF : F_X11_begin σ = some r) : Ct yX11_begin cX11_begin 2 none 0 0 (fun ad zz => [.ref (ad 11)]) σ (fun ad => none) r := by
  refine Ct_of (by decide +kernel) (lv := fun ad zz => [(0, .ref (ad 11))]) (fun _ _ => rfl) (fun _ _ => Nat.le_of_ble_eq_true rfl) (fun p l e s m args below meth c D T ad zz C hr hlk => ?_)
  rw [F_X11_begin] at hF
  refine V_iconst C dX11_begin_0 (v := (0 : Int32)) (by decide) ?_
  refine V_istore_n C (lv' := [(1, .int (0 : Int32)), (0, .ref (ad 11))]) dX11_begin_1 rfl (by decide) rfl ?_
  refine V_lv (ks := [1, 0]) rfl ?_
  exact w_X11_begin_b2 C hr hlk 4000 (0 : Int32) σ hF

def F_X11_nextOf_b5 (σ : Mem) : Nat → Int32 → Int32 → Int32 → Option Int32
  | 0, _, _, _ => none
  | n + 1, x1, x2, x3 =>
    if (σ.1 23) ≤ x3 then
      some x2
    else
      Option.bind (F_X11_isIn (σ.1 29) (((4 : Int32) * x1) + x3) σ) fun q1 =>
      if q1 = 0 then
        Option.bind (F_X11_likesHorse x1 x3 x2 σ) fun q2 =>
        if q2 = 0 then
          (F_X11_nextOf_b5 σ n) x1 x2 (x3 + 1)
        else
          (F_X11_nextOf_b5 σ n) x1 x3 (x3 + 1)
      else
        (F_X11_nextOf_b5 σ n) x1 x2 (x3 + 1)
def F_X11_nextOf (a1 : Int32) (σ : Mem) : Option Int32 :=
  F_X11_nextOf_b5 σ 4000 a1 (-9 : Int32) (0 : Int32)
set_option maxHeartbeats 4000000 in
set_option maxRecDepth 20000 in
theorem w_X11_nextOf_b5 {p : Program} {l : Launch} {e : Env} {s : State} {m : MethodId} {args : Array Value} {below : List Frame} {meth : Method} {c : Code} {D : va_G} {T : Nat → ClassId} {ad zz : Nat → Nat} (C : Cx p s m c cX11_nextOf 4 RX11 (fA ad) D T ad zz) (hr : meth.sig.returnType = (some .int)) (hlk : meth.locks = false) {σ : Mem} {r : Int32}  : ∀ (n : Nat), ∀ (x1 : Int32) (x2 : Int32) (x3 : Int32), F_X11_nextOf_b5 σ n x1 x2 x3 = some r → V p l e { frames := 1, cells := 0, slots := 0, locals := 26 } s m args below meth c 0 0 (MQ below (qC (some (.int r)) σ D T ad) args s 0 0 (fA ad)) 4 (fA ad) D T ad σ 5 [(0, .ref (ad 11)), (1, .int x1), (2, .int x2), (3, .int x3)] [] := by
  intro n
  induction n with
  | zero =>
    intro x1 x2 x3 hF
    cases (show (none : Option Int32) = some r from hF)
  | succ n ih =>
    intro x1 x2 x3 hF
    rw [F_X11_nextOf_b5] at hF
    refine V_iload_n C 3 dX11_nextOf_5 rfl ?_
    refine V_aload_n C 0 dX11_nextOf_6 rfl ?_
    refine gf_X11_60 C dX11_nextOf_7 ?_
    refine V_icmp_ge C 50 dX11_nextOf_10 (by decide) hF (fun hF => ?_) (fun hF => ?_)
    · refine V_iload_n C 2 dX11_nextOf_50 rfl ?_
      cases hF
      exact V_iret C hr hlk rfl rfl dX11_nextOf_51
    · refine V_aload_n C 0 dX11_nextOf_13 rfl ?_
      refine gf_X11_167 C dX11_nextOf_14 ?_
      refine V_iconst C dX11_nextOf_17 (v := (4 : Int32)) (by decide) ?_
      refine V_iload_n C 1 dX11_nextOf_18 rfl ?_
      refine V_imul C dX11_nextOf_19 ?_
      refine V_iload_n C 3 dX11_nextOf_20 rfl ?_
      refine V_iadd C dX11_nextOf_21 ?_
      obtain ⟨q1, hq1, hF⟩ := bnd hF
      refine cs_X11_170 C (ct_X11_isIn hq1) rfl ⟨by decide, by decide⟩ (Nat.le_of_ble_eq_true rfl) dX11_nextOf_22 ⟨Nat.le_refl 0, Nat.le_refl 0⟩ ?_
      refine V_if_ne C 42 dX11_nextOf_25 (by decide) hF (fun hF => ?_) (fun hF => ?_)
      · refine V_iload_n C 2 dX11_nextOf_42 rfl ?_
        refine V_istore_n C (lv' := [(2, .int x2), (0, .ref (ad 11)), (1, .int x1), (3, .int x3)]) dX11_nextOf_43 rfl (by decide) rfl ?_
        refine V_iinc C (v := (x3 + 1)) (lv' := [(3, .int (x3 + 1)), (2, .int x2), (0, .ref (ad 11)), (1, .int x1)]) 3 dX11_nextOf_44 rfl rfl (by decide) rfl ?_
        refine V_goto C 5 dX11_nextOf_47 (by decide) ?_
        refine V_lv (ks := [2, 3, 1, 0]) rfl ?_
        exact ih x1 x2 (x3 + 1) hF
      · refine V_aload_n C 0 dX11_nextOf_28 rfl ?_
        refine V_iload_n C 1 dX11_nextOf_29 rfl ?_
        refine V_iload_n C 3 dX11_nextOf_30 rfl ?_
        refine V_iload_n C 2 dX11_nextOf_31 rfl ?_
        obtain ⟨q2, hq2, hF⟩ := bnd hF
        refine cs_X11_125 C (ct_X11_likesHorse hq2) rfl ⟨by decide, by decide⟩ (Nat.le_of_ble_eq_true rfl) dX11_nextOf_32 ⟨Nat.le_refl 0, Nat.le_refl 0⟩ ?_
        refine V_if_eq C 42 dX11_nextOf_35 (by decide) hF (fun hF => ?_) (fun hF => ?_)
        · refine V_iload_n C 2 dX11_nextOf_42 rfl ?_
          refine V_istore_n C (lv' := [(2, .int x2), (0, .ref (ad 11)), (1, .int x1), (3, .int x3)]) dX11_nextOf_43 rfl (by decide) rfl ?_
          refine V_iinc C (v := (x3 + 1)) (lv' := [(3, .int (x3 + 1)), (2, .int x2), (0, .ref (ad 11)), (1, .int x1)]) 3 dX11_nextOf_44 rfl rfl (by decide) rfl ?_
          refine V_goto C 5 dX11_nextOf_47 (by decide) ?_
          refine V_lv (ks := [2, 3, 1, 0]) rfl ?_
          exact ih x1 x2 (x3 + 1) hF
        · refine V_iload_n C 3 dX11_nextOf_38 rfl ?_
          refine V_goto C 43 dX11_nextOf_39 (by decide) ?_
          refine V_istore_n C (lv' := [(2, .int x3), (0, .ref (ad 11)), (1, .int x1), (3, .int x3)]) dX11_nextOf_43 rfl (by decide) rfl ?_
          refine V_iinc C (v := (x3 + 1)) (lv' := [(3, .int (x3 + 1)), (2, .int x3), (0, .ref (ad 11)), (1, .int x1)]) 3 dX11_nextOf_44 rfl rfl (by decide) rfl ?_
          refine V_goto C 5 dX11_nextOf_47 (by decide) ?_
          refine V_lv (ks := [2, 3, 1, 0]) rfl ?_
          exact ih x1 x3 (x3 + 1) hF
set_option maxHeartbeats 4000000 in
set_option maxRecDepth 20000 in
theorem ct_X11_nextOf {a1 : Int32} {σ : Mem} {r : Int32} (hF : F_X11_nextOf a1 σ = some r) : Ct yX11_nextOf cX11_nextOf 4 (some .int) 1 26 (fun ad zz => [.ref (ad 11), .int a1]) σ (fun ad => (some (.int r))) σ := by
  refine Ct_of (by decide +kernel) (lv := fun ad zz => [(0, .ref (ad 11)), (1, .int a1)]) (fun _ _ => rfl) (fun _ _ => Nat.le_of_ble_eq_true rfl) (fun p l e s m args below meth c D T ad zz C hr hlk => ?_)
  rw [F_X11_nextOf] at hF
  refine V_bipush C dX11_nextOf_0 (v := (-9 : Int32)) (by decide) ?_
  refine V_istore_n C (lv' := [(2, .int (-9 : Int32)), (0, .ref (ad 11)), (1, .int a1)]) dX11_nextOf_2 rfl (by decide) rfl ?_
  refine V_iconst C dX11_nextOf_3 (v := (0 : Int32)) (by decide) ?_
  refine V_istore_n C (lv' := [(3, .int (0 : Int32)), (2, .int (-9 : Int32)), (0, .ref (ad 11)), (1, .int a1)]) dX11_nextOf_4 rfl (by decide) rfl ?_
  refine V_lv (ks := [2, 3, 1, 0]) rfl ?_
  exact w_X11_nextOf_b5 C hr hlk 4000 a1 (-9 : Int32) (0 : Int32) hF

def F_X11_holdByRiders_b43 (kL6 : Int32 → Int32 → Mem → Option Mem) (x1 : Int32) (x2 : Int32) (y0 : Int32) (σ : Mem) : Option Mem :=
  if y0 = (-9 : Int32) then
    kL6 x1 (x2 + 1) σ
  else
    Option.bind (stI σ 29 ((σ.1 29) ||| ((1 : Int32) <<< ((((4 : Int32) * x2) + y0) &&& 31)))) fun σ3 =>
    Option.bind (F_X11_goLead 63 x2 y0 σ3) fun q4 =>
    kL6 x1 (0 : Int32) q4.2
def F_X11_holdByRiders_b6  : Nat → Int32 → Int32 → Mem → Option Mem
  | 0, _, _, _ => none
  | n + 1, x1, x2, σ =>
    if (σ.1 24) ≤ x2 then
      some σ
    else
      Option.bind (F_X11_isIn x1 x2 σ) fun q2 =>
      if q2 = 0 then
        F_X11_holdByRiders_b43 (F_X11_holdByRiders_b6 n) x1 x2 (-9 : Int32) σ
      else
        Option.bind (rdA σ 63 x2) fun v5 =>
        if v5 = (-9 : Int32) then
          Option.bind (F_X11_nextOf x2 σ) fun q6 =>
          F_X11_holdByRiders_b43 (F_X11_holdByRiders_b6 n) x1 x2 q6 σ
        else
          F_X11_holdByRiders_b43 (F_X11_holdByRiders_b6 n) x1 x2 (-9 : Int32) σ
def F_X11_holdByRiders (a1 : Int32) (σ : Mem) : Option Mem :=
  Option.bind (F_X11_begin σ) fun σ1 =>
  F_X11_holdByRiders_b6 4000 a1 (0 : Int32) σ1
set_option maxHeartbeats 4000000 in
set_option maxRecDepth 20000 in
theorem w_X11_holdByRiders_b43 {p : Program} {l : Launch} {e : Env} {s : State} {m : MethodId} {args : Array Value} {below : List Frame} {meth : Method} {c : Code} {D : va_G} {T : Nat → ClassId} {ad zz : Nat → Nat} (C : Cx p s m c cX11_holdByRiders 4 RX11 (fA ad) D T ad zz) (hr : meth.sig.returnType = none) (hlk : meth.locks = false) {r : Mem} (kL6 : Int32 → Int32 → Mem → Option Mem) (hL6 : ∀ (x1 : Int32) (x2 : Int32) (σ : Mem), kL6 x1 x2 σ = some r → V p l e { frames := 5, cells := 0, slots := 0, locals := 119 } s m args below meth c 0 0 (MQ below (qC none r D T ad) args s 0 0 (fA ad)) 4 (fA ad) D T ad σ 6 [(0, .ref (ad 11)), (1, .int x1), (2, .int x2)] []) (x1 : Int32) (x2 : Int32) (y0 : Int32) (σ : Mem) (hF : F_X11_holdByRiders_b43 kL6 x1 x2 y0 σ = some r) : V p l e { frames := 5, cells := 0, slots := 0, locals := 119 } s m args below meth c 0 0 (MQ below (qC none r D T ad) args s 0 0 (fA ad)) 4 (fA ad) D T ad σ 43 [(0, .ref (ad 11)), (1, .int x1), (2, .int x2)] [.int y0] := by
  rw [F_X11_holdByRiders_b43] at hF
  refine V_istore_n C (lv' := [(3, .int y0), (0, .ref (ad 11)), (1, .int x1), (2, .int x2)]) dX11_holdByRiders_43 rfl (by decide) rfl ?_
  refine V_iload_n C 0 dX11_holdByRiders_44 rfl ?_
  refine V_bipush C dX11_holdByRiders_45 (v := (-9 : Int32)) (by decide) ?_
  refine V_icmp_ne C 56 dX11_holdByRiders_47 (by decide) hF (fun hF => ?_) (fun hF => ?_)
  · refine V_aload_n C 1 dX11_holdByRiders_56 rfl ?_
    refine V_dup C dX11_holdByRiders_57 rfl ?_
    refine gf_X11_167 C dX11_holdByRiders_58 ?_
    refine V_iconst C dX11_holdByRiders_61 (v := (1 : Int32)) (by decide) ?_
    refine V_iconst C dX11_holdByRiders_62 (v := (4 : Int32)) (by decide) ?_
    refine V_iload_n C 3 dX11_holdByRiders_63 rfl ?_
    refine V_imul C dX11_holdByRiders_64 ?_
    refine V_iload_n C 0 dX11_holdByRiders_65 rfl ?_
    refine V_iadd C dX11_holdByRiders_66 ?_
    refine V_ishl C dX11_holdByRiders_67 ?_
    refine V_ior C dX11_holdByRiders_68 ?_
    obtain ⟨σ3, hs3, hF⟩ := bnd hF
    refine pf_X11_167 C hs3 dX11_holdByRiders_69 ?_
    refine V_aload_n C 1 dX11_holdByRiders_72 rfl ?_
    refine V_aload_n C 1 dX11_holdByRiders_73 rfl ?_
    refine gf_X11_44 C dX11_holdByRiders_74 ?_
    refine V_iload_n C 3 dX11_holdByRiders_77 rfl ?_
    refine V_iload_n C 0 dX11_holdByRiders_78 rfl ?_
    obtain ⟨q4, hq4, hF⟩ := bnd hF
    refine cs_X11_162 C (ct_X11_goLead (by decide) hq4) rfl ⟨by decide, by decide⟩ (Nat.le_of_ble_eq_true rfl) dX11_holdByRiders_79 ⟨Nat.le_refl 0, Nat.le_refl 0⟩ ?_
    refine V_pop C dX11_holdByRiders_82 rfl ?_
    refine V_iconst C dX11_holdByRiders_83 (v := (0 : Int32)) (by decide) ?_
    refine V_istore_n C (lv' := [(2, .int (0 : Int32)), (3, .int y0), (0, .ref (ad 11)), (1, .int x1)]) dX11_holdByRiders_84 rfl (by decide) rfl ?_
    refine V_goto C 6 dX11_holdByRiders_85 (by decide) ?_
    refine V_lv (ks := [2, 3, 0]) rfl ?_
    exact hL6 x1 (0 : Int32) q4.2 hF
  · refine V_iinc C (v := (x2 + 1)) (lv' := [(2, .int (x2 + 1)), (3, .int y0), (0, .ref (ad 11)), (1, .int x1)]) 3 dX11_holdByRiders_50 rfl rfl (by decide) rfl ?_
    refine V_goto C 85 dX11_holdByRiders_53 (by decide) ?_
    refine V_goto C 6 dX11_holdByRiders_85 (by decide) ?_
    refine V_lv (ks := [2, 3, 0]) rfl ?_
    exact hL6 x1 (x2 + 1) σ hF
set_option maxHeartbeats 4000000 in
set_option maxRecDepth 20000 in
theorem w_X11_holdByRiders_b6 {p : Program} {l : Launch} {e : Env} {s : State} {m : MethodId} {args : Array Value} {below : List Frame} {meth : Method} {c : Code} {D : va_G} {T : Nat → ClassId} {ad zz : Nat → Nat} (C : Cx p s m c cX11_holdByRiders 4 RX11 (fA ad) D T ad zz) (hr : meth.sig.returnType = none) (hlk : meth.locks = false) {r : Mem}  : ∀ (n : Nat), ∀ (x1 : Int32) (x2 : Int32) (σ : Mem), F_X11_holdByRiders_b6  n x1 x2 σ = some r → V p l e { frames := 5, cells := 0, slots := 0, locals := 119 } s m args below meth c 0 0 (MQ below (qC none r D T ad) args s 0 0 (fA ad)) 4 (fA ad) D T ad σ 6 [(0, .ref (ad 11)), (1, .int x1), (2, .int x2)] [] := by
  intro n
  induction n with
  | zero =>
    intro x1 x2 σ hF
    cases (show (none : Option Mem) = some r from hF)
  | succ n ih =>
    intro x1 x2 σ hF
    rw [F_X11_holdByRiders_b6] at hF
    refine V_iload_n C 2 dX11_holdByRiders_6 rfl ?_
    refine V_aload_n C 0 dX11_holdByRiders_7 rfl ?_
    refine gf_X11_67 C dX11_holdByRiders_8 ?_
    refine V_icmp_ge C 88 dX11_holdByRiders_11 (by decide) hF (fun hF => ?_) (fun hF => ?_)
    · cases hF
      exact V_vret C hr hlk rfl rfl dX11_holdByRiders_88
    · refine V_iload_n C 1 dX11_holdByRiders_14 rfl ?_
      refine V_iload_n C 2 dX11_holdByRiders_15 rfl ?_
      obtain ⟨q2, hq2, hF⟩ := bnd hF
      refine cs_X11_170 C (ct_X11_isIn hq2) rfl ⟨by decide, by decide⟩ (Nat.le_of_ble_eq_true rfl) dX11_holdByRiders_16 ⟨Nat.le_refl 0, Nat.le_refl 0⟩ ?_
      refine V_if_eq C 41 dX11_holdByRiders_19 (by decide) hF (fun hF => ?_) (fun hF => ?_)
      · refine V_bipush C dX11_holdByRiders_41 (v := (-9 : Int32)) (by decide) ?_
        exact w_X11_holdByRiders_b43 C hr hlk (F_X11_holdByRiders_b6 n) ih x1 x2 (-9 : Int32) σ hF
      · refine V_aload_n C 0 dX11_holdByRiders_22 rfl ?_
        refine gf_X11_44 C dX11_holdByRiders_23 ?_
        refine V_iload_n C 2 dX11_holdByRiders_26 rfl ?_
        obtain ⟨v5, hv5, hF⟩ := bnd hF
        refine V_iald C (by decide) hv5 dX11_holdByRiders_27 ?_
        refine V_bipush C dX11_holdByRiders_28 (v := (-9 : Int32)) (by decide) ?_
        refine V_icmp_ne C 41 dX11_holdByRiders_30 (by decide) hF (fun hF => ?_) (fun hF => ?_)
        · refine V_bipush C dX11_holdByRiders_41 (v := (-9 : Int32)) (by decide) ?_
          exact w_X11_holdByRiders_b43 C hr hlk (F_X11_holdByRiders_b6 n) ih x1 x2 (-9 : Int32) σ hF
        · refine V_aload_n C 0 dX11_holdByRiders_33 rfl ?_
          refine V_iload_n C 2 dX11_holdByRiders_34 rfl ?_
          obtain ⟨q6, hq6, hF⟩ := bnd hF
          refine cs_X11_176 C (ct_X11_nextOf hq6) rfl ⟨by decide, by decide⟩ (Nat.le_of_ble_eq_true rfl) dX11_holdByRiders_35 ⟨Nat.le_refl 0, Nat.le_refl 0⟩ ?_
          refine V_goto C 43 dX11_holdByRiders_38 (by decide) ?_
          exact w_X11_holdByRiders_b43 C hr hlk (F_X11_holdByRiders_b6 n) ih x1 x2 q6 σ hF
set_option maxHeartbeats 4000000 in
set_option maxRecDepth 20000 in
theorem ct_X11_holdByRiders {a1 : Int32} {σ : Mem} {r : Mem} (hF : F_X11_holdByRiders a1 σ = some r) : Ct yX11_holdByRiders cX11_holdByRiders 4 none 5 119 (fun ad zz => [.ref (ad 11), .int a1]) σ (fun ad => none) r := by
  refine Ct_of (by decide +kernel) (lv := fun ad zz => [(0, .ref (ad 11)), (1, .int a1)]) (fun _ _ => rfl) (fun _ _ => Nat.le_of_ble_eq_true rfl) (fun p l e s m args below meth c D T ad zz C hr hlk => ?_)
  rw [F_X11_holdByRiders] at hF
  refine V_aload_n C 0 dX11_holdByRiders_0 rfl ?_
  obtain ⟨σ1, hs1, hF⟩ := bnd hF
  refine cs_X11_173 C (ct_X11_begin hs1) rfl ⟨by decide, by decide⟩ (Nat.le_of_ble_eq_true rfl) dX11_holdByRiders_1 ⟨Nat.le_refl 0, Nat.le_refl 0⟩ ?_
  refine V_iconst C dX11_holdByRiders_4 (v := (0 : Int32)) (by decide) ?_
  refine V_istore_n C (lv' := [(2, .int (0 : Int32)), (0, .ref (ad 11)), (1, .int a1)]) dX11_holdByRiders_5 rfl (by decide) rfl ?_
  refine V_lv (ks := [1, 2, 0]) rfl ?_
  exact w_X11_holdByRiders_b6 C hr hlk 4000 a1 (0 : Int32) σ1 hF

def F_X11_askOf_b42 (σ : Mem) (kL5 : Int32 → Int32 → Int32 → Option Int32) (x1 : Int32) (x2 : Int32) (x3 : Int32) (y0 : Int32) : Option Int32 :=
  if y0 = 0 then
    kL5 x1 x2 (x3 + 1)
  else
    if x2 = (-9 : Int32) then
      kL5 x1 x3 (x3 + 1)
    else
      Option.bind (F_X11_likesRider x1 x3 x2 σ) fun q2 =>
      if q2 = 0 then
        kL5 x1 x2 (x3 + 1)
      else
        kL5 x1 x3 (x3 + 1)
def F_X11_askOf_b5 (σ : Mem) : Nat → Int32 → Int32 → Int32 → Option Int32
  | 0, _, _, _ => none
  | n + 1, x1, x2, x3 =>
    if (σ.1 24) ≤ x3 then
      some x2
    else
      Option.bind (F_X11_isIn (σ.1 29) (((4 : Int32) * x3) + x1) σ) fun q1 =>
      if q1 = 0 then
        Option.bind (F_X11_isEnough x1 x3 σ) fun q3 =>
        if q3 = 0 then
          F_X11_askOf_b42 σ (F_X11_askOf_b5 σ n) x1 x2 x3 (0 : Int32)
        else
          F_X11_askOf_b42 σ (F_X11_askOf_b5 σ n) x1 x2 x3 (1 : Int32)
      else
        F_X11_askOf_b42 σ (F_X11_askOf_b5 σ n) x1 x2 x3 (0 : Int32)
def F_X11_askOf (a1 : Int32) (σ : Mem) : Option Int32 :=
  F_X11_askOf_b5 σ 4000 a1 (-9 : Int32) (0 : Int32)
set_option maxHeartbeats 4000000 in
set_option maxRecDepth 20000 in
theorem w_X11_askOf_b42 {p : Program} {l : Launch} {e : Env} {s : State} {m : MethodId} {args : Array Value} {below : List Frame} {meth : Method} {c : Code} {D : va_G} {T : Nat → ClassId} {ad zz : Nat → Nat} (C : Cx p s m c cX11_askOf 5 RX11 (fA ad) D T ad zz) (hr : meth.sig.returnType = (some .int)) (hlk : meth.locks = false) {σ : Mem} {r : Int32} (kL5 : Int32 → Int32 → Int32 → Option Int32) (hL5 : ∀ (x1 : Int32) (x2 : Int32) (x3 : Int32), kL5 x1 x2 x3 = some r → V p l e { frames := 3, cells := 0, slots := 0, locals := 71 } s m args below meth c 0 0 (MQ below (qC (some (.int r)) σ D T ad) args s 0 0 (fA ad)) 5 (fA ad) D T ad σ 5 [(0, .ref (ad 11)), (1, .int x1), (2, .int x2), (3, .int x3)] []) (x1 : Int32) (x2 : Int32) (x3 : Int32) (y0 : Int32) (hF : F_X11_askOf_b42 σ kL5 x1 x2 x3 y0 = some r) : V p l e { frames := 3, cells := 0, slots := 0, locals := 71 } s m args below meth c 0 0 (MQ below (qC (some (.int r)) σ D T ad) args s 0 0 (fA ad)) 5 (fA ad) D T ad σ 42 [(0, .ref (ad 11)), (1, .int x1), (2, .int x2), (3, .int x3)] [.int y0] := by
  rw [F_X11_askOf_b42] at hF
  refine V_istore C (lv' := [(4, .int y0), (0, .ref (ad 11)), (1, .int x1), (2, .int x2), (3, .int x3)]) dX11_askOf_42 (by decide) rfl ?_
  refine V_iload C 0 dX11_askOf_44 rfl ?_
  refine V_if_eq C 69 dX11_askOf_46 (by decide) hF (fun hF => ?_) (fun hF => ?_)
  · refine V_iload_n C 3 dX11_askOf_69 rfl ?_
    refine V_istore_n C (lv' := [(2, .int x2), (4, .int y0), (0, .ref (ad 11)), (1, .int x1), (3, .int x3)]) dX11_askOf_70 rfl (by decide) rfl ?_
    refine V_iinc C (v := (x3 + 1)) (lv' := [(3, .int (x3 + 1)), (2, .int x2), (4, .int y0), (0, .ref (ad 11)), (1, .int x1)]) 4 dX11_askOf_71 rfl rfl (by decide) rfl ?_
    refine V_goto C 5 dX11_askOf_74 (by decide) ?_
    refine V_lv (ks := [3, 4, 1, 0]) rfl ?_
    exact hL5 x1 x2 (x3 + 1) hF
  · refine V_iload_n C 3 dX11_askOf_49 rfl ?_
    refine V_bipush C dX11_askOf_50 (v := (-9 : Int32)) (by decide) ?_
    refine V_icmp_eq C 65 dX11_askOf_52 (by decide) hF (fun hF => ?_) (fun hF => ?_)
    · refine V_iload_n C 4 dX11_askOf_65 rfl ?_
      refine V_goto C 70 dX11_askOf_66 (by decide) ?_
      refine V_istore_n C (lv' := [(2, .int x3), (4, .int y0), (0, .ref (ad 11)), (1, .int x1), (3, .int x3)]) dX11_askOf_70 rfl (by decide) rfl ?_
      refine V_iinc C (v := (x3 + 1)) (lv' := [(3, .int (x3 + 1)), (2, .int x3), (4, .int y0), (0, .ref (ad 11)), (1, .int x1)]) 4 dX11_askOf_71 rfl rfl (by decide) rfl ?_
      refine V_goto C 5 dX11_askOf_74 (by decide) ?_
      refine V_lv (ks := [3, 4, 1, 0]) rfl ?_
      exact hL5 x1 x3 (x3 + 1) hF
    · refine V_aload_n C 1 dX11_askOf_55 rfl ?_
      refine V_iload_n C 2 dX11_askOf_56 rfl ?_
      refine V_iload_n C 4 dX11_askOf_57 rfl ?_
      refine V_iload_n C 3 dX11_askOf_58 rfl ?_
      obtain ⟨q2, hq2, hF⟩ := bnd hF
      refine cs_X11_117 C (ct_X11_likesRider hq2) rfl ⟨by decide, by decide⟩ (Nat.le_of_ble_eq_true rfl) dX11_askOf_59 ⟨Nat.le_refl 0, Nat.le_refl 0⟩ ?_
      refine V_if_eq C 69 dX11_askOf_62 (by decide) hF (fun hF => ?_) (fun hF => ?_)
      · refine V_iload_n C 3 dX11_askOf_69 rfl ?_
        refine V_istore_n C (lv' := [(2, .int x2), (4, .int y0), (0, .ref (ad 11)), (1, .int x1), (3, .int x3)]) dX11_askOf_70 rfl (by decide) rfl ?_
        refine V_iinc C (v := (x3 + 1)) (lv' := [(3, .int (x3 + 1)), (2, .int x2), (4, .int y0), (0, .ref (ad 11)), (1, .int x1)]) 4 dX11_askOf_71 rfl rfl (by decide) rfl ?_
        refine V_goto C 5 dX11_askOf_74 (by decide) ?_
        refine V_lv (ks := [3, 4, 1, 0]) rfl ?_
        exact hL5 x1 x2 (x3 + 1) hF
      · refine V_iload_n C 4 dX11_askOf_65 rfl ?_
        refine V_goto C 70 dX11_askOf_66 (by decide) ?_
        refine V_istore_n C (lv' := [(2, .int x3), (4, .int y0), (0, .ref (ad 11)), (1, .int x1), (3, .int x3)]) dX11_askOf_70 rfl (by decide) rfl ?_
        refine V_iinc C (v := (x3 + 1)) (lv' := [(3, .int (x3 + 1)), (2, .int x3), (4, .int y0), (0, .ref (ad 11)), (1, .int x1)]) 4 dX11_askOf_71 rfl rfl (by decide) rfl ?_
        refine V_goto C 5 dX11_askOf_74 (by decide) ?_
        refine V_lv (ks := [3, 4, 1, 0]) rfl ?_
        exact hL5 x1 x3 (x3 + 1) hF
set_option maxHeartbeats 4000000 in
set_option maxRecDepth 20000 in
theorem w_X11_askOf_b5 {p : Program} {l : Launch} {e : Env} {s : State} {m : MethodId} {args : Array Value} {below : List Frame} {meth : Method} {c : Code} {D : va_G} {T : Nat → ClassId} {ad zz : Nat → Nat} (C : Cx p s m c cX11_askOf 5 RX11 (fA ad) D T ad zz) (hr : meth.sig.returnType = (some .int)) (hlk : meth.locks = false) {σ : Mem} {r : Int32}  : ∀ (n : Nat), ∀ (x1 : Int32) (x2 : Int32) (x3 : Int32), F_X11_askOf_b5 σ n x1 x2 x3 = some r → V p l e { frames := 3, cells := 0, slots := 0, locals := 71 } s m args below meth c 0 0 (MQ below (qC (some (.int r)) σ D T ad) args s 0 0 (fA ad)) 5 (fA ad) D T ad σ 5 [(0, .ref (ad 11)), (1, .int x1), (2, .int x2), (3, .int x3)] [] := by
  intro n
  induction n with
  | zero =>
    intro x1 x2 x3 hF
    cases (show (none : Option Int32) = some r from hF)
  | succ n ih =>
    intro x1 x2 x3 hF
    rw [F_X11_askOf_b5] at hF
    refine V_iload_n C 3 dX11_askOf_5 rfl ?_
    refine V_aload_n C 0 dX11_askOf_6 rfl ?_
    refine gf_X11_67 C dX11_askOf_7 ?_
    refine V_icmp_ge C 77 dX11_askOf_10 (by decide) hF (fun hF => ?_) (fun hF => ?_)
    · refine V_iload_n C 2 dX11_askOf_77 rfl ?_
      cases hF
      exact V_iret C hr hlk rfl rfl dX11_askOf_78
    · refine V_aload_n C 0 dX11_askOf_13 rfl ?_
      refine gf_X11_167 C dX11_askOf_14 ?_
      refine V_iconst C dX11_askOf_17 (v := (4 : Int32)) (by decide) ?_
      refine V_iload_n C 3 dX11_askOf_18 rfl ?_
      refine V_imul C dX11_askOf_19 ?_
      refine V_iload_n C 1 dX11_askOf_20 rfl ?_
      refine V_iadd C dX11_askOf_21 ?_
      obtain ⟨q1, hq1, hF⟩ := bnd hF
      refine cs_X11_170 C (ct_X11_isIn hq1) rfl ⟨by decide, by decide⟩ (Nat.le_of_ble_eq_true rfl) dX11_askOf_22 ⟨Nat.le_refl 0, Nat.le_refl 0⟩ ?_
      refine V_if_ne C 41 dX11_askOf_25 (by decide) hF (fun hF => ?_) (fun hF => ?_)
      · refine V_iconst C dX11_askOf_41 (v := (0 : Int32)) (by decide) ?_
        exact w_X11_askOf_b42 C hr hlk (F_X11_askOf_b5 σ n) ih x1 x2 x3 (0 : Int32) hF
      · refine V_aload_n C 0 dX11_askOf_28 rfl ?_
        refine V_iload_n C 1 dX11_askOf_29 rfl ?_
        refine V_iload_n C 3 dX11_askOf_30 rfl ?_
        obtain ⟨q3, hq3, hF⟩ := bnd hF
        refine cs_X11_121 C (ct_X11_isEnough hq3) rfl ⟨by decide, by decide⟩ (Nat.le_of_ble_eq_true rfl) dX11_askOf_31 ⟨Nat.le_refl 0, Nat.le_refl 0⟩ ?_
        refine V_if_eq C 41 dX11_askOf_34 (by decide) hF (fun hF => ?_) (fun hF => ?_)
        · refine V_iconst C dX11_askOf_41 (v := (0 : Int32)) (by decide) ?_
          exact w_X11_askOf_b42 C hr hlk (F_X11_askOf_b5 σ n) ih x1 x2 x3 (0 : Int32) hF
        · refine V_iconst C dX11_askOf_37 (v := (1 : Int32)) (by decide) ?_
          refine V_goto C 42 dX11_askOf_38 (by decide) ?_
          exact w_X11_askOf_b42 C hr hlk (F_X11_askOf_b5 σ n) ih x1 x2 x3 (1 : Int32) hF
set_option maxHeartbeats 4000000 in
set_option maxRecDepth 20000 in
theorem ct_X11_askOf {a1 : Int32} {σ : Mem} {r : Int32} (hF : F_X11_askOf a1 σ = some r) : Ct yX11_askOf cX11_askOf 5 (some .int) 3 71 (fun ad zz => [.ref (ad 11), .int a1]) σ (fun ad => (some (.int r))) σ := by
  refine Ct_of (by decide +kernel) (lv := fun ad zz => [(0, .ref (ad 11)), (1, .int a1)]) (fun _ _ => rfl) (fun _ _ => Nat.le_of_ble_eq_true rfl) (fun p l e s m args below meth c D T ad zz C hr hlk => ?_)
  rw [F_X11_askOf] at hF
  refine V_bipush C dX11_askOf_0 (v := (-9 : Int32)) (by decide) ?_
  refine V_istore_n C (lv' := [(2, .int (-9 : Int32)), (0, .ref (ad 11)), (1, .int a1)]) dX11_askOf_2 rfl (by decide) rfl ?_
  refine V_iconst C dX11_askOf_3 (v := (0 : Int32)) (by decide) ?_
  refine V_istore_n C (lv' := [(3, .int (0 : Int32)), (2, .int (-9 : Int32)), (0, .ref (ad 11)), (1, .int a1)]) dX11_askOf_4 rfl (by decide) rfl ?_
  refine V_lv (ks := [2, 3, 1, 0]) rfl ?_
  exact w_X11_askOf_b5 C hr hlk 4000 a1 (-9 : Int32) (0 : Int32) hF

def F_X11_holdByHorses_b36 (kL6 : Int32 → Mem → Option Mem) (x1 : Int32) (y0 : Int32) (σ : Mem) : Option Mem :=
  if y0 = (-9 : Int32) then
    kL6 (x1 + 1) σ
  else
    Option.bind (stI σ 29 ((σ.1 29) ||| ((1 : Int32) <<< ((((4 : Int32) * y0) + x1) &&& 31)))) fun σ4 =>
    Option.bind (rdA σ4 63 y0) fun v5 =>
    Option.bind (F_X11_likesHorse y0 x1 v5 σ4) fun q6 =>
    if q6 = 0 then
      Option.bind (rdA σ4 63 y0) fun v7 =>
      Option.bind (wrA σ4 63 y0 v7) fun σ8 =>
      kL6 (0 : Int32) σ8
    else
      Option.bind (wrA σ4 63 y0 x1) fun σ9 =>
      kL6 (0 : Int32) σ9
def F_X11_holdByHorses_b6  : Nat → Int32 → Mem → Option Mem
  | 0, _, _ => none
  | n + 1, x1, σ =>
    if (σ.1 23) ≤ x1 then
      some σ
    else
      Option.bind (F_X11_isFull 63 x1 σ) fun q2 =>
      if q2 = 0 then
        Option.bind (F_X11_askOf x1 σ) fun q3 =>
        F_X11_holdByHorses_b36 (F_X11_holdByHorses_b6 n) x1 q3 σ
      else
        F_X11_holdByHorses_b36 (F_X11_holdByHorses_b6 n) x1 (-9 : Int32) σ
def F_X11_holdByHorses (σ : Mem) : Option Mem :=
  Option.bind (F_X11_begin σ) fun σ1 =>
  F_X11_holdByHorses_b6 4000 (0 : Int32) σ1
set_option maxHeartbeats 4000000 in
set_option maxRecDepth 20000 in
theorem w_X11_holdByHorses_b36 {p : Program} {l : Launch} {e : Env} {s : State} {m : MethodId} {args : Array Value} {below : List Frame} {meth : Method} {c : Code} {D : va_G} {T : Nat → ClassId} {ad zz : Nat → Nat} (C : Cx p s m c cX11_holdByHorses 3 RX11 (fA ad) D T ad zz) (hr : meth.sig.returnType = none) (hlk : meth.locks = false) {r : Mem} (kL6 : Int32 → Mem → Option Mem) (hL6 : ∀ (x1 : Int32) (σ : Mem), kL6 x1 σ = some r → V p l e { frames := 4, cells := 0, slots := 0, locals := 95 } s m args below meth c 0 0 (MQ below (qC none r D T ad) args s 0 0 (fA ad)) 3 (fA ad) D T ad σ 6 [(0, .ref (ad 11)), (1, .int x1)] []) (x1 : Int32) (y0 : Int32) (σ : Mem) (hF : F_X11_holdByHorses_b36 kL6 x1 y0 σ = some r) : V p l e { frames := 4, cells := 0, slots := 0, locals := 95 } s m args below meth c 0 0 (MQ below (qC none r D T ad) args s 0 0 (fA ad)) 3 (fA ad) D T ad σ 36 [(0, .ref (ad 11)), (1, .int x1)] [.int y0] := by
  rw [F_X11_holdByHorses_b36] at hF
  refine V_istore_n C (lv' := [(2, .int y0), (0, .ref (ad 11)), (1, .int x1)]) dX11_holdByHorses_36 rfl (by decide) rfl ?_
  refine V_iload_n C 0 dX11_holdByHorses_37 rfl ?_
  refine V_bipush C dX11_holdByHorses_38 (v := (-9 : Int32)) (by decide) ?_
  refine V_icmp_ne C 49 dX11_holdByHorses_40 (by decide) hF (fun hF => ?_) (fun hF => ?_)
  · refine V_aload_n C 1 dX11_holdByHorses_49 rfl ?_
    refine V_dup C dX11_holdByHorses_50 rfl ?_
    refine gf_X11_167 C dX11_holdByHorses_51 ?_
    refine V_iconst C dX11_holdByHorses_54 (v := (1 : Int32)) (by decide) ?_
    refine V_iconst C dX11_holdByHorses_55 (v := (4 : Int32)) (by decide) ?_
    refine V_iload_n C 0 dX11_holdByHorses_56 rfl ?_
    refine V_imul C dX11_holdByHorses_57 ?_
    refine V_iload_n C 2 dX11_holdByHorses_58 rfl ?_
    refine V_iadd C dX11_holdByHorses_59 ?_
    refine V_ishl C dX11_holdByHorses_60 ?_
    refine V_ior C dX11_holdByHorses_61 ?_
    obtain ⟨σ4, hs4, hF⟩ := bnd hF
    refine pf_X11_167 C hs4 dX11_holdByHorses_62 ?_
    refine V_aload_n C 1 dX11_holdByHorses_65 rfl ?_
    refine gf_X11_44 C dX11_holdByHorses_66 ?_
    refine V_iload_n C 0 dX11_holdByHorses_69 rfl ?_
    refine V_aload_n C 1 dX11_holdByHorses_70 rfl ?_
    refine V_iload_n C 0 dX11_holdByHorses_71 rfl ?_
    refine V_iload_n C 2 dX11_holdByHorses_72 rfl ?_
    refine V_aload_n C 1 dX11_holdByHorses_73 rfl ?_
    refine gf_X11_44 C dX11_holdByHorses_74 ?_
    refine V_iload_n C 0 dX11_holdByHorses_77 rfl ?_
    obtain ⟨v5, hv5, hF⟩ := bnd hF
    refine V_iald C (by decide) hv5 dX11_holdByHorses_78 ?_
    obtain ⟨q6, hq6, hF⟩ := bnd hF
    refine cs_X11_125 C (ct_X11_likesHorse hq6) rfl ⟨by decide, by decide⟩ (Nat.le_of_ble_eq_true rfl) dX11_holdByHorses_79 ⟨Nat.le_refl 0, Nat.le_refl 0⟩ ?_
    refine V_if_eq C 89 dX11_holdByHorses_82 (by decide) hF (fun hF => ?_) (fun hF => ?_)
    · refine V_aload_n C 1 dX11_holdByHorses_89 rfl ?_
      refine gf_X11_44 C dX11_holdByHorses_90 ?_
      refine V_iload_n C 0 dX11_holdByHorses_93 rfl ?_
      obtain ⟨v7, hv7, hF⟩ := bnd hF
      refine V_iald C (by decide) hv7 dX11_holdByHorses_94 ?_
      obtain ⟨σ8, hs8, hF⟩ := bnd hF
      refine V_iast C (by decide) hs8 dX11_holdByHorses_95 ?_
      refine V_iconst C dX11_holdByHorses_96 (v := (0 : Int32)) (by decide) ?_
      refine V_istore_n C (lv' := [(1, .int (0 : Int32)), (2, .int y0), (0, .ref (ad 11))]) dX11_holdByHorses_97 rfl (by decide) rfl ?_
      refine V_goto C 6 dX11_holdByHorses_98 (by decide) ?_
      refine V_lv (ks := [2, 0]) rfl ?_
      exact hL6 (0 : Int32) σ8 hF
    · refine V_iload_n C 2 dX11_holdByHorses_85 rfl ?_
      refine V_goto C 95 dX11_holdByHorses_86 (by decide) ?_
      obtain ⟨σ9, hs9, hF⟩ := bnd hF
      refine V_iast C (by decide) hs9 dX11_holdByHorses_95 ?_
      refine V_iconst C dX11_holdByHorses_96 (v := (0 : Int32)) (by decide) ?_
      refine V_istore_n C (lv' := [(1, .int (0 : Int32)), (2, .int y0), (0, .ref (ad 11))]) dX11_holdByHorses_97 rfl (by decide) rfl ?_
      refine V_goto C 6 dX11_holdByHorses_98 (by decide) ?_
      refine V_lv (ks := [2, 0]) rfl ?_
      exact hL6 (0 : Int32) σ9 hF
  · refine V_iinc C (v := (x1 + 1)) (lv' := [(1, .int (x1 + 1)), (2, .int y0), (0, .ref (ad 11))]) 2 dX11_holdByHorses_43 rfl rfl (by decide) rfl ?_
    refine V_goto C 98 dX11_holdByHorses_46 (by decide) ?_
    refine V_goto C 6 dX11_holdByHorses_98 (by decide) ?_
    refine V_lv (ks := [2, 0]) rfl ?_
    exact hL6 (x1 + 1) σ hF
set_option maxHeartbeats 4000000 in
set_option maxRecDepth 20000 in
theorem w_X11_holdByHorses_b6 {p : Program} {l : Launch} {e : Env} {s : State} {m : MethodId} {args : Array Value} {below : List Frame} {meth : Method} {c : Code} {D : va_G} {T : Nat → ClassId} {ad zz : Nat → Nat} (C : Cx p s m c cX11_holdByHorses 3 RX11 (fA ad) D T ad zz) (hr : meth.sig.returnType = none) (hlk : meth.locks = false) {r : Mem}  : ∀ (n : Nat), ∀ (x1 : Int32) (σ : Mem), F_X11_holdByHorses_b6  n x1 σ = some r → V p l e { frames := 4, cells := 0, slots := 0, locals := 95 } s m args below meth c 0 0 (MQ below (qC none r D T ad) args s 0 0 (fA ad)) 3 (fA ad) D T ad σ 6 [(0, .ref (ad 11)), (1, .int x1)] [] := by
  intro n
  induction n with
  | zero =>
    intro x1 σ hF
    cases (show (none : Option Mem) = some r from hF)
  | succ n ih =>
    intro x1 σ hF
    rw [F_X11_holdByHorses_b6] at hF
    refine V_iload_n C 1 dX11_holdByHorses_6 rfl ?_
    refine V_aload_n C 0 dX11_holdByHorses_7 rfl ?_
    refine gf_X11_60 C dX11_holdByHorses_8 ?_
    refine V_icmp_ge C 101 dX11_holdByHorses_11 (by decide) hF (fun hF => ?_) (fun hF => ?_)
    · cases hF
      exact V_vret C hr hlk rfl rfl dX11_holdByHorses_101
    · refine V_aload_n C 0 dX11_holdByHorses_14 rfl ?_
      refine V_aload_n C 0 dX11_holdByHorses_15 rfl ?_
      refine gf_X11_44 C dX11_holdByHorses_16 ?_
      refine V_iload_n C 1 dX11_holdByHorses_19 rfl ?_
      obtain ⟨q2, hq2, hF⟩ := bnd hF
      refine cs_X11_128 C (ct_X11_isFull (by decide) hq2) rfl ⟨by decide, by decide⟩ (Nat.le_of_ble_eq_true rfl) dX11_holdByHorses_20 ⟨Nat.le_refl 0, Nat.le_refl 0⟩ ?_
      refine V_if_eq C 31 dX11_holdByHorses_23 (by decide) hF (fun hF => ?_) (fun hF => ?_)
      · refine V_aload_n C 0 dX11_holdByHorses_31 rfl ?_
        refine V_iload_n C 1 dX11_holdByHorses_32 rfl ?_
        obtain ⟨q3, hq3, hF⟩ := bnd hF
        refine cs_X11_179 C (ct_X11_askOf hq3) rfl ⟨by decide, by decide⟩ (Nat.le_of_ble_eq_true rfl) dX11_holdByHorses_33 ⟨Nat.le_refl 0, Nat.le_refl 0⟩ ?_
        exact w_X11_holdByHorses_b36 C hr hlk (F_X11_holdByHorses_b6 n) ih x1 q3 σ hF
      · refine V_bipush C dX11_holdByHorses_26 (v := (-9 : Int32)) (by decide) ?_
        refine V_goto C 36 dX11_holdByHorses_28 (by decide) ?_
        exact w_X11_holdByHorses_b36 C hr hlk (F_X11_holdByHorses_b6 n) ih x1 (-9 : Int32) σ hF
set_option maxHeartbeats 4000000 in
set_option maxRecDepth 20000 in
theorem ct_X11_holdByHorses {σ : Mem} {r : Mem} (hF : F_X11_holdByHorses σ = some r) : Ct yX11_holdByHorses cX11_holdByHorses 3 none 4 95 (fun ad zz => [.ref (ad 11)]) σ (fun ad => none) r := by
  refine Ct_of (by decide +kernel) (lv := fun ad zz => [(0, .ref (ad 11))]) (fun _ _ => rfl) (fun _ _ => Nat.le_of_ble_eq_true rfl) (fun p l e s m args below meth c D T ad zz C hr hlk => ?_)
  rw [F_X11_holdByHorses] at hF
  refine V_aload_n C 0 dX11_holdByHorses_0 rfl ?_
  obtain ⟨σ1, hs1, hF⟩ := bnd hF
  refine cs_X11_173 C (ct_X11_begin hs1) rfl ⟨by decide, by decide⟩ (Nat.le_of_ble_eq_true rfl) dX11_holdByHorses_1 ⟨Nat.le_refl 0, Nat.le_refl 0⟩ ?_
  refine V_iconst C dX11_holdByHorses_4 (v := (0 : Int32)) (by decide) ?_
  refine V_istore_n C (lv' := [(1, .int (0 : Int32)), (0, .ref (ad 11))]) dX11_holdByHorses_5 rfl (by decide) rfl ?_
  refine V_lv (ks := [1, 0]) rfl ?_
  exact w_X11_holdByHorses_b6 C hr hlk 4000 (0 : Int32) σ1 hF

def F_X11_all (σ : Mem) : Option Int32 :=
  some (((1 : Int32) <<< ((σ.1 24) &&& 31)) - (1 : Int32))
set_option maxHeartbeats 4000000 in
set_option maxRecDepth 20000 in
theorem ct_X11_all {σ : Mem} {r : Int32} (hF : F_X11_all σ = some r) : Ct yX11_all cX11_all 1 (some .int) 0 0 (fun ad zz => [.ref (ad 11)]) σ (fun ad => (some (.int r))) σ := by
  refine Ct_of (by decide +kernel) (lv := fun ad zz => [(0, .ref (ad 11))]) (fun _ _ => rfl) (fun _ _ => Nat.le_of_ble_eq_true rfl) (fun p l e s m args below meth c D T ad zz C hr hlk => ?_)
  rw [F_X11_all] at hF
  refine V_iconst C dX11_all_0 (v := (1 : Int32)) (by decide) ?_
  refine V_aload_n C 0 dX11_all_1 rfl ?_
  refine gf_X11_67 C dX11_all_2 ?_
  refine V_ishl C dX11_all_5 ?_
  refine V_iconst C dX11_all_6 (v := (1 : Int32)) (by decide) ?_
  refine V_isub C dX11_all_7 ?_
  cases hF
  exact V_iret C hr hlk rfl rfl dX11_all_8

def F_X11_held (a1 : Int32) (a2 : Int32) (σ : Mem) : Option (Int32 × Mem) :=
  Option.bind (stI σ 20 (0 : Int32)) fun σ1 =>
  Option.bind (F_X11_noRider a1 σ1) fun q2 =>
  if q2 = 0 then
    if a2 = 0 then
      Option.bind (F_X11_all σ1) fun q3 =>
      Option.bind (F_X11_holdByRiders q3 σ1) fun σ4 =>
      Option.bind (rdA σ4 63 a1) fun v5 =>
      some (v5, σ4)
    else
      Option.bind (F_X11_holdByHorses σ1) fun σ6 =>
      Option.bind (rdA σ6 63 a1) fun v7 =>
      some (v7, σ6)
  else
    some ((-1 : Int32), σ1)
set_option maxHeartbeats 4000000 in
set_option maxRecDepth 20000 in
theorem ct_X11_held {a1 : Int32} {a2 : Int32} {σ : Mem} {r : (Int32 × Mem)} (hF : F_X11_held a1 a2 σ = some r) : Ct yX11_held cX11_held 3 (some .int) 6 142 (fun ad zz => [.ref (ad 11), .int a1, .int a2]) σ (fun ad => (some (.int r.1))) r.2 := by
  refine Ct_of (by decide +kernel) (lv := fun ad zz => [(0, .ref (ad 11)), (1, .int a1), (2, .int a2)]) (fun _ _ => rfl) (fun _ _ => Nat.le_of_ble_eq_true rfl) (fun p l e s m args below meth c D T ad zz C hr hlk => ?_)
  rw [F_X11_held] at hF
  refine V_aload_n C 0 dX11_held_0 rfl ?_
  refine V_iconst C dX11_held_1 (v := (0 : Int32)) (by decide) ?_
  obtain ⟨σ1, hs1, hF⟩ := bnd hF
  refine pf_X11_56 C hs1 dX11_held_2 ?_
  refine V_aload_n C 0 dX11_held_5 rfl ?_
  refine V_iload_n C 1 dX11_held_6 rfl ?_
  obtain ⟨q2, hq2, hF⟩ := bnd hF
  refine cs_X11_153 C (ct_X11_noRider hq2) rfl ⟨by decide, by decide⟩ (Nat.le_of_ble_eq_true rfl) dX11_held_7 ⟨Nat.le_refl 0, Nat.le_refl 0⟩ ?_
  refine V_if_eq C 15 dX11_held_10 (by decide) hF (fun hF => ?_) (fun hF => ?_)
  · refine V_iload_n C 2 dX11_held_15 rfl ?_
    refine V_if_eq C 26 dX11_held_16 (by decide) hF (fun hF => ?_) (fun hF => ?_)
    · refine V_aload_n C 0 dX11_held_26 rfl ?_
      refine V_aload_n C 0 dX11_held_27 rfl ?_
      obtain ⟨q3, hq3, hF⟩ := bnd hF
      refine cs_X11_185 C (ct_X11_all hq3) rfl ⟨by decide, by decide⟩ (Nat.le_of_ble_eq_true rfl) dX11_held_28 ⟨Nat.le_refl 0, Nat.le_refl 0⟩ ?_
      obtain ⟨σ4, hs4, hF⟩ := bnd hF
      refine cs_X11_188 C (ct_X11_holdByRiders hs4) rfl ⟨by decide, by decide⟩ (Nat.le_of_ble_eq_true rfl) dX11_held_31 ⟨Nat.le_refl 0, Nat.le_refl 0⟩ ?_
      refine V_aload_n C 0 dX11_held_34 rfl ?_
      refine gf_X11_44 C dX11_held_35 ?_
      refine V_iload_n C 1 dX11_held_38 rfl ?_
      obtain ⟨v5, hv5, hF⟩ := bnd hF
      refine V_iald C (by decide) hv5 dX11_held_39 ?_
      cases hF
      exact V_iret C hr hlk rfl rfl dX11_held_40
    · refine V_aload_n C 0 dX11_held_19 rfl ?_
      obtain ⟨σ6, hs6, hF⟩ := bnd hF
      refine cs_X11_182 C (ct_X11_holdByHorses hs6) rfl ⟨by decide, by decide⟩ (Nat.le_of_ble_eq_true rfl) dX11_held_20 ⟨Nat.le_refl 0, Nat.le_refl 0⟩ ?_
      refine V_goto C 34 dX11_held_23 (by decide) ?_
      refine V_aload_n C 0 dX11_held_34 rfl ?_
      refine gf_X11_44 C dX11_held_35 ?_
      refine V_iload_n C 1 dX11_held_38 rfl ?_
      obtain ⟨v7, hv7, hF⟩ := bnd hF
      refine V_iald C (by decide) hv7 dX11_held_39 ?_
      cases hF
      exact V_iret C hr hlk rfl rfl dX11_held_40
  · refine V_iconst C dX11_held_13 (v := (-1 : Int32)) (by decide) ?_
    cases hF
    exact V_iret C hr hlk rfl rfl dX11_held_14

def F_X11_nextWay_b7  : Nat → Int32 → Mem → Option (Int32 × Mem)
  | 0, _, _ => none
  | n + 1, x1, σ =>
    if x1 < 0 then
      some ((0 : Int32), σ)
    else
      Option.bind (rdA σ 64 x1) fun v1 =>
      if v1 = (-9 : Int32) then
        if (σ.1 23) = 0 then
          Option.bind (wrA σ 64 x1 (-9 : Int32)) fun σ3 =>
          (F_X11_nextWay_b7 n) (x1 + (-1)) σ3
        else
          Option.bind (wrA σ 64 x1 (0 : Int32)) fun σ2 =>
          (F_X11_nextWay_b7 n) (x1 + (-1)) σ2
      else
        Option.bind (rdA σ 64 x1) fun v4 =>
        if v4 = ((σ.1 23) - (1 : Int32)) then
          Option.bind (wrA σ 64 x1 (-9 : Int32)) fun σ7 =>
          some ((1 : Int32), σ7)
        else
          Option.bind (rdA σ 64 x1) fun v5 =>
          Option.bind (wrA σ 64 x1 (v5 + (1 : Int32))) fun σ6 =>
          some ((1 : Int32), σ6)
def F_X11_nextWay (σ : Mem) : Option (Int32 × Mem) :=
  F_X11_nextWay_b7 4000 ((σ.1 24) - (1 : Int32)) σ
set_option maxHeartbeats 4000000 in
set_option maxRecDepth 20000 in
theorem w_X11_nextWay_b7 {p : Program} {l : Launch} {e : Env} {s : State} {m : MethodId} {args : Array Value} {below : List Frame} {meth : Method} {c : Code} {D : va_G} {T : Nat → ClassId} {ad zz : Nat → Nat} (C : Cx p s m c cX11_nextWay 2 RX11 (fA ad) D T ad zz) (hr : meth.sig.returnType = (some .boolean)) (hlk : meth.locks = false) {r : (Int32 × Mem)}  : ∀ (n : Nat), ∀ (x1 : Int32) (σ : Mem), F_X11_nextWay_b7  n x1 σ = some r → V p l e { frames := 0, cells := 0, slots := 0, locals := 0 } s m args below meth c 0 0 (MQ below (qC (some (.int r.1)) r.2 D T ad) args s 0 0 (fA ad)) 2 (fA ad) D T ad σ 7 [(0, .ref (ad 11)), (1, .int x1)] [] := by
  intro n
  induction n with
  | zero =>
    intro x1 σ hF
    cases (show (none : Option (Int32 × Mem)) = some r from hF)
  | succ n ih =>
    intro x1 σ hF
    rw [F_X11_nextWay_b7] at hF
    refine V_iload_n C 1 dX11_nextWay_7 rfl ?_
    refine V_if_lt C 83 dX11_nextWay_8 (by decide) hF (fun hF => ?_) (fun hF => ?_)
    · refine V_iconst C dX11_nextWay_83 (v := (0 : Int32)) (by decide) ?_
      cases hF
      exact V_zret C hr hlk (Or.inl rfl) rfl rfl dX11_nextWay_84
    · refine V_aload_n C 0 dX11_nextWay_11 rfl ?_
      refine gf_X11_47 C dX11_nextWay_12 ?_
      refine V_iload_n C 1 dX11_nextWay_15 rfl ?_
      obtain ⟨v1, hv1, hF⟩ := bnd hF
      refine V_iald C (by decide) hv1 dX11_nextWay_16 ?_
      refine V_bipush C dX11_nextWay_17 (v := (-9 : Int32)) (by decide) ?_
      refine V_icmp_eq C 58 dX11_nextWay_19 (by decide) hF (fun hF => ?_) (fun hF => ?_)
      · refine V_aload_n C 0 dX11_nextWay_58 rfl ?_
        refine gf_X11_47 C dX11_nextWay_59 ?_
        refine V_iload_n C 1 dX11_nextWay_62 rfl ?_
        refine V_aload_n C 0 dX11_nextWay_63 rfl ?_
        refine gf_X11_60 C dX11_nextWay_64 ?_
        refine V_if_ne C 75 dX11_nextWay_67 (by decide) hF (fun hF => ?_) (fun hF => ?_)
        · refine V_iconst C dX11_nextWay_75 (v := (0 : Int32)) (by decide) ?_
          obtain ⟨σ2, hs2, hF⟩ := bnd hF
          refine V_iast C (by decide) hs2 dX11_nextWay_76 ?_
          refine V_iinc C (v := (x1 + (-1))) (lv' := [(1, .int (x1 + (-1))), (0, .ref (ad 11))]) 1 dX11_nextWay_77 rfl rfl (by decide) rfl ?_
          refine V_goto C 7 dX11_nextWay_80 (by decide) ?_
          refine V_lv (ks := [1, 0]) rfl ?_
          exact ih (x1 + (-1)) σ2 hF
        · refine V_bipush C dX11_nextWay_70 (v := (-9 : Int32)) (by decide) ?_
          refine V_goto C 76 dX11_nextWay_72 (by decide) ?_
          obtain ⟨σ3, hs3, hF⟩ := bnd hF
          refine V_iast C (by decide) hs3 dX11_nextWay_76 ?_
          refine V_iinc C (v := (x1 + (-1))) (lv' := [(1, .int (x1 + (-1))), (0, .ref (ad 11))]) 1 dX11_nextWay_77 rfl rfl (by decide) rfl ?_
          refine V_goto C 7 dX11_nextWay_80 (by decide) ?_
          refine V_lv (ks := [1, 0]) rfl ?_
          exact ih (x1 + (-1)) σ3 hF
      · refine V_aload_n C 0 dX11_nextWay_22 rfl ?_
        refine gf_X11_47 C dX11_nextWay_23 ?_
        refine V_iload_n C 1 dX11_nextWay_26 rfl ?_
        refine V_aload_n C 0 dX11_nextWay_27 rfl ?_
        refine gf_X11_47 C dX11_nextWay_28 ?_
        refine V_iload_n C 1 dX11_nextWay_31 rfl ?_
        obtain ⟨v4, hv4, hF⟩ := bnd hF
        refine V_iald C (by decide) hv4 dX11_nextWay_32 ?_
        refine V_aload_n C 0 dX11_nextWay_33 rfl ?_
        refine gf_X11_60 C dX11_nextWay_34 ?_
        refine V_iconst C dX11_nextWay_37 (v := (1 : Int32)) (by decide) ?_
        refine V_isub C dX11_nextWay_38 ?_
        refine V_icmp_ne C 47 dX11_nextWay_39 (by decide) hF (fun hF => ?_) (fun hF => ?_)
        · refine V_aload_n C 0 dX11_nextWay_47 rfl ?_
          refine gf_X11_47 C dX11_nextWay_48 ?_
          refine V_iload_n C 1 dX11_nextWay_51 rfl ?_
          obtain ⟨v5, hv5, hF⟩ := bnd hF
          refine V_iald C (by decide) hv5 dX11_nextWay_52 ?_
          refine V_iconst C dX11_nextWay_53 (v := (1 : Int32)) (by decide) ?_
          refine V_iadd C dX11_nextWay_54 ?_
          obtain ⟨σ6, hs6, hF⟩ := bnd hF
          refine V_iast C (by decide) hs6 dX11_nextWay_55 ?_
          refine V_iconst C dX11_nextWay_56 (v := (1 : Int32)) (by decide) ?_
          cases hF
          exact V_zret C hr hlk (Or.inr rfl) rfl rfl dX11_nextWay_57
        · refine V_bipush C dX11_nextWay_42 (v := (-9 : Int32)) (by decide) ?_
          refine V_goto C 55 dX11_nextWay_44 (by decide) ?_
          obtain ⟨σ7, hs7, hF⟩ := bnd hF
          refine V_iast C (by decide) hs7 dX11_nextWay_55 ?_
          refine V_iconst C dX11_nextWay_56 (v := (1 : Int32)) (by decide) ?_
          cases hF
          exact V_zret C hr hlk (Or.inr rfl) rfl rfl dX11_nextWay_57
set_option maxHeartbeats 4000000 in
set_option maxRecDepth 20000 in
theorem ct_X11_nextWay {σ : Mem} {r : (Int32 × Mem)} (hF : F_X11_nextWay σ = some r) : Ct yX11_nextWay cX11_nextWay 2 (some .boolean) 0 0 (fun ad zz => [.ref (ad 11)]) σ (fun ad => (some (.int r.1))) r.2 := by
  refine Ct_of (by decide +kernel) (lv := fun ad zz => [(0, .ref (ad 11))]) (fun _ _ => rfl) (fun _ _ => Nat.le_of_ble_eq_true rfl) (fun p l e s m args below meth c D T ad zz C hr hlk => ?_)
  rw [F_X11_nextWay] at hF
  refine V_aload_n C 0 dX11_nextWay_0 rfl ?_
  refine gf_X11_67 C dX11_nextWay_1 ?_
  refine V_iconst C dX11_nextWay_4 (v := (1 : Int32)) (by decide) ?_
  refine V_isub C dX11_nextWay_5 ?_
  refine V_istore_n C (lv' := [(1, .int ((σ.1 24) - (1 : Int32))), (0, .ref (ad 11))]) dX11_nextWay_6 rfl (by decide) rfl ?_
  refine V_lv (ks := [1, 0]) rfl ?_
  exact w_X11_nextWay_b7 C hr hlk 4000 ((σ.1 24) - (1 : Int32)) σ hF

def F_X11_firstWay_b2  : Nat → Int32 → Mem → Option Mem
  | 0, _, _ => none
  | n + 1, x1, σ =>
    if (5 : Int32) ≤ x1 then
      some σ
    else
      if (σ.1 23) = 0 then
        Option.bind (wrA σ 64 x1 (-9 : Int32)) fun σ2 =>
        (F_X11_firstWay_b2 n) (x1 + 1) σ2
      else
        Option.bind (wrA σ 64 x1 (0 : Int32)) fun σ1 =>
        (F_X11_firstWay_b2 n) (x1 + 1) σ1
def F_X11_firstWay (σ : Mem) : Option Mem :=
  F_X11_firstWay_b2 4000 (0 : Int32) σ
set_option maxHeartbeats 4000000 in
set_option maxRecDepth 20000 in
theorem w_X11_firstWay_b2 {p : Program} {l : Launch} {e : Env} {s : State} {m : MethodId} {args : Array Value} {below : List Frame} {meth : Method} {c : Code} {D : va_G} {T : Nat → ClassId} {ad zz : Nat → Nat} (C : Cx p s m c cX11_firstWay 2 RX11 (fA ad) D T ad zz) (hr : meth.sig.returnType = none) (hlk : meth.locks = false) {r : Mem}  : ∀ (n : Nat), ∀ (x1 : Int32) (σ : Mem), F_X11_firstWay_b2  n x1 σ = some r → V p l e { frames := 0, cells := 0, slots := 0, locals := 0 } s m args below meth c 0 0 (MQ below (qC none r D T ad) args s 0 0 (fA ad)) 2 (fA ad) D T ad σ 2 [(0, .ref (ad 11)), (1, .int x1)] [] := by
  intro n
  induction n with
  | zero =>
    intro x1 σ hF
    cases (show (none : Option Mem) = some r from hF)
  | succ n ih =>
    intro x1 σ hF
    rw [F_X11_firstWay_b2] at hF
    refine V_iload_n C 1 dX11_firstWay_2 rfl ?_
    refine V_iconst C dX11_firstWay_3 (v := (5 : Int32)) (by decide) ?_
    refine V_icmp_ge C 32 dX11_firstWay_4 (by decide) hF (fun hF => ?_) (fun hF => ?_)
    · cases hF
      exact V_vret C hr hlk rfl rfl dX11_firstWay_32
    · refine V_aload_n C 0 dX11_firstWay_7 rfl ?_
      refine gf_X11_47 C dX11_firstWay_8 ?_
      refine V_iload_n C 1 dX11_firstWay_11 rfl ?_
      refine V_aload_n C 0 dX11_firstWay_12 rfl ?_
      refine gf_X11_60 C dX11_firstWay_13 ?_
      refine V_if_ne C 24 dX11_firstWay_16 (by decide) hF (fun hF => ?_) (fun hF => ?_)
      · refine V_iconst C dX11_firstWay_24 (v := (0 : Int32)) (by decide) ?_
        obtain ⟨σ1, hs1, hF⟩ := bnd hF
        refine V_iast C (by decide) hs1 dX11_firstWay_25 ?_
        refine V_iinc C (v := (x1 + 1)) (lv' := [(1, .int (x1 + 1)), (0, .ref (ad 11))]) 1 dX11_firstWay_26 rfl rfl (by decide) rfl ?_
        refine V_goto C 2 dX11_firstWay_29 (by decide) ?_
        refine V_lv (ks := [1, 0]) rfl ?_
        exact ih (x1 + 1) σ1 hF
      · refine V_bipush C dX11_firstWay_19 (v := (-9 : Int32)) (by decide) ?_
        refine V_goto C 25 dX11_firstWay_21 (by decide) ?_
        obtain ⟨σ2, hs2, hF⟩ := bnd hF
        refine V_iast C (by decide) hs2 dX11_firstWay_25 ?_
        refine V_iinc C (v := (x1 + 1)) (lv' := [(1, .int (x1 + 1)), (0, .ref (ad 11))]) 1 dX11_firstWay_26 rfl rfl (by decide) rfl ?_
        refine V_goto C 2 dX11_firstWay_29 (by decide) ?_
        refine V_lv (ks := [1, 0]) rfl ?_
        exact ih (x1 + 1) σ2 hF
set_option maxHeartbeats 4000000 in
set_option maxRecDepth 20000 in
theorem ct_X11_firstWay {σ : Mem} {r : Mem} (hF : F_X11_firstWay σ = some r) : Ct yX11_firstWay cX11_firstWay 2 none 0 0 (fun ad zz => [.ref (ad 11)]) σ (fun ad => none) r := by
  refine Ct_of (by decide +kernel) (lv := fun ad zz => [(0, .ref (ad 11))]) (fun _ _ => rfl) (fun _ _ => Nat.le_of_ble_eq_true rfl) (fun p l e s m args below meth c D T ad zz C hr hlk => ?_)
  rw [F_X11_firstWay] at hF
  refine V_iconst C dX11_firstWay_0 (v := (0 : Int32)) (by decide) ?_
  refine V_istore_n C (lv' := [(1, .int (0 : Int32)), (0, .ref (ad 11))]) dX11_firstWay_1 rfl (by decide) rfl ?_
  refine V_lv (ks := [1, 0]) rfl ?_
  exact w_X11_firstWay_b2 C hr hlk 4000 (0 : Int32) σ hF

def F_X11_isWay_b4 (σ : Mem) : Nat → Int32 → Int32 → Option Int32
  | 0, _, _ => none
  | n + 1, x1, x2 =>
    if (σ.1 23) ≤ x2 then
      Option.bind (bz x1) fun b1 =>
      some b1
    else
      if x1 = 0 then
        Option.bind (bz x1) fun b2 =>
        some b2
      else
        Option.bind (F_X11_keeps 64 x2 σ) fun q3 =>
        Option.bind (F_X11_many q3 σ) fun q4 =>
        Option.bind (rdA σ 54 ((7 : Int32) * x2)) fun v5 =>
        if v5 < q4 then
          (F_X11_isWay_b4 σ n) (0 : Int32) (x2 + 1)
        else
          (F_X11_isWay_b4 σ n) (1 : Int32) (x2 + 1)
def F_X11_isWay (σ : Mem) : Option Int32 :=
  F_X11_isWay_b4 σ 4000 (1 : Int32) (0 : Int32)
set_option maxHeartbeats 4000000 in
set_option maxRecDepth 20000 in
theorem w_X11_isWay_b4 {p : Program} {l : Launch} {e : Env} {s : State} {m : MethodId} {args : Array Value} {below : List Frame} {meth : Method} {c : Code} {D : va_G} {T : Nat → ClassId} {ad zz : Nat → Nat} (C : Cx p s m c cX11_isWay 3 RX11 (fA ad) D T ad zz) (hr : meth.sig.returnType = (some .boolean)) (hlk : meth.locks = false) {σ : Mem} {r : Int32}  : ∀ (n : Nat), ∀ (x1 : Int32) (x2 : Int32), F_X11_isWay_b4 σ n x1 x2 = some r → V p l e { frames := 1, cells := 0, slots := 0, locals := 24 } s m args below meth c 0 0 (MQ below (qC (some (.int r)) σ D T ad) args s 0 0 (fA ad)) 3 (fA ad) D T ad σ 4 [(0, .ref (ad 11)), (1, .int x1), (2, .int x2)] [] := by
  intro n
  induction n with
  | zero =>
    intro x1 x2 hF
    cases (show (none : Option Int32) = some r from hF)
  | succ n ih =>
    intro x1 x2 hF
    rw [F_X11_isWay_b4] at hF
    refine V_iload_n C 2 dX11_isWay_4 rfl ?_
    refine V_aload_n C 0 dX11_isWay_5 rfl ?_
    refine gf_X11_60 C dX11_isWay_6 ?_
    refine V_icmp_ge C 52 dX11_isWay_9 (by decide) hF (fun hF => ?_) (fun hF => ?_)
    · refine V_iload_n C 1 dX11_isWay_52 rfl ?_
      obtain ⟨b1, hb1, hF⟩ := bnd hF
      obtain ⟨hb9, e9⟩ := bz_s hb1
      subst e9
      cases hF
      exact V_zret C hr hlk hb9 rfl rfl dX11_isWay_53
    · refine V_iload_n C 1 dX11_isWay_12 rfl ?_
      refine V_if_eq C 52 dX11_isWay_13 (by decide) hF (fun hF => ?_) (fun hF => ?_)
      · refine V_iload_n C 1 dX11_isWay_52 rfl ?_
        obtain ⟨b2, hb2, hF⟩ := bnd hF
        obtain ⟨hb9, e9⟩ := bz_s hb2
        subst e9
        cases hF
        exact V_zret C hr hlk hb9 rfl rfl dX11_isWay_53
      · refine V_aload_n C 0 dX11_isWay_16 rfl ?_
        refine V_aload_n C 0 dX11_isWay_17 rfl ?_
        refine gf_X11_47 C dX11_isWay_18 ?_
        refine V_iload_n C 2 dX11_isWay_21 rfl ?_
        obtain ⟨q3, hq3, hF⟩ := bnd hF
        refine cs_X11_109 C (ct_X11_keeps (by decide) hq3) rfl ⟨by decide, by decide⟩ (Nat.le_of_ble_eq_true rfl) dX11_isWay_22 ⟨Nat.le_refl 0, Nat.le_refl 0⟩ ?_
        obtain ⟨q4, hq4, hF⟩ := bnd hF
        refine cs_X11_113 C (ct_X11_many hq4) rfl ⟨by decide, by decide⟩ (Nat.le_of_ble_eq_true rfl) dX11_isWay_25 ⟨Nat.le_refl 0, Nat.le_refl 0⟩ ?_
        refine V_aload_n C 0 dX11_isWay_28 rfl ?_
        refine gf_X11_13 C dX11_isWay_29 ?_
        refine V_bipush C dX11_isWay_32 (v := (7 : Int32)) (by decide) ?_
        refine V_iload_n C 2 dX11_isWay_34 rfl ?_
        refine V_imul C dX11_isWay_35 ?_
        obtain ⟨v5, hv5, hF⟩ := bnd hF
        refine V_iald C (by decide) hv5 dX11_isWay_36 ?_
        refine V_icmp_gt C 44 dX11_isWay_37 (by decide) hF (fun hF => ?_) (fun hF => ?_)
        · refine V_iconst C dX11_isWay_44 (v := (0 : Int32)) (by decide) ?_
          refine V_istore_n C (lv' := [(1, .int (0 : Int32)), (0, .ref (ad 11)), (2, .int x2)]) dX11_isWay_45 rfl (by decide) rfl ?_
          refine V_iinc C (v := (x2 + 1)) (lv' := [(2, .int (x2 + 1)), (1, .int (0 : Int32)), (0, .ref (ad 11))]) 2 dX11_isWay_46 rfl rfl (by decide) rfl ?_
          refine V_goto C 4 dX11_isWay_49 (by decide) ?_
          refine V_lv (ks := [2, 1, 0]) rfl ?_
          exact ih (0 : Int32) (x2 + 1) hF
        · refine V_iconst C dX11_isWay_40 (v := (1 : Int32)) (by decide) ?_
          refine V_goto C 45 dX11_isWay_41 (by decide) ?_
          refine V_istore_n C (lv' := [(1, .int (1 : Int32)), (0, .ref (ad 11)), (2, .int x2)]) dX11_isWay_45 rfl (by decide) rfl ?_
          refine V_iinc C (v := (x2 + 1)) (lv' := [(2, .int (x2 + 1)), (1, .int (1 : Int32)), (0, .ref (ad 11))]) 2 dX11_isWay_46 rfl rfl (by decide) rfl ?_
          refine V_goto C 4 dX11_isWay_49 (by decide) ?_
          refine V_lv (ks := [2, 1, 0]) rfl ?_
          exact ih (1 : Int32) (x2 + 1) hF
set_option maxHeartbeats 4000000 in
set_option maxRecDepth 20000 in
theorem ct_X11_isWay {σ : Mem} {r : Int32} (hF : F_X11_isWay σ = some r) : Ct yX11_isWay cX11_isWay 3 (some .boolean) 1 24 (fun ad zz => [.ref (ad 11)]) σ (fun ad => (some (.int r))) σ := by
  refine Ct_of (by decide +kernel) (lv := fun ad zz => [(0, .ref (ad 11))]) (fun _ _ => rfl) (fun _ _ => Nat.le_of_ble_eq_true rfl) (fun p l e s m args below meth c D T ad zz C hr hlk => ?_)
  rw [F_X11_isWay] at hF
  refine V_iconst C dX11_isWay_0 (v := (1 : Int32)) (by decide) ?_
  refine V_istore_n C (lv' := [(1, .int (1 : Int32)), (0, .ref (ad 11))]) dX11_isWay_1 rfl (by decide) rfl ?_
  refine V_iconst C dX11_isWay_2 (v := (0 : Int32)) (by decide) ?_
  refine V_istore_n C (lv' := [(2, .int (0 : Int32)), (1, .int (1 : Int32)), (0, .ref (ad 11))]) dX11_isWay_3 rfl (by decide) rfl ?_
  refine V_lv (ks := [2, 1, 0]) rfl ?_
  exact w_X11_isWay_b4 C hr hlk 4000 (1 : Int32) (0 : Int32) hF

def F_X11_isHeld_b7 (σ : Mem) : Nat → Int32 → Int32 → Option Int32
  | 0, _, _ => none
  | n + 1, x1, x2 =>
    if (σ.1 24) ≤ x2 then
      if x1 = 0 then
        some (0 : Int32)
      else
        Option.bind (F_X11_boltsOf 64 σ) fun q2 =>
        if q2 = 0 then
          some (1 : Int32)
        else
          some (0 : Int32)
    else
      if x1 = 0 then
        if x1 = 0 then
          some (0 : Int32)
        else
          Option.bind (F_X11_boltsOf 64 σ) fun q3 =>
          if q3 = 0 then
            some (1 : Int32)
          else
            some (0 : Int32)
      else
        Option.bind (rdA σ 64 x2) fun v4 =>
        if v4 = (-9 : Int32) then
          (F_X11_isHeld_b7 σ n) (1 : Int32) (x2 + 1)
        else
          Option.bind (rdA σ 64 x2) fun v5 =>
          Option.bind (F_X11_isEnough v5 x2 σ) fun q6 =>
          if q6 = 0 then
            (F_X11_isHeld_b7 σ n) (0 : Int32) (x2 + 1)
          else
            (F_X11_isHeld_b7 σ n) (1 : Int32) (x2 + 1)
def F_X11_isHeld (σ : Mem) : Option Int32 :=
  Option.bind (F_X11_isWay σ) fun q1 =>
  F_X11_isHeld_b7 σ 4000 q1 (0 : Int32)
set_option maxHeartbeats 4000000 in
set_option maxRecDepth 20000 in
theorem w_X11_isHeld_b7 {p : Program} {l : Launch} {e : Env} {s : State} {m : MethodId} {args : Array Value} {below : List Frame} {meth : Method} {c : Code} {D : va_G} {T : Nat → ClassId} {ad zz : Nat → Nat} (C : Cx p s m c cX11_isHeld 3 RX11 (fA ad) D T ad zz) (hr : meth.sig.returnType = (some .boolean)) (hlk : meth.locks = false) {σ : Mem} {r : Int32}  : ∀ (n : Nat), ∀ (x1 : Int32) (x2 : Int32), F_X11_isHeld_b7 σ n x1 x2 = some r → V p l e { frames := 6, cells := 0, slots := 0, locals := 142 } s m args below meth c 0 0 (MQ below (qC (some (.int r)) σ D T ad) args s 0 0 (fA ad)) 3 (fA ad) D T ad σ 7 [(0, .ref (ad 11)), (1, .int x1), (2, .int x2)] [] := by
  intro n
  induction n with
  | zero =>
    intro x1 x2 hF
    cases (show (none : Option Int32) = some r from hF)
  | succ n ih =>
    intro x1 x2 hF
    rw [F_X11_isHeld_b7] at hF
    refine V_iload_n C 2 dX11_isHeld_7 rfl ?_
    refine V_aload_n C 0 dX11_isHeld_8 rfl ?_
    refine gf_X11_67 C dX11_isHeld_9 ?_
    refine V_icmp_ge C 56 dX11_isHeld_12 (by decide) hF (fun hF => ?_) (fun hF => ?_)
    · refine V_iload_n C 1 dX11_isHeld_56 rfl ?_
      refine V_if_eq C 75 dX11_isHeld_57 (by decide) hF (fun hF => ?_) (fun hF => ?_)
      · refine V_iconst C dX11_isHeld_75 (v := (0 : Int32)) (by decide) ?_
        cases hF
        exact V_zret C hr hlk (Or.inl rfl) rfl rfl dX11_isHeld_76
      · refine V_aload_n C 0 dX11_isHeld_60 rfl ?_
        refine V_aload_n C 0 dX11_isHeld_61 rfl ?_
        refine gf_X11_47 C dX11_isHeld_62 ?_
        obtain ⟨q2, hq2, hF⟩ := bnd hF
        refine cs_X11_146 C (ct_X11_boltsOf (by decide) hq2) rfl ⟨by decide, by decide⟩ (Nat.le_of_ble_eq_true rfl) dX11_isHeld_65 ⟨Nat.le_refl 0, Nat.le_refl 0⟩ ?_
        refine V_if_ne C 75 dX11_isHeld_68 (by decide) hF (fun hF => ?_) (fun hF => ?_)
        · refine V_iconst C dX11_isHeld_75 (v := (0 : Int32)) (by decide) ?_
          cases hF
          exact V_zret C hr hlk (Or.inl rfl) rfl rfl dX11_isHeld_76
        · refine V_iconst C dX11_isHeld_71 (v := (1 : Int32)) (by decide) ?_
          refine V_goto C 76 dX11_isHeld_72 (by decide) ?_
          cases hF
          exact V_zret C hr hlk (Or.inr rfl) rfl rfl dX11_isHeld_76
    · refine V_iload_n C 1 dX11_isHeld_15 rfl ?_
      refine V_if_eq C 56 dX11_isHeld_16 (by decide) hF (fun hF => ?_) (fun hF => ?_)
      · refine V_iload_n C 1 dX11_isHeld_56 rfl ?_
        refine V_if_eq C 75 dX11_isHeld_57 (by decide) hF (fun hF => ?_) (fun hF => ?_)
        · refine V_iconst C dX11_isHeld_75 (v := (0 : Int32)) (by decide) ?_
          cases hF
          exact V_zret C hr hlk (Or.inl rfl) rfl rfl dX11_isHeld_76
        · refine V_aload_n C 0 dX11_isHeld_60 rfl ?_
          refine V_aload_n C 0 dX11_isHeld_61 rfl ?_
          refine gf_X11_47 C dX11_isHeld_62 ?_
          obtain ⟨q3, hq3, hF⟩ := bnd hF
          refine cs_X11_146 C (ct_X11_boltsOf (by decide) hq3) rfl ⟨by decide, by decide⟩ (Nat.le_of_ble_eq_true rfl) dX11_isHeld_65 ⟨Nat.le_refl 0, Nat.le_refl 0⟩ ?_
          refine V_if_ne C 75 dX11_isHeld_68 (by decide) hF (fun hF => ?_) (fun hF => ?_)
          · refine V_iconst C dX11_isHeld_75 (v := (0 : Int32)) (by decide) ?_
            cases hF
            exact V_zret C hr hlk (Or.inl rfl) rfl rfl dX11_isHeld_76
          · refine V_iconst C dX11_isHeld_71 (v := (1 : Int32)) (by decide) ?_
            refine V_goto C 76 dX11_isHeld_72 (by decide) ?_
            cases hF
            exact V_zret C hr hlk (Or.inr rfl) rfl rfl dX11_isHeld_76
      · refine V_aload_n C 0 dX11_isHeld_19 rfl ?_
        refine gf_X11_47 C dX11_isHeld_20 ?_
        refine V_iload_n C 2 dX11_isHeld_23 rfl ?_
        obtain ⟨v4, hv4, hF⟩ := bnd hF
        refine V_iald C (by decide) hv4 dX11_isHeld_24 ?_
        refine V_bipush C dX11_isHeld_25 (v := (-9 : Int32)) (by decide) ?_
        refine V_icmp_eq C 44 dX11_isHeld_27 (by decide) hF (fun hF => ?_) (fun hF => ?_)
        · refine V_iconst C dX11_isHeld_44 (v := (1 : Int32)) (by decide) ?_
          refine V_goto C 49 dX11_isHeld_45 (by decide) ?_
          refine V_istore_n C (lv' := [(1, .int (1 : Int32)), (0, .ref (ad 11)), (2, .int x2)]) dX11_isHeld_49 rfl (by decide) rfl ?_
          refine V_iinc C (v := (x2 + 1)) (lv' := [(2, .int (x2 + 1)), (1, .int (1 : Int32)), (0, .ref (ad 11))]) 2 dX11_isHeld_50 rfl rfl (by decide) rfl ?_
          refine V_goto C 7 dX11_isHeld_53 (by decide) ?_
          refine V_lv (ks := [2, 1, 0]) rfl ?_
          exact ih (1 : Int32) (x2 + 1) hF
        · refine V_aload_n C 0 dX11_isHeld_30 rfl ?_
          refine V_aload_n C 0 dX11_isHeld_31 rfl ?_
          refine gf_X11_47 C dX11_isHeld_32 ?_
          refine V_iload_n C 2 dX11_isHeld_35 rfl ?_
          obtain ⟨v5, hv5, hF⟩ := bnd hF
          refine V_iald C (by decide) hv5 dX11_isHeld_36 ?_
          refine V_iload_n C 2 dX11_isHeld_37 rfl ?_
          obtain ⟨q6, hq6, hF⟩ := bnd hF
          refine cs_X11_121 C (ct_X11_isEnough hq6) rfl ⟨by decide, by decide⟩ (Nat.le_of_ble_eq_true rfl) dX11_isHeld_38 ⟨Nat.le_refl 0, Nat.le_refl 0⟩ ?_
          refine V_if_eq C 48 dX11_isHeld_41 (by decide) hF (fun hF => ?_) (fun hF => ?_)
          · refine V_iconst C dX11_isHeld_48 (v := (0 : Int32)) (by decide) ?_
            refine V_istore_n C (lv' := [(1, .int (0 : Int32)), (0, .ref (ad 11)), (2, .int x2)]) dX11_isHeld_49 rfl (by decide) rfl ?_
            refine V_iinc C (v := (x2 + 1)) (lv' := [(2, .int (x2 + 1)), (1, .int (0 : Int32)), (0, .ref (ad 11))]) 2 dX11_isHeld_50 rfl rfl (by decide) rfl ?_
            refine V_goto C 7 dX11_isHeld_53 (by decide) ?_
            refine V_lv (ks := [2, 1, 0]) rfl ?_
            exact ih (0 : Int32) (x2 + 1) hF
          · refine V_iconst C dX11_isHeld_44 (v := (1 : Int32)) (by decide) ?_
            refine V_goto C 49 dX11_isHeld_45 (by decide) ?_
            refine V_istore_n C (lv' := [(1, .int (1 : Int32)), (0, .ref (ad 11)), (2, .int x2)]) dX11_isHeld_49 rfl (by decide) rfl ?_
            refine V_iinc C (v := (x2 + 1)) (lv' := [(2, .int (x2 + 1)), (1, .int (1 : Int32)), (0, .ref (ad 11))]) 2 dX11_isHeld_50 rfl rfl (by decide) rfl ?_
            refine V_goto C 7 dX11_isHeld_53 (by decide) ?_
            refine V_lv (ks := [2, 1, 0]) rfl ?_
            exact ih (1 : Int32) (x2 + 1) hF
set_option maxHeartbeats 4000000 in
set_option maxRecDepth 20000 in
theorem ct_X11_isHeld {σ : Mem} {r : Int32} (hF : F_X11_isHeld σ = some r) : Ct yX11_isHeld cX11_isHeld 3 (some .boolean) 6 142 (fun ad zz => [.ref (ad 11)]) σ (fun ad => (some (.int r))) σ := by
  refine Ct_of (by decide +kernel) (lv := fun ad zz => [(0, .ref (ad 11))]) (fun _ _ => rfl) (fun _ _ => Nat.le_of_ble_eq_true rfl) (fun p l e s m args below meth c D T ad zz C hr hlk => ?_)
  rw [F_X11_isHeld] at hF
  refine V_aload_n C 0 dX11_isHeld_0 rfl ?_
  obtain ⟨q1, hq1, hF⟩ := bnd hF
  refine cs_X11_192 C (ct_X11_isWay hq1) rfl ⟨by decide, by decide⟩ (Nat.le_of_ble_eq_true rfl) dX11_isHeld_1 ⟨Nat.le_refl 0, Nat.le_refl 0⟩ ?_
  refine V_istore_n C (lv' := [(1, .int q1), (0, .ref (ad 11))]) dX11_isHeld_4 rfl (by decide) rfl ?_
  refine V_iconst C dX11_isHeld_5 (v := (0 : Int32)) (by decide) ?_
  refine V_istore_n C (lv' := [(2, .int (0 : Int32)), (1, .int q1), (0, .ref (ad 11))]) dX11_isHeld_6 rfl (by decide) rfl ?_
  refine V_lv (ks := [2, 1, 0]) rfl ?_
  exact w_X11_isHeld_b7 C hr hlk 4000 q1 (0 : Int32) hF
