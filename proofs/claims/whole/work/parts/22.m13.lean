-- walks: X11_findHolds X11_holds X11_sure X11_forged X11_left X11_findRace X11_race X11_raceOf
def F_X11_findHolds_b54 (kL11 : Int32 → Mem → Option Mem) (kL24 : Int32 → Mem → Option Mem) (x2 : Int32) (y0 : Int32) (σ : Mem) : Option Mem :=
  if (σ.1 30) = 0 then
    Option.bind (wrA σ 65 x2 y0) fun σ9 =>
    kL24 (x2 + 1) σ9
  else
    Option.bind (rdA σ 65 x2) fun v10 =>
    if v10 = y0 then
      Option.bind (wrA σ 65 x2 y0) fun σ12 =>
      kL24 (x2 + 1) σ12
    else
      Option.bind (wrA σ 65 x2 (-9 : Int32)) fun σ11 =>
      kL24 (x2 + 1) σ11
def F_X11_findHolds_b24 (kL11 : Int32 → Mem → Option Mem) : Nat → Int32 → Mem → Option Mem
  | 0, _, _ => none
  | n + 1, x2, σ =>
    if (σ.1 24) ≤ x2 then
      Option.bind (stI σ 30 ((σ.1 30) + (1 : Int32))) fun σ5 =>
      Option.bind (F_X11_nextWay σ5) fun q6 =>
      kL11 q6.1 q6.2
    else
      Option.bind (rdA σ 64 x2) fun v7 =>
      if v7 = (-9 : Int32) then
        F_X11_findHolds_b54 kL11 (F_X11_findHolds_b24 kL11 n) x2 (9 : Int32) σ
      else
        Option.bind (rdA σ 64 x2) fun v8 =>
        F_X11_findHolds_b54 kL11 (F_X11_findHolds_b24 kL11 n) x2 v8 σ
def F_X11_findHolds_b11  : Nat → Int32 → Mem → Option Mem
  | 0, _, _ => none
  | n + 1, x1, σ =>
    if x1 = 0 then
      some σ
    else
      Option.bind (F_X11_isHeld σ) fun q3 =>
      if q3 = 0 then
        Option.bind (F_X11_nextWay σ) fun q4 =>
        (F_X11_findHolds_b11 n) q4.1 q4.2
      else
        F_X11_findHolds_b24 (F_X11_findHolds_b11 n) 4000 (0 : Int32) σ
def F_X11_findHolds (σ : Mem) : Option Mem :=
  Option.bind (stI σ 30 (0 : Int32)) fun σ1 =>
  Option.bind (F_X11_firstWay σ1) fun σ2 =>
  F_X11_findHolds_b11 4000 (1 : Int32) σ2
set_option maxHeartbeats 4000000 in
set_option maxRecDepth 20000 in
theorem w_X11_findHolds_b54 {p : Program} {l : Launch} {e : Env} {s : State} {m : MethodId} {args : Array Value} {below : List Frame} {meth : Method} {c : Code} {D : va_G} {T : Nat → ClassId} {ad zz : Nat → Nat} (C : Cx p s m c cX11_findHolds 4 RX11 (fA ad) D T ad zz) (hr : meth.sig.returnType = none) (hlk : meth.locks = false) {r : Mem} (kL11 : Int32 → Mem → Option Mem) (kL24 : Int32 → Mem → Option Mem) (hL11 : ∀ (x1 : Int32) (σ : Mem), kL11 x1 σ = some r → V p l e { frames := 7, cells := 0, slots := 0, locals := 164 } s m args below meth c 0 0 (MQ below (qC none r D T ad) args s 0 0 (fA ad)) 4 (fA ad) D T ad σ 11 [(0, .ref (ad 11)), (1, .int x1)] []) (hL24 : ∀ (x2 : Int32) (σ : Mem), kL24 x2 σ = some r → V p l e { frames := 7, cells := 0, slots := 0, locals := 164 } s m args below meth c 0 0 (MQ below (qC none r D T ad) args s 0 0 (fA ad)) 4 (fA ad) D T ad σ 24 [(0, .ref (ad 11)), (2, .int x2)] []) (x2 : Int32) (y0 : Int32) (σ : Mem) (hF : F_X11_findHolds_b54 kL11 kL24 x2 y0 σ = some r) : V p l e { frames := 7, cells := 0, slots := 0, locals := 164 } s m args below meth c 0 0 (MQ below (qC none r D T ad) args s 0 0 (fA ad)) 4 (fA ad) D T ad σ 54 [(0, .ref (ad 11)), (2, .int x2)] [.int y0] := by
  rw [F_X11_findHolds_b54] at hF
  refine V_istore_n C (lv' := [(3, .int y0), (0, .ref (ad 11)), (2, .int x2)]) dX11_findHolds_54 rfl (by decide) rfl ?_
  refine V_aload_n C 1 dX11_findHolds_55 rfl ?_
  refine gf_X11_50 C dX11_findHolds_56 ?_
  refine V_iload_n C 2 dX11_findHolds_59 rfl ?_
  refine V_aload_n C 1 dX11_findHolds_60 rfl ?_
  refine gf_X11_195 C dX11_findHolds_61 ?_
  refine V_if_eq C 77 dX11_findHolds_64 (by decide) hF (fun hF => ?_) (fun hF => ?_)
  · refine V_iload_n C 0 dX11_findHolds_77 rfl ?_
    refine V_goto C 83 dX11_findHolds_78 (by decide) ?_
    obtain ⟨σ9, hs9, hF⟩ := bnd hF
    refine V_iast C (by decide) hs9 dX11_findHolds_83 ?_
    refine V_iinc C (v := (x2 + 1)) (lv' := [(2, .int (x2 + 1)), (3, .int y0), (0, .ref (ad 11))]) 2 dX11_findHolds_84 rfl rfl (by decide) rfl ?_
    refine V_goto C 24 dX11_findHolds_87 (by decide) ?_
    refine V_lv (ks := [2, 0]) rfl ?_
    exact hL24 (x2 + 1) σ9 hF
  · refine V_aload_n C 1 dX11_findHolds_67 rfl ?_
    refine gf_X11_50 C dX11_findHolds_68 ?_
    refine V_iload_n C 2 dX11_findHolds_71 rfl ?_
    obtain ⟨v10, hv10, hF⟩ := bnd hF
    refine V_iald C (by decide) hv10 dX11_findHolds_72 ?_
    refine V_iload_n C 0 dX11_findHolds_73 rfl ?_
    refine V_icmp_ne C 81 dX11_findHolds_74 (by decide) hF (fun hF => ?_) (fun hF => ?_)
    · refine V_bipush C dX11_findHolds_81 (v := (-9 : Int32)) (by decide) ?_
      obtain ⟨σ11, hs11, hF⟩ := bnd hF
      refine V_iast C (by decide) hs11 dX11_findHolds_83 ?_
      refine V_iinc C (v := (x2 + 1)) (lv' := [(2, .int (x2 + 1)), (3, .int y0), (0, .ref (ad 11))]) 2 dX11_findHolds_84 rfl rfl (by decide) rfl ?_
      refine V_goto C 24 dX11_findHolds_87 (by decide) ?_
      refine V_lv (ks := [2, 0]) rfl ?_
      exact hL24 (x2 + 1) σ11 hF
    · refine V_iload_n C 0 dX11_findHolds_77 rfl ?_
      refine V_goto C 83 dX11_findHolds_78 (by decide) ?_
      obtain ⟨σ12, hs12, hF⟩ := bnd hF
      refine V_iast C (by decide) hs12 dX11_findHolds_83 ?_
      refine V_iinc C (v := (x2 + 1)) (lv' := [(2, .int (x2 + 1)), (3, .int y0), (0, .ref (ad 11))]) 2 dX11_findHolds_84 rfl rfl (by decide) rfl ?_
      refine V_goto C 24 dX11_findHolds_87 (by decide) ?_
      refine V_lv (ks := [2, 0]) rfl ?_
      exact hL24 (x2 + 1) σ12 hF
set_option maxHeartbeats 4000000 in
set_option maxRecDepth 20000 in
theorem w_X11_findHolds_b24 {p : Program} {l : Launch} {e : Env} {s : State} {m : MethodId} {args : Array Value} {below : List Frame} {meth : Method} {c : Code} {D : va_G} {T : Nat → ClassId} {ad zz : Nat → Nat} (C : Cx p s m c cX11_findHolds 4 RX11 (fA ad) D T ad zz) (hr : meth.sig.returnType = none) (hlk : meth.locks = false) {r : Mem} (kL11 : Int32 → Mem → Option Mem) (hL11 : ∀ (x1 : Int32) (σ : Mem), kL11 x1 σ = some r → V p l e { frames := 7, cells := 0, slots := 0, locals := 164 } s m args below meth c 0 0 (MQ below (qC none r D T ad) args s 0 0 (fA ad)) 4 (fA ad) D T ad σ 11 [(0, .ref (ad 11)), (1, .int x1)] []) : ∀ (n : Nat), ∀ (x2 : Int32) (σ : Mem), F_X11_findHolds_b24 kL11 n x2 σ = some r → V p l e { frames := 7, cells := 0, slots := 0, locals := 164 } s m args below meth c 0 0 (MQ below (qC none r D T ad) args s 0 0 (fA ad)) 4 (fA ad) D T ad σ 24 [(0, .ref (ad 11)), (2, .int x2)] [] := by
  intro n
  induction n with
  | zero =>
    intro x2 σ hF
    cases (show (none : Option Mem) = some r from hF)
  | succ n ih =>
    intro x2 σ hF
    rw [F_X11_findHolds_b24] at hF
    refine V_iload_n C 1 dX11_findHolds_24 rfl ?_
    refine V_aload_n C 0 dX11_findHolds_25 rfl ?_
    refine gf_X11_67 C dX11_findHolds_26 ?_
    refine V_icmp_ge C 90 dX11_findHolds_29 (by decide) hF (fun hF => ?_) (fun hF => ?_)
    · refine V_aload_n C 0 dX11_findHolds_90 rfl ?_
      refine V_dup C dX11_findHolds_91 rfl ?_
      refine gf_X11_195 C dX11_findHolds_92 ?_
      refine V_iconst C dX11_findHolds_95 (v := (1 : Int32)) (by decide) ?_
      refine V_iadd C dX11_findHolds_96 ?_
      obtain ⟨σ5, hs5, hF⟩ := bnd hF
      refine pf_X11_195 C hs5 dX11_findHolds_97 ?_
      refine V_aload_n C 0 dX11_findHolds_100 rfl ?_
      obtain ⟨q6, hq6, hF⟩ := bnd hF
      refine cs_X11_204 C (ct_X11_nextWay hq6) rfl ⟨by decide, by decide⟩ (Nat.le_of_ble_eq_true rfl) dX11_findHolds_101 ⟨Nat.le_refl 0, Nat.le_refl 0⟩ ?_
      refine V_istore_n C (lv' := [(1, .int q6.1), (0, .ref (ad 11)), (2, .int x2)]) dX11_findHolds_104 rfl (by decide) rfl ?_
      refine V_goto C 11 dX11_findHolds_105 (by decide) ?_
      refine V_lv (ks := [1, 0]) rfl ?_
      exact hL11 q6.1 q6.2 hF
    · refine V_aload_n C 0 dX11_findHolds_32 rfl ?_
      refine gf_X11_47 C dX11_findHolds_33 ?_
      refine V_iload_n C 1 dX11_findHolds_36 rfl ?_
      obtain ⟨v7, hv7, hF⟩ := bnd hF
      refine V_iald C (by decide) hv7 dX11_findHolds_37 ?_
      refine V_bipush C dX11_findHolds_38 (v := (-9 : Int32)) (by decide) ?_
      refine V_icmp_ne C 48 dX11_findHolds_40 (by decide) hF (fun hF => ?_) (fun hF => ?_)
      · refine V_aload_n C 0 dX11_findHolds_48 rfl ?_
        refine gf_X11_47 C dX11_findHolds_49 ?_
        refine V_iload_n C 1 dX11_findHolds_52 rfl ?_
        obtain ⟨v8, hv8, hF⟩ := bnd hF
        refine V_iald C (by decide) hv8 dX11_findHolds_53 ?_
        exact w_X11_findHolds_b54 C hr hlk kL11 (F_X11_findHolds_b24 kL11 n) hL11 ih x2 v8 σ hF
      · refine V_bipush C dX11_findHolds_43 (v := (9 : Int32)) (by decide) ?_
        refine V_goto C 54 dX11_findHolds_45 (by decide) ?_
        exact w_X11_findHolds_b54 C hr hlk kL11 (F_X11_findHolds_b24 kL11 n) hL11 ih x2 (9 : Int32) σ hF
set_option maxHeartbeats 4000000 in
set_option maxRecDepth 20000 in
theorem w_X11_findHolds_b11 {p : Program} {l : Launch} {e : Env} {s : State} {m : MethodId} {args : Array Value} {below : List Frame} {meth : Method} {c : Code} {D : va_G} {T : Nat → ClassId} {ad zz : Nat → Nat} (C : Cx p s m c cX11_findHolds 4 RX11 (fA ad) D T ad zz) (hr : meth.sig.returnType = none) (hlk : meth.locks = false) {r : Mem}  : ∀ (n : Nat), ∀ (x1 : Int32) (σ : Mem), F_X11_findHolds_b11  n x1 σ = some r → V p l e { frames := 7, cells := 0, slots := 0, locals := 164 } s m args below meth c 0 0 (MQ below (qC none r D T ad) args s 0 0 (fA ad)) 4 (fA ad) D T ad σ 11 [(0, .ref (ad 11)), (1, .int x1)] [] := by
  intro n
  induction n with
  | zero =>
    intro x1 σ hF
    cases (show (none : Option Mem) = some r from hF)
  | succ n ih =>
    intro x1 σ hF
    rw [F_X11_findHolds_b11] at hF
    refine V_iload_n C 1 dX11_findHolds_11 rfl ?_
    refine V_if_eq C 108 dX11_findHolds_12 (by decide) hF (fun hF => ?_) (fun hF => ?_)
    · cases hF
      exact V_vret C hr hlk rfl rfl dX11_findHolds_108
    · refine V_aload_n C 0 dX11_findHolds_15 rfl ?_
      obtain ⟨q3, hq3, hF⟩ := bnd hF
      refine cs_X11_201 C (ct_X11_isHeld hq3) rfl ⟨by decide, by decide⟩ (Nat.le_of_ble_eq_true rfl) dX11_findHolds_16 ⟨Nat.le_refl 0, Nat.le_refl 0⟩ ?_
      refine V_if_eq C 100 dX11_findHolds_19 (by decide) hF (fun hF => ?_) (fun hF => ?_)
      · refine V_aload_n C 0 dX11_findHolds_100 rfl ?_
        obtain ⟨q4, hq4, hF⟩ := bnd hF
        refine cs_X11_204 C (ct_X11_nextWay hq4) rfl ⟨by decide, by decide⟩ (Nat.le_of_ble_eq_true rfl) dX11_findHolds_101 ⟨Nat.le_refl 0, Nat.le_refl 0⟩ ?_
        refine V_istore_n C (lv' := [(1, .int q4.1), (0, .ref (ad 11))]) dX11_findHolds_104 rfl (by decide) rfl ?_
        refine V_goto C 11 dX11_findHolds_105 (by decide) ?_
        refine V_lv (ks := [1, 0]) rfl ?_
        exact ih q4.1 q4.2 hF
      · refine V_iconst C dX11_findHolds_22 (v := (0 : Int32)) (by decide) ?_
        refine V_istore_n C (lv' := [(2, .int (0 : Int32)), (0, .ref (ad 11)), (1, .int x1)]) dX11_findHolds_23 rfl (by decide) rfl ?_
        refine V_lv (ks := [1, 0]) rfl ?_
        exact w_X11_findHolds_b24 C hr hlk (F_X11_findHolds_b11 n) ih 4000 (0 : Int32) σ hF
set_option maxHeartbeats 4000000 in
set_option maxRecDepth 20000 in
theorem ct_X11_findHolds {σ : Mem} {r : Mem} (hF : F_X11_findHolds σ = some r) : Ct yX11_findHolds cX11_findHolds 4 none 7 164 (fun ad zz => [.ref (ad 11)]) σ (fun ad => none) r := by
  refine Ct_of (by decide +kernel) (lv := fun ad zz => [(0, .ref (ad 11))]) (fun _ _ => rfl) (fun _ _ => Nat.le_of_ble_eq_true rfl) (fun p l e s m args below meth c D T ad zz C hr hlk => ?_)
  rw [F_X11_findHolds] at hF
  refine V_aload_n C 0 dX11_findHolds_0 rfl ?_
  refine V_iconst C dX11_findHolds_1 (v := (0 : Int32)) (by decide) ?_
  obtain ⟨σ1, hs1, hF⟩ := bnd hF
  refine pf_X11_195 C hs1 dX11_findHolds_2 ?_
  refine V_aload_n C 0 dX11_findHolds_5 rfl ?_
  obtain ⟨σ2, hs2, hF⟩ := bnd hF
  refine cs_X11_198 C (ct_X11_firstWay hs2) rfl ⟨by decide, by decide⟩ (Nat.le_of_ble_eq_true rfl) dX11_findHolds_6 ⟨Nat.le_refl 0, Nat.le_refl 0⟩ ?_
  refine V_iconst C dX11_findHolds_9 (v := (1 : Int32)) (by decide) ?_
  refine V_istore_n C (lv' := [(1, .int (1 : Int32)), (0, .ref (ad 11))]) dX11_findHolds_10 rfl (by decide) rfl ?_
  refine V_lv (ks := [1, 0]) rfl ?_
  exact w_X11_findHolds_b11 C hr hlk 4000 (1 : Int32) σ2 hF

def F_X11_holds (σ : Mem) : Option (Int32 × Mem) :=
  Option.bind (stI σ 20 (0 : Int32)) fun σ1 =>
  Option.bind (F_X11_findHolds σ1) fun σ2 =>
  some ((σ2.1 30), σ2)
set_option maxHeartbeats 4000000 in
set_option maxRecDepth 20000 in
theorem ct_X11_holds {σ : Mem} {r : (Int32 × Mem)} (hF : F_X11_holds σ = some r) : Ct yX11_holds cX11_holds 1 (some .int) 8 187 (fun ad zz => [.ref (ad 11)]) σ (fun ad => (some (.int r.1))) r.2 := by
  refine Ct_of (by decide +kernel) (lv := fun ad zz => [(0, .ref (ad 11))]) (fun _ _ => rfl) (fun _ _ => Nat.le_of_ble_eq_true rfl) (fun p l e s m args below meth c D T ad zz C hr hlk => ?_)
  rw [F_X11_holds] at hF
  refine V_aload_n C 0 dX11_holds_0 rfl ?_
  refine V_iconst C dX11_holds_1 (v := (0 : Int32)) (by decide) ?_
  obtain ⟨σ1, hs1, hF⟩ := bnd hF
  refine pf_X11_56 C hs1 dX11_holds_2 ?_
  refine V_aload_n C 0 dX11_holds_5 rfl ?_
  obtain ⟨σ2, hs2, hF⟩ := bnd hF
  refine cs_X11_207 C (ct_X11_findHolds hs2) rfl ⟨by decide, by decide⟩ (Nat.le_of_ble_eq_true rfl) dX11_holds_6 ⟨Nat.le_refl 0, Nat.le_refl 0⟩ ?_
  refine V_aload_n C 0 dX11_holds_9 rfl ?_
  refine gf_X11_195 C dX11_holds_10 ?_
  cases hF
  exact V_iret C hr hlk rfl rfl dX11_holds_13

def F_X11_sure (a1 : Int32) (σ : Mem) : Option (Int32 × Mem) :=
  Option.bind (stI σ 20 (0 : Int32)) fun σ1 =>
  Option.bind (F_X11_noRider a1 σ1) fun q2 =>
  if q2 = 0 then
    Option.bind (F_X11_findHolds σ1) fun σ3 =>
    Option.bind (rdA σ3 65 a1) fun v4 =>
    some (v4, σ3)
  else
    some ((-1 : Int32), σ1)
set_option maxHeartbeats 4000000 in
set_option maxRecDepth 20000 in
theorem ct_X11_sure {a1 : Int32} {σ : Mem} {r : (Int32 × Mem)} (hF : F_X11_sure a1 σ = some r) : Ct yX11_sure cX11_sure 2 (some .int) 8 187 (fun ad zz => [.ref (ad 11), .int a1]) σ (fun ad => (some (.int r.1))) r.2 := by
  refine Ct_of (by decide +kernel) (lv := fun ad zz => [(0, .ref (ad 11)), (1, .int a1)]) (fun _ _ => rfl) (fun _ _ => Nat.le_of_ble_eq_true rfl) (fun p l e s m args below meth c D T ad zz C hr hlk => ?_)
  rw [F_X11_sure] at hF
  refine V_aload_n C 0 dX11_sure_0 rfl ?_
  refine V_iconst C dX11_sure_1 (v := (0 : Int32)) (by decide) ?_
  obtain ⟨σ1, hs1, hF⟩ := bnd hF
  refine pf_X11_56 C hs1 dX11_sure_2 ?_
  refine V_aload_n C 0 dX11_sure_5 rfl ?_
  refine V_iload_n C 1 dX11_sure_6 rfl ?_
  obtain ⟨q2, hq2, hF⟩ := bnd hF
  refine cs_X11_153 C (ct_X11_noRider hq2) rfl ⟨by decide, by decide⟩ (Nat.le_of_ble_eq_true rfl) dX11_sure_7 ⟨Nat.le_refl 0, Nat.le_refl 0⟩ ?_
  refine V_if_eq C 15 dX11_sure_10 (by decide) hF (fun hF => ?_) (fun hF => ?_)
  · refine V_aload_n C 0 dX11_sure_15 rfl ?_
    obtain ⟨σ3, hs3, hF⟩ := bnd hF
    refine cs_X11_207 C (ct_X11_findHolds hs3) rfl ⟨by decide, by decide⟩ (Nat.le_of_ble_eq_true rfl) dX11_sure_16 ⟨Nat.le_refl 0, Nat.le_refl 0⟩ ?_
    refine V_aload_n C 0 dX11_sure_19 rfl ?_
    refine gf_X11_50 C dX11_sure_20 ?_
    refine V_iload_n C 1 dX11_sure_23 rfl ?_
    obtain ⟨v4, hv4, hF⟩ := bnd hF
    refine V_iald C (by decide) hv4 dX11_sure_24 ?_
    cases hF
    exact V_iret C hr hlk rfl rfl dX11_sure_25
  · refine V_iconst C dX11_sure_13 (v := (-1 : Int32)) (by decide) ?_
    cases hF
    exact V_iret C hr hlk rfl rfl dX11_sure_14

def F_X11_forged_b192 (kL48 : Int32 → Int32 → Int32 → Int32 → Int32 → Int32 → Mem → Option (Int32 × Mem)) : Nat → Int32 → Int32 → Int32 → Int32 → Int32 → Int32 → Int32 → Int32 → Int32 → Int32 → Mem → Option (Int32 × Mem)
  | 0, _, _, _, _, _, _, _, _, _, _, _ => none
  | n + 1, x1, x2, x3, x4, x5, x6, x7, x8, x9, x11, σ =>
    if (3 : Int32) ≤ x11 then
      Option.bind (rdA σ 63 x1) fun v11 =>
      if v11 = x2 then
        Option.bind (rdA σ 63 x1) fun v13 =>
        if v13 = x2 then
          kL48 x1 x2 x3 ((x7 + x8) + x9) x6 (x6 + 1) σ
        else
          kL48 x1 x2 x3 ((x7 + x8) + x9) x5 (x6 + 1) σ
      else
        Option.bind (rdA σ 63 x1) fun v12 =>
        if v12 = x2 then
          kL48 x1 x2 x3 x4 x6 (x6 + 1) σ
        else
          kL48 x1 x2 x3 x4 x5 (x6 + 1) σ
    else
      Option.bind (wrA σ 66 (((3 : Int32) * x1) + x11) (0 : Int32)) fun σ14 =>
      (F_X11_forged_b192 kL48 n) x1 x2 x3 x4 x5 x6 x7 x8 x9 (x11 + 1) σ14
def F_X11_forged_b127 (kL48 : Int32 → Int32 → Int32 → Int32 → Int32 → Int32 → Mem → Option (Int32 × Mem)) (x1 : Int32) (x2 : Int32) (x3 : Int32) (x4 : Int32) (x5 : Int32) (x6 : Int32) (x7 : Int32) (x8 : Int32) (x9 : Int32) (y0 : Int32) (σ : Mem) : Option (Int32 × Mem) :=
  if y0 = 0 then
    kL48 x1 x2 x3 x4 x5 (x6 + 1) σ
  else
    if x4 ≤ ((x7 + x8) + x9) then
      kL48 x1 x2 x3 x4 x5 (x6 + 1) σ
    else
      Option.bind (wrA σ 66 ((3 : Int32) * x1) x7) fun σ6 =>
      Option.bind (wrA σ6 66 (((3 : Int32) * x1) + (1 : Int32)) x8) fun σ7 =>
      Option.bind (wrA σ7 66 (((3 : Int32) * x1) + (2 : Int32)) x9) fun σ8 =>
      Option.bind (F_X11_all σ8) fun q9 =>
      Option.bind (F_X11_holdByRiders q9 σ8) fun σ10 =>
      F_X11_forged_b192 kL48 4000 x1 x2 x3 x4 x5 x6 x7 x8 x9 (0 : Int32) σ10
def F_X11_forged_b48  : Nat → Int32 → Int32 → Int32 → Int32 → Int32 → Int32 → Mem → Option (Int32 × Mem)
  | 0, _, _, _, _, _, _, _ => none
  | n + 1, x1, x2, x3, x4, x5, x6, σ =>
    if (1000 : Int32) ≤ x6 then
      if x5 = (-9 : Int32) then
        some ((-9 : Int32), σ)
      else
        if x3 = 0 then
          some (x4, σ)
        else
          some (x5, σ)
    else
      Option.bind (F_X11_shows x1 (0 : Int32) σ) fun q5 =>
      if (9 : Int32) < (q5 + (x6 / (100 : Int32))) then
        F_X11_forged_b127 (F_X11_forged_b48 n) x1 x2 x3 x4 x5 x6 (x6 / (100 : Int32)) ((x6 / (10 : Int32)) - (x6 / (10 : Int32)) / (10 : Int32) * (10 : Int32)) (x6 - x6 / (10 : Int32) * (10 : Int32)) (0 : Int32) σ
      else
        Option.bind (F_X11_shows x1 (1 : Int32) σ) fun q15 =>
        if (9 : Int32) < (q15 + ((x6 / (10 : Int32)) - (x6 / (10 : Int32)) / (10 : Int32) * (10 : Int32))) then
          F_X11_forged_b127 (F_X11_forged_b48 n) x1 x2 x3 x4 x5 x6 (x6 / (100 : Int32)) ((x6 / (10 : Int32)) - (x6 / (10 : Int32)) / (10 : Int32) * (10 : Int32)) (x6 - x6 / (10 : Int32) * (10 : Int32)) (0 : Int32) σ
        else
          Option.bind (F_X11_shows x1 (2 : Int32) σ) fun q16 =>
          if (9 : Int32) < (q16 + (x6 - x6 / (10 : Int32) * (10 : Int32))) then
            F_X11_forged_b127 (F_X11_forged_b48 n) x1 x2 x3 x4 x5 x6 (x6 / (100 : Int32)) ((x6 / (10 : Int32)) - (x6 / (10 : Int32)) / (10 : Int32) * (10 : Int32)) (x6 - x6 / (10 : Int32) * (10 : Int32)) (0 : Int32) σ
          else
            F_X11_forged_b127 (F_X11_forged_b48 n) x1 x2 x3 x4 x5 x6 (x6 / (100 : Int32)) ((x6 / (10 : Int32)) - (x6 / (10 : Int32)) / (10 : Int32) * (10 : Int32)) (x6 - x6 / (10 : Int32) * (10 : Int32)) (1 : Int32) σ
def F_X11_forged (a1 : Int32) (a2 : Int32) (a3 : Int32) (σ : Mem) : Option (Int32 × Mem) :=
  Option.bind (stI σ 20 (0 : Int32)) fun σ1 =>
  Option.bind (F_X11_noRider a1 σ1) fun q2 =>
  if q2 = 0 then
    Option.bind (F_X11_noHorse a2 σ1) fun q3 =>
    if q3 = 0 then
      Option.bind (F_X11_in ((a3).toInt64) (0 : Int64) (1 : Int64) σ1) fun q4 =>
      if q4 = 0 then
        some ((-2 : Int32), σ1)
      else
        F_X11_forged_b48 4000 a1 a2 a3 (9999 : Int32) (-9 : Int32) (0 : Int32) σ1
    else
      some ((-1 : Int32), σ1)
  else
    some ((-1 : Int32), σ1)
set_option maxHeartbeats 4000000 in
set_option maxRecDepth 20000 in
theorem w_X11_forged_b192 {p : Program} {l : Launch} {e : Env} {s : State} {m : MethodId} {args : Array Value} {below : List Frame} {meth : Method} {c : Code} {D : va_G} {T : Nat → ClassId} {ad zz : Nat → Nat} (C : Cx p s m c cX11_forged 12 RX11 (fA ad) D T ad zz) (hr : meth.sig.returnType = (some .int)) (hlk : meth.locks = false) {r : (Int32 × Mem)} (kL48 : Int32 → Int32 → Int32 → Int32 → Int32 → Int32 → Mem → Option (Int32 × Mem)) (hL48 : ∀ (x1 : Int32) (x2 : Int32) (x3 : Int32) (x4 : Int32) (x5 : Int32) (x6 : Int32) (σ : Mem), kL48 x1 x2 x3 x4 x5 x6 σ = some r → V p l e { frames := 6, cells := 0, slots := 0, locals := 142 } s m args below meth c 0 0 (MQ below (qC (some (.int r.1)) r.2 D T ad) args s 0 0 (fA ad)) 12 (fA ad) D T ad σ 48 [(0, .ref (ad 11)), (1, .int x1), (2, .int x2), (3, .int x3), (4, .int x4), (5, .int x5), (6, .int x6)] []) : ∀ (n : Nat), ∀ (x1 : Int32) (x2 : Int32) (x3 : Int32) (x4 : Int32) (x5 : Int32) (x6 : Int32) (x7 : Int32) (x8 : Int32) (x9 : Int32) (x11 : Int32) (σ : Mem), F_X11_forged_b192 kL48 n x1 x2 x3 x4 x5 x6 x7 x8 x9 x11 σ = some r → V p l e { frames := 6, cells := 0, slots := 0, locals := 142 } s m args below meth c 0 0 (MQ below (qC (some (.int r.1)) r.2 D T ad) args s 0 0 (fA ad)) 12 (fA ad) D T ad σ 192 [(0, .ref (ad 11)), (1, .int x1), (2, .int x2), (3, .int x3), (4, .int x4), (5, .int x5), (6, .int x6), (7, .int x7), (8, .int x8), (9, .int x9), (11, .int x11)] [] := by
  intro n
  induction n with
  | zero =>
    intro x1 x2 x3 x4 x5 x6 x7 x8 x9 x11 σ hF
    cases (show (none : Option (Int32 × Mem)) = some r from hF)
  | succ n ih =>
    intro x1 x2 x3 x4 x5 x6 x7 x8 x9 x11 σ hF
    rw [F_X11_forged_b192] at hF
    refine V_iload C 10 dX11_forged_192 rfl ?_
    refine V_iconst C dX11_forged_194 (v := (3 : Int32)) (by decide) ?_
    refine V_icmp_ge C 216 dX11_forged_195 (by decide) hF (fun hF => ?_) (fun hF => ?_)
    · refine V_aload_n C 0 dX11_forged_216 rfl ?_
      refine gf_X11_44 C dX11_forged_217 ?_
      refine V_iload_n C 1 dX11_forged_220 rfl ?_
      obtain ⟨v11, hv11, hF⟩ := bnd hF
      refine V_iald C (by decide) hv11 dX11_forged_221 ?_
      refine V_iload_n C 2 dX11_forged_222 rfl ?_
      refine V_icmp_ne C 237 dX11_forged_223 (by decide) hF (fun hF => ?_) (fun hF => ?_)
      · refine V_iload C 4 dX11_forged_237 rfl ?_
        refine V_istore C (lv' := [(4, .int x4), (0, .ref (ad 11)), (1, .int x1), (2, .int x2), (3, .int x3), (5, .int x5), (6, .int x6), (7, .int x7), (8, .int x8), (9, .int x9), (11, .int x11)]) dX11_forged_239 (by decide) rfl ?_
        refine V_aload_n C 1 dX11_forged_241 rfl ?_
        refine gf_X11_44 C dX11_forged_242 ?_
        refine V_iload_n C 2 dX11_forged_245 rfl ?_
        obtain ⟨v12, hv12, hF⟩ := bnd hF
        refine V_iald C (by decide) hv12 dX11_forged_246 ?_
        refine V_iload_n C 3 dX11_forged_247 rfl ?_
        refine V_icmp_ne C 256 dX11_forged_248 (by decide) hF (fun hF => ?_) (fun hF => ?_)
        · refine V_iload C 5 dX11_forged_256 rfl ?_
          refine V_istore C (lv' := [(5, .int x5), (4, .int x4), (0, .ref (ad 11)), (1, .int x1), (2, .int x2), (3, .int x3), (6, .int x6), (7, .int x7), (8, .int x8), (9, .int x9), (11, .int x11)]) dX11_forged_258 (by decide) rfl ?_
          refine V_iinc C (v := (x6 + 1)) (lv' := [(6, .int (x6 + 1)), (5, .int x5), (4, .int x4), (0, .ref (ad 11)), (1, .int x1), (2, .int x2), (3, .int x3), (7, .int x7), (8, .int x8), (9, .int x9), (11, .int x11)]) 6 dX11_forged_260 rfl rfl (by decide) rfl ?_
          refine V_goto C 48 dX11_forged_263 (by decide) ?_
          refine V_lv (ks := [3, 4, 5, 6, 2, 1, 0]) rfl ?_
          exact hL48 x1 x2 x3 x4 x5 (x6 + 1) σ hF
        · refine V_iload C 6 dX11_forged_251 rfl ?_
          refine V_goto C 258 dX11_forged_253 (by decide) ?_
          refine V_istore C (lv' := [(5, .int x6), (4, .int x4), (0, .ref (ad 11)), (1, .int x1), (2, .int x2), (3, .int x3), (6, .int x6), (7, .int x7), (8, .int x8), (9, .int x9), (11, .int x11)]) dX11_forged_258 (by decide) rfl ?_
          refine V_iinc C (v := (x6 + 1)) (lv' := [(6, .int (x6 + 1)), (5, .int x6), (4, .int x4), (0, .ref (ad 11)), (1, .int x1), (2, .int x2), (3, .int x3), (7, .int x7), (8, .int x8), (9, .int x9), (11, .int x11)]) 6 dX11_forged_260 rfl rfl (by decide) rfl ?_
          refine V_goto C 48 dX11_forged_263 (by decide) ?_
          refine V_lv (ks := [3, 4, 5, 6, 2, 1, 0]) rfl ?_
          exact hL48 x1 x2 x3 x4 x6 (x6 + 1) σ hF
      · refine V_iload C 7 dX11_forged_226 rfl ?_
        refine V_iload C 8 dX11_forged_228 rfl ?_
        refine V_iadd C dX11_forged_230 ?_
        refine V_iload C 9 dX11_forged_231 rfl ?_
        refine V_iadd C dX11_forged_233 ?_
        refine V_goto C 239 dX11_forged_234 (by decide) ?_
        refine V_istore C (lv' := [(4, .int ((x7 + x8) + x9)), (0, .ref (ad 11)), (1, .int x1), (2, .int x2), (3, .int x3), (5, .int x5), (6, .int x6), (7, .int x7), (8, .int x8), (9, .int x9), (11, .int x11)]) dX11_forged_239 (by decide) rfl ?_
        refine V_aload_n C 1 dX11_forged_241 rfl ?_
        refine gf_X11_44 C dX11_forged_242 ?_
        refine V_iload_n C 2 dX11_forged_245 rfl ?_
        obtain ⟨v13, hv13, hF⟩ := bnd hF
        refine V_iald C (by decide) hv13 dX11_forged_246 ?_
        refine V_iload_n C 3 dX11_forged_247 rfl ?_
        refine V_icmp_ne C 256 dX11_forged_248 (by decide) hF (fun hF => ?_) (fun hF => ?_)
        · refine V_iload C 5 dX11_forged_256 rfl ?_
          refine V_istore C (lv' := [(5, .int x5), (4, .int ((x7 + x8) + x9)), (0, .ref (ad 11)), (1, .int x1), (2, .int x2), (3, .int x3), (6, .int x6), (7, .int x7), (8, .int x8), (9, .int x9), (11, .int x11)]) dX11_forged_258 (by decide) rfl ?_
          refine V_iinc C (v := (x6 + 1)) (lv' := [(6, .int (x6 + 1)), (5, .int x5), (4, .int ((x7 + x8) + x9)), (0, .ref (ad 11)), (1, .int x1), (2, .int x2), (3, .int x3), (7, .int x7), (8, .int x8), (9, .int x9), (11, .int x11)]) 6 dX11_forged_260 rfl rfl (by decide) rfl ?_
          refine V_goto C 48 dX11_forged_263 (by decide) ?_
          refine V_lv (ks := [3, 4, 5, 6, 2, 1, 0]) rfl ?_
          exact hL48 x1 x2 x3 ((x7 + x8) + x9) x5 (x6 + 1) σ hF
        · refine V_iload C 6 dX11_forged_251 rfl ?_
          refine V_goto C 258 dX11_forged_253 (by decide) ?_
          refine V_istore C (lv' := [(5, .int x6), (4, .int ((x7 + x8) + x9)), (0, .ref (ad 11)), (1, .int x1), (2, .int x2), (3, .int x3), (6, .int x6), (7, .int x7), (8, .int x8), (9, .int x9), (11, .int x11)]) dX11_forged_258 (by decide) rfl ?_
          refine V_iinc C (v := (x6 + 1)) (lv' := [(6, .int (x6 + 1)), (5, .int x6), (4, .int ((x7 + x8) + x9)), (0, .ref (ad 11)), (1, .int x1), (2, .int x2), (3, .int x3), (7, .int x7), (8, .int x8), (9, .int x9), (11, .int x11)]) 6 dX11_forged_260 rfl rfl (by decide) rfl ?_
          refine V_goto C 48 dX11_forged_263 (by decide) ?_
          refine V_lv (ks := [3, 4, 5, 6, 2, 1, 0]) rfl ?_
          exact hL48 x1 x2 x3 ((x7 + x8) + x9) x6 (x6 + 1) σ hF
    · refine V_aload_n C 0 dX11_forged_198 rfl ?_
      refine gf_X11_53 C dX11_forged_199 ?_
      refine V_iconst C dX11_forged_202 (v := (3 : Int32)) (by decide) ?_
      refine V_iload_n C 1 dX11_forged_203 rfl ?_
      refine V_imul C dX11_forged_204 ?_
      refine V_iload C 10 dX11_forged_205 rfl ?_
      refine V_iadd C dX11_forged_207 ?_
      refine V_iconst C dX11_forged_208 (v := (0 : Int32)) (by decide) ?_
      obtain ⟨σ14, hs14, hF⟩ := bnd hF
      refine V_iast C (by decide) hs14 dX11_forged_209 ?_
      refine V_iinc C (v := (x11 + 1)) (lv' := [(11, .int (x11 + 1)), (0, .ref (ad 11)), (1, .int x1), (2, .int x2), (3, .int x3), (4, .int x4), (5, .int x5), (6, .int x6), (7, .int x7), (8, .int x8), (9, .int x9)]) 10 dX11_forged_210 rfl rfl (by decide) rfl ?_
      refine V_goto C 192 dX11_forged_213 (by decide) ?_
      refine V_lv (ks := [1, 2, 3, 4, 5, 6, 7, 8, 9, 10, 0]) rfl ?_
      exact ih x1 x2 x3 x4 x5 x6 x7 x8 x9 (x11 + 1) σ14 hF
set_option maxHeartbeats 4000000 in
set_option maxRecDepth 20000 in
theorem w_X11_forged_b127 {p : Program} {l : Launch} {e : Env} {s : State} {m : MethodId} {args : Array Value} {below : List Frame} {meth : Method} {c : Code} {D : va_G} {T : Nat → ClassId} {ad zz : Nat → Nat} (C : Cx p s m c cX11_forged 12 RX11 (fA ad) D T ad zz) (hr : meth.sig.returnType = (some .int)) (hlk : meth.locks = false) {r : (Int32 × Mem)} (kL48 : Int32 → Int32 → Int32 → Int32 → Int32 → Int32 → Mem → Option (Int32 × Mem)) (hL48 : ∀ (x1 : Int32) (x2 : Int32) (x3 : Int32) (x4 : Int32) (x5 : Int32) (x6 : Int32) (σ : Mem), kL48 x1 x2 x3 x4 x5 x6 σ = some r → V p l e { frames := 6, cells := 0, slots := 0, locals := 142 } s m args below meth c 0 0 (MQ below (qC (some (.int r.1)) r.2 D T ad) args s 0 0 (fA ad)) 12 (fA ad) D T ad σ 48 [(0, .ref (ad 11)), (1, .int x1), (2, .int x2), (3, .int x3), (4, .int x4), (5, .int x5), (6, .int x6)] []) (x1 : Int32) (x2 : Int32) (x3 : Int32) (x4 : Int32) (x5 : Int32) (x6 : Int32) (x7 : Int32) (x8 : Int32) (x9 : Int32) (y0 : Int32) (σ : Mem) (hF : F_X11_forged_b127 kL48 x1 x2 x3 x4 x5 x6 x7 x8 x9 y0 σ = some r) : V p l e { frames := 6, cells := 0, slots := 0, locals := 142 } s m args below meth c 0 0 (MQ below (qC (some (.int r.1)) r.2 D T ad) args s 0 0 (fA ad)) 12 (fA ad) D T ad σ 127 [(0, .ref (ad 11)), (1, .int x1), (2, .int x2), (3, .int x3), (4, .int x4), (5, .int x5), (6, .int x6), (7, .int x7), (8, .int x8), (9, .int x9)] [.int y0] := by
  rw [F_X11_forged_b127] at hF
  refine V_istore C (lv' := [(10, .int y0), (0, .ref (ad 11)), (1, .int x1), (2, .int x2), (3, .int x3), (4, .int x4), (5, .int x5), (6, .int x6), (7, .int x7), (8, .int x8), (9, .int x9)]) dX11_forged_127 (by decide) rfl ?_
  refine V_iload C 0 dX11_forged_129 rfl ?_
  refine V_if_eq C 260 dX11_forged_131 (by decide) hF (fun hF => ?_) (fun hF => ?_)
  · refine V_iinc C (v := (x6 + 1)) (lv' := [(6, .int (x6 + 1)), (10, .int y0), (0, .ref (ad 11)), (1, .int x1), (2, .int x2), (3, .int x3), (4, .int x4), (5, .int x5), (7, .int x7), (8, .int x8), (9, .int x9)]) 7 dX11_forged_260 rfl rfl (by decide) rfl ?_
    refine V_goto C 48 dX11_forged_263 (by decide) ?_
    refine V_lv (ks := [2, 3, 4, 5, 6, 7, 0]) rfl ?_
    exact hL48 x1 x2 x3 x4 x5 (x6 + 1) σ hF
  · refine V_iload C 8 dX11_forged_134 rfl ?_
    refine V_iload C 9 dX11_forged_136 rfl ?_
    refine V_iadd C dX11_forged_138 ?_
    refine V_iload C 10 dX11_forged_139 rfl ?_
    refine V_iadd C dX11_forged_141 ?_
    refine V_iload C 5 dX11_forged_142 rfl ?_
    refine V_icmp_ge C 260 dX11_forged_144 (by decide) hF (fun hF => ?_) (fun hF => ?_)
    · refine V_iinc C (v := (x6 + 1)) (lv' := [(6, .int (x6 + 1)), (10, .int y0), (0, .ref (ad 11)), (1, .int x1), (2, .int x2), (3, .int x3), (4, .int x4), (5, .int x5), (7, .int x7), (8, .int x8), (9, .int x9)]) 7 dX11_forged_260 rfl rfl (by decide) rfl ?_
      refine V_goto C 48 dX11_forged_263 (by decide) ?_
      refine V_lv (ks := [2, 3, 4, 5, 6, 7, 0]) rfl ?_
      exact hL48 x1 x2 x3 x4 x5 (x6 + 1) σ hF
    · refine V_aload_n C 1 dX11_forged_147 rfl ?_
      refine gf_X11_53 C dX11_forged_148 ?_
      refine V_iconst C dX11_forged_151 (v := (3 : Int32)) (by decide) ?_
      refine V_iload_n C 2 dX11_forged_152 rfl ?_
      refine V_imul C dX11_forged_153 ?_
      refine V_iload C 8 dX11_forged_154 rfl ?_
      obtain ⟨σ6, hs6, hF⟩ := bnd hF
      refine V_iast C (by decide) hs6 dX11_forged_156 ?_
      refine V_aload_n C 1 dX11_forged_157 rfl ?_
      refine gf_X11_53 C dX11_forged_158 ?_
      refine V_iconst C dX11_forged_161 (v := (3 : Int32)) (by decide) ?_
      refine V_iload_n C 2 dX11_forged_162 rfl ?_
      refine V_imul C dX11_forged_163 ?_
      refine V_iconst C dX11_forged_164 (v := (1 : Int32)) (by decide) ?_
      refine V_iadd C dX11_forged_165 ?_
      refine V_iload C 9 dX11_forged_166 rfl ?_
      obtain ⟨σ7, hs7, hF⟩ := bnd hF
      refine V_iast C (by decide) hs7 dX11_forged_168 ?_
      refine V_aload_n C 1 dX11_forged_169 rfl ?_
      refine gf_X11_53 C dX11_forged_170 ?_
      refine V_iconst C dX11_forged_173 (v := (3 : Int32)) (by decide) ?_
      refine V_iload_n C 2 dX11_forged_174 rfl ?_
      refine V_imul C dX11_forged_175 ?_
      refine V_iconst C dX11_forged_176 (v := (2 : Int32)) (by decide) ?_
      refine V_iadd C dX11_forged_177 ?_
      refine V_iload C 10 dX11_forged_178 rfl ?_
      obtain ⟨σ8, hs8, hF⟩ := bnd hF
      refine V_iast C (by decide) hs8 dX11_forged_180 ?_
      refine V_aload_n C 1 dX11_forged_181 rfl ?_
      refine V_aload_n C 1 dX11_forged_182 rfl ?_
      obtain ⟨q9, hq9, hF⟩ := bnd hF
      refine cs_X11_185 C (ct_X11_all hq9) rfl ⟨by decide, by decide⟩ (Nat.le_of_ble_eq_true rfl) dX11_forged_183 ⟨Nat.le_refl 0, Nat.le_refl 0⟩ ?_
      obtain ⟨σ10, hs10, hF⟩ := bnd hF
      refine cs_X11_188 C (ct_X11_holdByRiders hs10) rfl ⟨by decide, by decide⟩ (Nat.le_of_ble_eq_true rfl) dX11_forged_186 ⟨Nat.le_refl 0, Nat.le_refl 0⟩ ?_
      refine V_iconst C dX11_forged_189 (v := (0 : Int32)) (by decide) ?_
      refine V_istore C (lv' := [(11, .int (0 : Int32)), (10, .int y0), (0, .ref (ad 11)), (1, .int x1), (2, .int x2), (3, .int x3), (4, .int x4), (5, .int x5), (6, .int x6), (7, .int x7), (8, .int x8), (9, .int x9)]) dX11_forged_190 (by decide) rfl ?_
      refine V_lv (ks := [2, 3, 4, 5, 6, 7, 8, 9, 10, 11, 0]) rfl ?_
      exact w_X11_forged_b192 C hr hlk kL48 hL48 4000 x1 x2 x3 x4 x5 x6 x7 x8 x9 (0 : Int32) σ10 hF
set_option maxHeartbeats 4000000 in
set_option maxRecDepth 20000 in
theorem w_X11_forged_b48 {p : Program} {l : Launch} {e : Env} {s : State} {m : MethodId} {args : Array Value} {below : List Frame} {meth : Method} {c : Code} {D : va_G} {T : Nat → ClassId} {ad zz : Nat → Nat} (C : Cx p s m c cX11_forged 12 RX11 (fA ad) D T ad zz) (hr : meth.sig.returnType = (some .int)) (hlk : meth.locks = false) {r : (Int32 × Mem)}  : ∀ (n : Nat), ∀ (x1 : Int32) (x2 : Int32) (x3 : Int32) (x4 : Int32) (x5 : Int32) (x6 : Int32) (σ : Mem), F_X11_forged_b48  n x1 x2 x3 x4 x5 x6 σ = some r → V p l e { frames := 6, cells := 0, slots := 0, locals := 142 } s m args below meth c 0 0 (MQ below (qC (some (.int r.1)) r.2 D T ad) args s 0 0 (fA ad)) 12 (fA ad) D T ad σ 48 [(0, .ref (ad 11)), (1, .int x1), (2, .int x2), (3, .int x3), (4, .int x4), (5, .int x5), (6, .int x6)] [] := by
  intro n
  induction n with
  | zero =>
    intro x1 x2 x3 x4 x5 x6 σ hF
    cases (show (none : Option (Int32 × Mem)) = some r from hF)
  | succ n ih =>
    intro x1 x2 x3 x4 x5 x6 σ hF
    rw [F_X11_forged_b48] at hF
    refine V_iload C 6 dX11_forged_48 rfl ?_
    refine V_sipush C dX11_forged_50 (v := (1000 : Int32)) (by decide) ?_
    refine V_icmp_ge C 266 dX11_forged_53 (by decide) hF (fun hF => ?_) (fun hF => ?_)
    · refine V_iload C 5 dX11_forged_266 rfl ?_
      refine V_bipush C dX11_forged_268 (v := (-9 : Int32)) (by decide) ?_
      refine V_icmp_ne C 278 dX11_forged_270 (by decide) hF (fun hF => ?_) (fun hF => ?_)
      · refine V_iload_n C 3 dX11_forged_278 rfl ?_
        refine V_if_ne C 287 dX11_forged_279 (by decide) hF (fun hF => ?_) (fun hF => ?_)
        · refine V_iload C 5 dX11_forged_287 rfl ?_
          cases hF
          exact V_iret C hr hlk rfl rfl dX11_forged_289
        · refine V_iload C 4 dX11_forged_282 rfl ?_
          refine V_goto C 289 dX11_forged_284 (by decide) ?_
          cases hF
          exact V_iret C hr hlk rfl rfl dX11_forged_289
      · refine V_bipush C dX11_forged_273 (v := (-9 : Int32)) (by decide) ?_
        refine V_goto C 289 dX11_forged_275 (by decide) ?_
        cases hF
        exact V_iret C hr hlk rfl rfl dX11_forged_289
    · refine V_iload C 6 dX11_forged_56 rfl ?_
      refine V_bipush C dX11_forged_58 (v := (100 : Int32)) (by decide) ?_
      refine V_idivc C dX11_forged_60 (by decide) ?_
      refine V_istore C (lv' := [(7, .int (x6 / (100 : Int32))), (0, .ref (ad 11)), (1, .int x1), (2, .int x2), (3, .int x3), (4, .int x4), (5, .int x5), (6, .int x6)]) dX11_forged_61 (by decide) rfl ?_
      refine V_iload C 7 dX11_forged_63 rfl ?_
      refine V_bipush C dX11_forged_65 (v := (10 : Int32)) (by decide) ?_
      refine V_idivc C dX11_forged_67 (by decide) ?_
      refine V_bipush C dX11_forged_68 (v := (10 : Int32)) (by decide) ?_
      refine V_iremc C dX11_forged_70 (by decide) ?_
      refine V_istore C (lv' := [(8, .int ((x6 / (10 : Int32)) - (x6 / (10 : Int32)) / (10 : Int32) * (10 : Int32))), (7, .int (x6 / (100 : Int32))), (0, .ref (ad 11)), (1, .int x1), (2, .int x2), (3, .int x3), (4, .int x4), (5, .int x5), (6, .int x6)]) dX11_forged_71 (by decide) rfl ?_
      refine V_iload C 8 dX11_forged_73 rfl ?_
      refine V_bipush C dX11_forged_75 (v := (10 : Int32)) (by decide) ?_
      refine V_iremc C dX11_forged_77 (by decide) ?_
      refine V_istore C (lv' := [(9, .int (x6 - x6 / (10 : Int32) * (10 : Int32))), (8, .int ((x6 / (10 : Int32)) - (x6 / (10 : Int32)) / (10 : Int32) * (10 : Int32))), (7, .int (x6 / (100 : Int32))), (0, .ref (ad 11)), (1, .int x1), (2, .int x2), (3, .int x3), (4, .int x4), (5, .int x5), (6, .int x6)]) dX11_forged_78 (by decide) rfl ?_
      refine V_aload_n C 3 dX11_forged_80 rfl ?_
      refine V_iload_n C 4 dX11_forged_81 rfl ?_
      refine V_iconst C dX11_forged_82 (v := (0 : Int32)) (by decide) ?_
      obtain ⟨q5, hq5, hF⟩ := bnd hF
      refine cs_X11_103 C (ct_X11_shows hq5) rfl ⟨by decide, by decide⟩ (Nat.le_of_ble_eq_true rfl) dX11_forged_83 ⟨Nat.le_refl 0, Nat.le_refl 0⟩ ?_
      refine V_iload C 2 dX11_forged_86 rfl ?_
      refine V_iadd C dX11_forged_88 ?_
      refine V_bipush C dX11_forged_89 (v := (9 : Int32)) (by decide) ?_
      refine V_icmp_gt C 126 dX11_forged_91 (by decide) hF (fun hF => ?_) (fun hF => ?_)
      · refine V_iconst C dX11_forged_126 (v := (0 : Int32)) (by decide) ?_
        refine V_lv (ks := [3, 4, 5, 6, 7, 8, 9, 2, 1, 0]) rfl ?_
        exact w_X11_forged_b127 C hr hlk (F_X11_forged_b48 n) ih x1 x2 x3 x4 x5 x6 (x6 / (100 : Int32)) ((x6 / (10 : Int32)) - (x6 / (10 : Int32)) / (10 : Int32) * (10 : Int32)) (x6 - x6 / (10 : Int32) * (10 : Int32)) (0 : Int32) σ hF
      · refine V_aload_n C 3 dX11_forged_94 rfl ?_
        refine V_iload_n C 4 dX11_forged_95 rfl ?_
        refine V_iconst C dX11_forged_96 (v := (1 : Int32)) (by decide) ?_
        obtain ⟨q15, hq15, hF⟩ := bnd hF
        refine cs_X11_103 C (ct_X11_shows hq15) rfl ⟨by decide, by decide⟩ (Nat.le_of_ble_eq_true rfl) dX11_forged_97 ⟨Nat.le_refl 0, Nat.le_refl 0⟩ ?_
        refine V_iload C 1 dX11_forged_100 rfl ?_
        refine V_iadd C dX11_forged_102 ?_
        refine V_bipush C dX11_forged_103 (v := (9 : Int32)) (by decide) ?_
        refine V_icmp_gt C 126 dX11_forged_105 (by decide) hF (fun hF => ?_) (fun hF => ?_)
        · refine V_iconst C dX11_forged_126 (v := (0 : Int32)) (by decide) ?_
          refine V_lv (ks := [3, 4, 5, 6, 7, 8, 9, 2, 1, 0]) rfl ?_
          exact w_X11_forged_b127 C hr hlk (F_X11_forged_b48 n) ih x1 x2 x3 x4 x5 x6 (x6 / (100 : Int32)) ((x6 / (10 : Int32)) - (x6 / (10 : Int32)) / (10 : Int32) * (10 : Int32)) (x6 - x6 / (10 : Int32) * (10 : Int32)) (0 : Int32) σ hF
        · refine V_aload_n C 3 dX11_forged_108 rfl ?_
          refine V_iload_n C 4 dX11_forged_109 rfl ?_
          refine V_iconst C dX11_forged_110 (v := (2 : Int32)) (by decide) ?_
          obtain ⟨q16, hq16, hF⟩ := bnd hF
          refine cs_X11_103 C (ct_X11_shows hq16) rfl ⟨by decide, by decide⟩ (Nat.le_of_ble_eq_true rfl) dX11_forged_111 ⟨Nat.le_refl 0, Nat.le_refl 0⟩ ?_
          refine V_iload C 0 dX11_forged_114 rfl ?_
          refine V_iadd C dX11_forged_116 ?_
          refine V_bipush C dX11_forged_117 (v := (9 : Int32)) (by decide) ?_
          refine V_icmp_gt C 126 dX11_forged_119 (by decide) hF (fun hF => ?_) (fun hF => ?_)
          · refine V_iconst C dX11_forged_126 (v := (0 : Int32)) (by decide) ?_
            refine V_lv (ks := [3, 4, 5, 6, 7, 8, 9, 2, 1, 0]) rfl ?_
            exact w_X11_forged_b127 C hr hlk (F_X11_forged_b48 n) ih x1 x2 x3 x4 x5 x6 (x6 / (100 : Int32)) ((x6 / (10 : Int32)) - (x6 / (10 : Int32)) / (10 : Int32) * (10 : Int32)) (x6 - x6 / (10 : Int32) * (10 : Int32)) (0 : Int32) σ hF
          · refine V_iconst C dX11_forged_122 (v := (1 : Int32)) (by decide) ?_
            refine V_goto C 127 dX11_forged_123 (by decide) ?_
            refine V_lv (ks := [3, 4, 5, 6, 7, 8, 9, 2, 1, 0]) rfl ?_
            exact w_X11_forged_b127 C hr hlk (F_X11_forged_b48 n) ih x1 x2 x3 x4 x5 x6 (x6 / (100 : Int32)) ((x6 / (10 : Int32)) - (x6 / (10 : Int32)) / (10 : Int32) * (10 : Int32)) (x6 - x6 / (10 : Int32) * (10 : Int32)) (1 : Int32) σ hF
set_option maxHeartbeats 4000000 in
set_option maxRecDepth 20000 in
theorem ct_X11_forged {a1 : Int32} {a2 : Int32} {a3 : Int32} {σ : Mem} {r : (Int32 × Mem)} (hF : F_X11_forged a1 a2 a3 σ = some r) : Ct yX11_forged cX11_forged 12 (some .int) 6 142 (fun ad zz => [.ref (ad 11), .int a1, .int a2, .int a3]) σ (fun ad => (some (.int r.1))) r.2 := by
  refine Ct_of (by decide +kernel) (lv := fun ad zz => [(0, .ref (ad 11)), (1, .int a1), (2, .int a2), (3, .int a3)]) (fun _ _ => rfl) (fun _ _ => Nat.le_of_ble_eq_true rfl) (fun p l e s m args below meth c D T ad zz C hr hlk => ?_)
  rw [F_X11_forged] at hF
  refine V_aload_n C 0 dX11_forged_0 rfl ?_
  refine V_iconst C dX11_forged_1 (v := (0 : Int32)) (by decide) ?_
  obtain ⟨σ1, hs1, hF⟩ := bnd hF
  refine pf_X11_56 C hs1 dX11_forged_2 ?_
  refine V_aload_n C 0 dX11_forged_5 rfl ?_
  refine V_iload_n C 1 dX11_forged_6 rfl ?_
  obtain ⟨q2, hq2, hF⟩ := bnd hF
  refine cs_X11_153 C (ct_X11_noRider hq2) rfl ⟨by decide, by decide⟩ (Nat.le_of_ble_eq_true rfl) dX11_forged_7 ⟨Nat.le_refl 0, Nat.le_refl 0⟩ ?_
  refine V_if_ne C 21 dX11_forged_10 (by decide) hF (fun hF => ?_) (fun hF => ?_)
  · refine V_iconst C dX11_forged_21 (v := (-1 : Int32)) (by decide) ?_
    cases hF
    exact V_iret C hr hlk rfl rfl dX11_forged_22
  · refine V_aload_n C 0 dX11_forged_13 rfl ?_
    refine V_iload_n C 2 dX11_forged_14 rfl ?_
    obtain ⟨q3, hq3, hF⟩ := bnd hF
    refine cs_X11_149 C (ct_X11_noHorse hq3) rfl ⟨by decide, by decide⟩ (Nat.le_of_ble_eq_true rfl) dX11_forged_15 ⟨Nat.le_refl 0, Nat.le_refl 0⟩ ?_
    refine V_if_eq C 23 dX11_forged_18 (by decide) hF (fun hF => ?_) (fun hF => ?_)
    · refine V_iload_n C 3 dX11_forged_23 rfl ?_
      refine V_i2l C dX11_forged_24 ?_
      refine V_lconst C dX11_forged_25 (v := (0 : Int64)) (by decide) ?_
      refine V_lconst C dX11_forged_26 (v := (1 : Int64)) (by decide) ?_
      obtain ⟨q4, hq4, hF⟩ := bnd hF
      refine cs_X11_63 C (ct_X11_in hq4) rfl ⟨by decide, by decide⟩ (Nat.le_of_ble_eq_true rfl) dX11_forged_27 ⟨Nat.le_refl 0, Nat.le_refl 0⟩ ?_
      refine V_if_ne C 36 dX11_forged_30 (by decide) hF (fun hF => ?_) (fun hF => ?_)
      · refine V_sipush C dX11_forged_36 (v := (9999 : Int32)) (by decide) ?_
        refine V_istore C (lv' := [(4, .int (9999 : Int32)), (0, .ref (ad 11)), (1, .int a1), (2, .int a2), (3, .int a3)]) dX11_forged_39 (by decide) rfl ?_
        refine V_bipush C dX11_forged_41 (v := (-9 : Int32)) (by decide) ?_
        refine V_istore C (lv' := [(5, .int (-9 : Int32)), (4, .int (9999 : Int32)), (0, .ref (ad 11)), (1, .int a1), (2, .int a2), (3, .int a3)]) dX11_forged_43 (by decide) rfl ?_
        refine V_iconst C dX11_forged_45 (v := (0 : Int32)) (by decide) ?_
        refine V_istore C (lv' := [(6, .int (0 : Int32)), (5, .int (-9 : Int32)), (4, .int (9999 : Int32)), (0, .ref (ad 11)), (1, .int a1), (2, .int a2), (3, .int a3)]) dX11_forged_46 (by decide) rfl ?_
        refine V_lv (ks := [3, 4, 5, 6, 2, 1, 0]) rfl ?_
        exact w_X11_forged_b48 C hr hlk 4000 a1 a2 a3 (9999 : Int32) (-9 : Int32) (0 : Int32) σ1 hF
      · refine V_bipush C dX11_forged_33 (v := (-2 : Int32)) (by decide) ?_
        cases hF
        exact V_iret C hr hlk rfl rfl dX11_forged_35
    · refine V_iconst C dX11_forged_21 (v := (-1 : Int32)) (by decide) ?_
      cases hF
      exact V_iret C hr hlk rfl rfl dX11_forged_22

def F_X11_left_b17  : Nat → Int32 → Int32 → Mem → Option (Int32 × Mem)
  | 0, _, _, _ => none
  | n + 1, x1, x2, σ =>
    if (σ.1 23) ≤ x2 then
      some (x1, σ)
    else
      Option.bind (F_X11_isFull 63 x2 σ) fun q4 =>
      if q4 = 0 then
        (F_X11_left_b17 n) (x1 ||| ((1 : Int32) <<< (x2 &&& 31))) (x2 + 1) σ
      else
        (F_X11_left_b17 n) (x1 ||| (0 : Int32)) (x2 + 1) σ
def F_X11_left (σ : Mem) : Option (Int32 × Mem) :=
  Option.bind (stI σ 20 (0 : Int32)) fun σ1 =>
  Option.bind (F_X11_all σ1) fun q2 =>
  Option.bind (F_X11_holdByRiders q2 σ1) fun σ3 =>
  F_X11_left_b17 4000 (0 : Int32) (0 : Int32) σ3
set_option maxHeartbeats 4000000 in
set_option maxRecDepth 20000 in
theorem w_X11_left_b17 {p : Program} {l : Launch} {e : Env} {s : State} {m : MethodId} {args : Array Value} {below : List Frame} {meth : Method} {c : Code} {D : va_G} {T : Nat → ClassId} {ad zz : Nat → Nat} (C : Cx p s m c cX11_left 3 RX11 (fA ad) D T ad zz) (hr : meth.sig.returnType = (some .int)) (hlk : meth.locks = false) {r : (Int32 × Mem)}  : ∀ (n : Nat), ∀ (x1 : Int32) (x2 : Int32) (σ : Mem), F_X11_left_b17  n x1 x2 σ = some r → V p l e { frames := 6, cells := 0, slots := 0, locals := 142 } s m args below meth c 0 0 (MQ below (qC (some (.int r.1)) r.2 D T ad) args s 0 0 (fA ad)) 3 (fA ad) D T ad σ 17 [(0, .ref (ad 11)), (1, .int x1), (2, .int x2)] [] := by
  intro n
  induction n with
  | zero =>
    intro x1 x2 σ hF
    cases (show (none : Option (Int32 × Mem)) = some r from hF)
  | succ n ih =>
    intro x1 x2 σ hF
    rw [F_X11_left_b17] at hF
    refine V_iload_n C 2 dX11_left_17 rfl ?_
    refine V_aload_n C 0 dX11_left_18 rfl ?_
    refine gf_X11_60 C dX11_left_19 ?_
    refine V_icmp_ge C 53 dX11_left_22 (by decide) hF (fun hF => ?_) (fun hF => ?_)
    · refine V_iload_n C 1 dX11_left_53 rfl ?_
      cases hF
      exact V_iret C hr hlk rfl rfl dX11_left_54
    · refine V_iload_n C 1 dX11_left_25 rfl ?_
      refine V_aload_n C 0 dX11_left_26 rfl ?_
      refine V_aload_n C 0 dX11_left_27 rfl ?_
      refine gf_X11_44 C dX11_left_28 ?_
      refine V_iload_n C 2 dX11_left_31 rfl ?_
      obtain ⟨q4, hq4, hF⟩ := bnd hF
      refine cs_X11_128 C (ct_X11_isFull (by decide) hq4) rfl ⟨by decide, by decide⟩ (Nat.le_of_ble_eq_true rfl) dX11_left_32 ⟨Nat.le_refl 0, Nat.le_refl 0⟩ ?_
      refine V_if_eq C 42 dX11_left_35 (by decide) hF (fun hF => ?_) (fun hF => ?_)
      · refine V_iconst C dX11_left_42 (v := (1 : Int32)) (by decide) ?_
        refine V_iload_n C 2 dX11_left_43 rfl ?_
        refine V_ishl C dX11_left_44 ?_
        refine V_ior C dX11_left_45 ?_
        refine V_istore_n C (lv' := [(1, .int (x1 ||| ((1 : Int32) <<< (x2 &&& 31)))), (0, .ref (ad 11)), (2, .int x2)]) dX11_left_46 rfl (by decide) rfl ?_
        refine V_iinc C (v := (x2 + 1)) (lv' := [(2, .int (x2 + 1)), (1, .int (x1 ||| ((1 : Int32) <<< (x2 &&& 31)))), (0, .ref (ad 11))]) 2 dX11_left_47 rfl rfl (by decide) rfl ?_
        refine V_goto C 17 dX11_left_50 (by decide) ?_
        refine V_lv (ks := [2, 1, 0]) rfl ?_
        exact ih (x1 ||| ((1 : Int32) <<< (x2 &&& 31))) (x2 + 1) σ hF
      · refine V_iconst C dX11_left_38 (v := (0 : Int32)) (by decide) ?_
        refine V_goto C 45 dX11_left_39 (by decide) ?_
        refine V_ior C dX11_left_45 ?_
        refine V_istore_n C (lv' := [(1, .int (x1 ||| (0 : Int32))), (0, .ref (ad 11)), (2, .int x2)]) dX11_left_46 rfl (by decide) rfl ?_
        refine V_iinc C (v := (x2 + 1)) (lv' := [(2, .int (x2 + 1)), (1, .int (x1 ||| (0 : Int32))), (0, .ref (ad 11))]) 2 dX11_left_47 rfl rfl (by decide) rfl ?_
        refine V_goto C 17 dX11_left_50 (by decide) ?_
        refine V_lv (ks := [2, 1, 0]) rfl ?_
        exact ih (x1 ||| (0 : Int32)) (x2 + 1) σ hF
set_option maxHeartbeats 4000000 in
set_option maxRecDepth 20000 in
theorem ct_X11_left {σ : Mem} {r : (Int32 × Mem)} (hF : F_X11_left σ = some r) : Ct yX11_left cX11_left 3 (some .int) 6 142 (fun ad zz => [.ref (ad 11)]) σ (fun ad => (some (.int r.1))) r.2 := by
  refine Ct_of (by decide +kernel) (lv := fun ad zz => [(0, .ref (ad 11))]) (fun _ _ => rfl) (fun _ _ => Nat.le_of_ble_eq_true rfl) (fun p l e s m args below meth c D T ad zz C hr hlk => ?_)
  rw [F_X11_left] at hF
  refine V_aload_n C 0 dX11_left_0 rfl ?_
  refine V_iconst C dX11_left_1 (v := (0 : Int32)) (by decide) ?_
  obtain ⟨σ1, hs1, hF⟩ := bnd hF
  refine pf_X11_56 C hs1 dX11_left_2 ?_
  refine V_aload_n C 0 dX11_left_5 rfl ?_
  refine V_aload_n C 0 dX11_left_6 rfl ?_
  obtain ⟨q2, hq2, hF⟩ := bnd hF
  refine cs_X11_185 C (ct_X11_all hq2) rfl ⟨by decide, by decide⟩ (Nat.le_of_ble_eq_true rfl) dX11_left_7 ⟨Nat.le_refl 0, Nat.le_refl 0⟩ ?_
  obtain ⟨σ3, hs3, hF⟩ := bnd hF
  refine cs_X11_188 C (ct_X11_holdByRiders hs3) rfl ⟨by decide, by decide⟩ (Nat.le_of_ble_eq_true rfl) dX11_left_10 ⟨Nat.le_refl 0, Nat.le_refl 0⟩ ?_
  refine V_iconst C dX11_left_13 (v := (0 : Int32)) (by decide) ?_
  refine V_istore_n C (lv' := [(1, .int (0 : Int32)), (0, .ref (ad 11))]) dX11_left_14 rfl (by decide) rfl ?_
  refine V_iconst C dX11_left_15 (v := (0 : Int32)) (by decide) ?_
  refine V_istore_n C (lv' := [(2, .int (0 : Int32)), (1, .int (0 : Int32)), (0, .ref (ad 11))]) dX11_left_16 rfl (by decide) rfl ?_
  refine V_lv (ks := [2, 1, 0]) rfl ?_
  exact w_X11_left_b17 C hr hlk 4000 (0 : Int32) (0 : Int32) σ3 hF

def F_X11_findRace_b103 (kL9 : Int32 → Int32 → Mem → Option (Int32 × Mem)) : Nat → Int32 → Int32 → Mem → Option (Int32 × Mem)
  | 0, _, _, _ => none
  | n + 1, x1, x4, σ =>
    if (σ.1 24) ≤ x4 then
      Option.bind (F_X11_nextWay σ) fun q5 =>
      kL9 x1 q5.1 q5.2
    else
      Option.bind (rdA σ 64 x4) fun v6 =>
      Option.bind (wrA σ 65 x4 v6) fun σ7 =>
      (F_X11_findRace_b103 kL9 n) x1 (x4 + 1) σ7
def F_X11_findRace_b25 (kL9 : Int32 → Int32 → Mem → Option (Int32 × Mem)) : Nat → Int32 → Int32 → Int32 → Mem → Option (Int32 × Mem)
  | 0, _, _, _, _ => none
  | n + 1, x1, x3, x4, σ =>
    if (σ.1 24) ≤ x4 then
      if x3 ≤ x1 then
        Option.bind (F_X11_nextWay σ) fun q4 =>
        kL9 x1 q4.1 q4.2
      else
        F_X11_findRace_b103 kL9 4000 x3 (0 : Int32) σ
    else
      Option.bind (rdA σ 64 x4) fun v8 =>
      if v8 = (-9 : Int32) then
        (F_X11_findRace_b25 kL9 n) x1 (x3 + (0 : Int32)) (x4 + 1) σ
      else
        Option.bind (rdA σ 64 x4) fun v9 =>
        Option.bind (rdA σ 54 (((7 : Int32) * v9) + (4 : Int32))) fun v10 =>
        Option.bind (rdA σ 64 x4) fun v11 =>
        Option.bind (F_X11_worthOf v11 x4 σ) fun q12 =>
        (F_X11_findRace_b25 kL9 n) x1 (x3 + (v10 + (q12 / (10 : Int32)))) (x4 + 1) σ
def F_X11_findRace_b9  : Nat → Int32 → Int32 → Mem → Option (Int32 × Mem)
  | 0, _, _, _ => none
  | n + 1, x1, x2, σ =>
    if x2 = 0 then
      some (x1, σ)
    else
      Option.bind (F_X11_isWay σ) fun q2 =>
      if q2 = 0 then
        Option.bind (F_X11_nextWay σ) fun q3 =>
        (F_X11_findRace_b9 n) x1 q3.1 q3.2
      else
        F_X11_findRace_b25 (F_X11_findRace_b9 n) 4000 x1 (0 : Int32) (0 : Int32) σ
def F_X11_findRace (σ : Mem) : Option (Int32 × Mem) :=
  Option.bind (F_X11_firstWay σ) fun σ1 =>
  F_X11_findRace_b9 4000 (-9 : Int32) (1 : Int32) σ1
set_option maxHeartbeats 4000000 in
set_option maxRecDepth 20000 in
theorem w_X11_findRace_b103 {p : Program} {l : Launch} {e : Env} {s : State} {m : MethodId} {args : Array Value} {below : List Frame} {meth : Method} {c : Code} {D : va_G} {T : Nat → ClassId} {ad zz : Nat → Nat} (C : Cx p s m c cX11_findRace 5 RX11 (fA ad) D T ad zz) (hr : meth.sig.returnType = (some .int)) (hlk : meth.locks = false) {r : (Int32 × Mem)} (kL9 : Int32 → Int32 → Mem → Option (Int32 × Mem)) (hL9 : ∀ (x1 : Int32) (x2 : Int32) (σ : Mem), kL9 x1 x2 σ = some r → V p l e { frames := 2, cells := 0, slots := 0, locals := 47 } s m args below meth c 0 0 (MQ below (qC (some (.int r.1)) r.2 D T ad) args s 0 0 (fA ad)) 5 (fA ad) D T ad σ 9 [(0, .ref (ad 11)), (1, .int x1), (2, .int x2)] []) : ∀ (n : Nat), ∀ (x1 : Int32) (x4 : Int32) (σ : Mem), F_X11_findRace_b103 kL9 n x1 x4 σ = some r → V p l e { frames := 2, cells := 0, slots := 0, locals := 47 } s m args below meth c 0 0 (MQ below (qC (some (.int r.1)) r.2 D T ad) args s 0 0 (fA ad)) 5 (fA ad) D T ad σ 103 [(0, .ref (ad 11)), (1, .int x1), (4, .int x4)] [] := by
  intro n
  induction n with
  | zero =>
    intro x1 x4 σ hF
    cases (show (none : Option (Int32 × Mem)) = some r from hF)
  | succ n ih =>
    intro x1 x4 σ hF
    rw [F_X11_findRace_b103] at hF
    refine V_iload C 2 dX11_findRace_103 rfl ?_
    refine V_aload_n C 0 dX11_findRace_105 rfl ?_
    refine gf_X11_67 C dX11_findRace_106 ?_
    refine V_icmp_ge C 132 dX11_findRace_109 (by decide) hF (fun hF => ?_) (fun hF => ?_)
    · refine V_aload_n C 0 dX11_findRace_132 rfl ?_
      obtain ⟨q5, hq5, hF⟩ := bnd hF
      refine cs_X11_204 C (ct_X11_nextWay hq5) rfl ⟨by decide, by decide⟩ (Nat.le_of_ble_eq_true rfl) dX11_findRace_133 ⟨Nat.le_refl 0, Nat.le_refl 0⟩ ?_
      refine V_istore_n C (lv' := [(2, .int q5.1), (0, .ref (ad 11)), (1, .int x1), (4, .int x4)]) dX11_findRace_136 rfl (by decide) rfl ?_
      refine V_goto C 9 dX11_findRace_137 (by decide) ?_
      refine V_lv (ks := [1, 2, 0]) rfl ?_
      exact hL9 x1 q5.1 q5.2 hF
    · refine V_aload_n C 0 dX11_findRace_112 rfl ?_
      refine gf_X11_50 C dX11_findRace_113 ?_
      refine V_iload C 2 dX11_findRace_116 rfl ?_
      refine V_aload_n C 0 dX11_findRace_118 rfl ?_
      refine gf_X11_47 C dX11_findRace_119 ?_
      refine V_iload C 2 dX11_findRace_122 rfl ?_
      obtain ⟨v6, hv6, hF⟩ := bnd hF
      refine V_iald C (by decide) hv6 dX11_findRace_124 ?_
      obtain ⟨σ7, hs7, hF⟩ := bnd hF
      refine V_iast C (by decide) hs7 dX11_findRace_125 ?_
      refine V_iinc C (v := (x4 + 1)) (lv' := [(4, .int (x4 + 1)), (0, .ref (ad 11)), (1, .int x1)]) 2 dX11_findRace_126 rfl rfl (by decide) rfl ?_
      refine V_goto C 103 dX11_findRace_129 (by decide) ?_
      refine V_lv (ks := [1, 2, 0]) rfl ?_
      exact ih x1 (x4 + 1) σ7 hF
set_option maxHeartbeats 4000000 in
set_option maxRecDepth 20000 in
theorem w_X11_findRace_b25 {p : Program} {l : Launch} {e : Env} {s : State} {m : MethodId} {args : Array Value} {below : List Frame} {meth : Method} {c : Code} {D : va_G} {T : Nat → ClassId} {ad zz : Nat → Nat} (C : Cx p s m c cX11_findRace 5 RX11 (fA ad) D T ad zz) (hr : meth.sig.returnType = (some .int)) (hlk : meth.locks = false) {r : (Int32 × Mem)} (kL9 : Int32 → Int32 → Mem → Option (Int32 × Mem)) (hL9 : ∀ (x1 : Int32) (x2 : Int32) (σ : Mem), kL9 x1 x2 σ = some r → V p l e { frames := 2, cells := 0, slots := 0, locals := 47 } s m args below meth c 0 0 (MQ below (qC (some (.int r.1)) r.2 D T ad) args s 0 0 (fA ad)) 5 (fA ad) D T ad σ 9 [(0, .ref (ad 11)), (1, .int x1), (2, .int x2)] []) : ∀ (n : Nat), ∀ (x1 : Int32) (x3 : Int32) (x4 : Int32) (σ : Mem), F_X11_findRace_b25 kL9 n x1 x3 x4 σ = some r → V p l e { frames := 2, cells := 0, slots := 0, locals := 47 } s m args below meth c 0 0 (MQ below (qC (some (.int r.1)) r.2 D T ad) args s 0 0 (fA ad)) 5 (fA ad) D T ad σ 25 [(0, .ref (ad 11)), (1, .int x1), (3, .int x3), (4, .int x4)] [] := by
  intro n
  induction n with
  | zero =>
    intro x1 x3 x4 σ hF
    cases (show (none : Option (Int32 × Mem)) = some r from hF)
  | succ n ih =>
    intro x1 x3 x4 σ hF
    rw [F_X11_findRace_b25] at hF
    refine V_iload C 3 dX11_findRace_25 rfl ?_
    refine V_aload_n C 0 dX11_findRace_27 rfl ?_
    refine gf_X11_67 C dX11_findRace_28 ?_
    refine V_icmp_ge C 93 dX11_findRace_31 (by decide) hF (fun hF => ?_) (fun hF => ?_)
    · refine V_iload_n C 2 dX11_findRace_93 rfl ?_
      refine V_iload_n C 1 dX11_findRace_94 rfl ?_
      refine V_icmp_le C 132 dX11_findRace_95 (by decide) hF (fun hF => ?_) (fun hF => ?_)
      · refine V_aload_n C 0 dX11_findRace_132 rfl ?_
        obtain ⟨q4, hq4, hF⟩ := bnd hF
        refine cs_X11_204 C (ct_X11_nextWay hq4) rfl ⟨by decide, by decide⟩ (Nat.le_of_ble_eq_true rfl) dX11_findRace_133 ⟨Nat.le_refl 0, Nat.le_refl 0⟩ ?_
        refine V_istore_n C (lv' := [(2, .int q4.1), (0, .ref (ad 11)), (1, .int x1), (3, .int x3), (4, .int x4)]) dX11_findRace_136 rfl (by decide) rfl ?_
        refine V_goto C 9 dX11_findRace_137 (by decide) ?_
        refine V_lv (ks := [1, 2, 0]) rfl ?_
        exact hL9 x1 q4.1 q4.2 hF
      · refine V_iload_n C 2 dX11_findRace_98 rfl ?_
        refine V_istore_n C (lv' := [(1, .int x3), (0, .ref (ad 11)), (3, .int x3), (4, .int x4)]) dX11_findRace_99 rfl (by decide) rfl ?_
        refine V_iconst C dX11_findRace_100 (v := (0 : Int32)) (by decide) ?_
        refine V_istore C (lv' := [(4, .int (0 : Int32)), (1, .int x3), (0, .ref (ad 11)), (3, .int x3)]) dX11_findRace_101 (by decide) rfl ?_
        refine V_lv (ks := [2, 1, 0]) rfl ?_
        exact w_X11_findRace_b103 C hr hlk kL9 hL9 4000 x3 (0 : Int32) σ hF
    · refine V_iload_n C 2 dX11_findRace_34 rfl ?_
      refine V_aload_n C 0 dX11_findRace_35 rfl ?_
      refine gf_X11_47 C dX11_findRace_36 ?_
      refine V_iload C 3 dX11_findRace_39 rfl ?_
      obtain ⟨v8, hv8, hF⟩ := bnd hF
      refine V_iald C (by decide) hv8 dX11_findRace_41 ?_
      refine V_bipush C dX11_findRace_42 (v := (-9 : Int32)) (by decide) ?_
      refine V_icmp_ne C 51 dX11_findRace_44 (by decide) hF (fun hF => ?_) (fun hF => ?_)
      · refine V_aload_n C 0 dX11_findRace_51 rfl ?_
        refine gf_X11_13 C dX11_findRace_52 ?_
        refine V_bipush C dX11_findRace_55 (v := (7 : Int32)) (by decide) ?_
        refine V_aload_n C 0 dX11_findRace_57 rfl ?_
        refine gf_X11_47 C dX11_findRace_58 ?_
        refine V_iload C 3 dX11_findRace_61 rfl ?_
        obtain ⟨v9, hv9, hF⟩ := bnd hF
        refine V_iald C (by decide) hv9 dX11_findRace_63 ?_
        refine V_imul C dX11_findRace_64 ?_
        refine V_iconst C dX11_findRace_65 (v := (4 : Int32)) (by decide) ?_
        refine V_iadd C dX11_findRace_66 ?_
        obtain ⟨v10, hv10, hF⟩ := bnd hF
        refine V_iald C (by decide) hv10 dX11_findRace_67 ?_
        refine V_aload_n C 0 dX11_findRace_68 rfl ?_
        refine V_aload_n C 0 dX11_findRace_69 rfl ?_
        refine gf_X11_47 C dX11_findRace_70 ?_
        refine V_iload C 3 dX11_findRace_73 rfl ?_
        obtain ⟨v11, hv11, hF⟩ := bnd hF
        refine V_iald C (by decide) hv11 dX11_findRace_75 ?_
        refine V_iload C 3 dX11_findRace_76 rfl ?_
        obtain ⟨q12, hq12, hF⟩ := bnd hF
        refine cs_X11_106 C (ct_X11_worthOf hq12) rfl ⟨by decide, by decide⟩ (Nat.le_of_ble_eq_true rfl) dX11_findRace_78 ⟨Nat.le_refl 0, Nat.le_refl 0⟩ ?_
        refine V_bipush C dX11_findRace_81 (v := (10 : Int32)) (by decide) ?_
        refine V_idivc C dX11_findRace_83 (by decide) ?_
        refine V_iadd C dX11_findRace_84 ?_
        refine V_iadd C dX11_findRace_85 ?_
        refine V_istore_n C (lv' := [(3, .int (x3 + (v10 + (q12 / (10 : Int32))))), (0, .ref (ad 11)), (1, .int x1), (4, .int x4)]) dX11_findRace_86 rfl (by decide) rfl ?_
        refine V_iinc C (v := (x4 + 1)) (lv' := [(4, .int (x4 + 1)), (3, .int (x3 + (v10 + (q12 / (10 : Int32))))), (0, .ref (ad 11)), (1, .int x1)]) 3 dX11_findRace_87 rfl rfl (by decide) rfl ?_
        refine V_goto C 25 dX11_findRace_90 (by decide) ?_
        refine V_lv (ks := [2, 3, 1, 0]) rfl ?_
        exact ih x1 (x3 + (v10 + (q12 / (10 : Int32)))) (x4 + 1) σ hF
      · refine V_iconst C dX11_findRace_47 (v := (0 : Int32)) (by decide) ?_
        refine V_goto C 85 dX11_findRace_48 (by decide) ?_
        refine V_iadd C dX11_findRace_85 ?_
        refine V_istore_n C (lv' := [(3, .int (x3 + (0 : Int32))), (0, .ref (ad 11)), (1, .int x1), (4, .int x4)]) dX11_findRace_86 rfl (by decide) rfl ?_
        refine V_iinc C (v := (x4 + 1)) (lv' := [(4, .int (x4 + 1)), (3, .int (x3 + (0 : Int32))), (0, .ref (ad 11)), (1, .int x1)]) 3 dX11_findRace_87 rfl rfl (by decide) rfl ?_
        refine V_goto C 25 dX11_findRace_90 (by decide) ?_
        refine V_lv (ks := [2, 3, 1, 0]) rfl ?_
        exact ih x1 (x3 + (0 : Int32)) (x4 + 1) σ hF
set_option maxHeartbeats 4000000 in
set_option maxRecDepth 20000 in
theorem w_X11_findRace_b9 {p : Program} {l : Launch} {e : Env} {s : State} {m : MethodId} {args : Array Value} {below : List Frame} {meth : Method} {c : Code} {D : va_G} {T : Nat → ClassId} {ad zz : Nat → Nat} (C : Cx p s m c cX11_findRace 5 RX11 (fA ad) D T ad zz) (hr : meth.sig.returnType = (some .int)) (hlk : meth.locks = false) {r : (Int32 × Mem)}  : ∀ (n : Nat), ∀ (x1 : Int32) (x2 : Int32) (σ : Mem), F_X11_findRace_b9  n x1 x2 σ = some r → V p l e { frames := 2, cells := 0, slots := 0, locals := 47 } s m args below meth c 0 0 (MQ below (qC (some (.int r.1)) r.2 D T ad) args s 0 0 (fA ad)) 5 (fA ad) D T ad σ 9 [(0, .ref (ad 11)), (1, .int x1), (2, .int x2)] [] := by
  intro n
  induction n with
  | zero =>
    intro x1 x2 σ hF
    cases (show (none : Option (Int32 × Mem)) = some r from hF)
  | succ n ih =>
    intro x1 x2 σ hF
    rw [F_X11_findRace_b9] at hF
    refine V_iload_n C 2 dX11_findRace_9 rfl ?_
    refine V_if_eq C 140 dX11_findRace_10 (by decide) hF (fun hF => ?_) (fun hF => ?_)
    · refine V_iload_n C 1 dX11_findRace_140 rfl ?_
      cases hF
      exact V_iret C hr hlk rfl rfl dX11_findRace_141
    · refine V_aload_n C 0 dX11_findRace_13 rfl ?_
      obtain ⟨q2, hq2, hF⟩ := bnd hF
      refine cs_X11_192 C (ct_X11_isWay hq2) rfl ⟨by decide, by decide⟩ (Nat.le_of_ble_eq_true rfl) dX11_findRace_14 ⟨Nat.le_refl 0, Nat.le_refl 0⟩ ?_
      refine V_if_eq C 132 dX11_findRace_17 (by decide) hF (fun hF => ?_) (fun hF => ?_)
      · refine V_aload_n C 0 dX11_findRace_132 rfl ?_
        obtain ⟨q3, hq3, hF⟩ := bnd hF
        refine cs_X11_204 C (ct_X11_nextWay hq3) rfl ⟨by decide, by decide⟩ (Nat.le_of_ble_eq_true rfl) dX11_findRace_133 ⟨Nat.le_refl 0, Nat.le_refl 0⟩ ?_
        refine V_istore_n C (lv' := [(2, .int q3.1), (0, .ref (ad 11)), (1, .int x1)]) dX11_findRace_136 rfl (by decide) rfl ?_
        refine V_goto C 9 dX11_findRace_137 (by decide) ?_
        refine V_lv (ks := [1, 2, 0]) rfl ?_
        exact ih x1 q3.1 q3.2 hF
      · refine V_iconst C dX11_findRace_20 (v := (0 : Int32)) (by decide) ?_
        refine V_istore_n C (lv' := [(3, .int (0 : Int32)), (0, .ref (ad 11)), (1, .int x1), (2, .int x2)]) dX11_findRace_21 rfl (by decide) rfl ?_
        refine V_iconst C dX11_findRace_22 (v := (0 : Int32)) (by decide) ?_
        refine V_istore C (lv' := [(4, .int (0 : Int32)), (3, .int (0 : Int32)), (0, .ref (ad 11)), (1, .int x1), (2, .int x2)]) dX11_findRace_23 (by decide) rfl ?_
        refine V_lv (ks := [2, 3, 1, 0]) rfl ?_
        exact w_X11_findRace_b25 C hr hlk (F_X11_findRace_b9 n) ih 4000 x1 (0 : Int32) (0 : Int32) σ hF
set_option maxHeartbeats 4000000 in
set_option maxRecDepth 20000 in
theorem ct_X11_findRace {σ : Mem} {r : (Int32 × Mem)} (hF : F_X11_findRace σ = some r) : Ct yX11_findRace cX11_findRace 5 (some .int) 2 47 (fun ad zz => [.ref (ad 11)]) σ (fun ad => (some (.int r.1))) r.2 := by
  refine Ct_of (by decide +kernel) (lv := fun ad zz => [(0, .ref (ad 11))]) (fun _ _ => rfl) (fun _ _ => Nat.le_of_ble_eq_true rfl) (fun p l e s m args below meth c D T ad zz C hr hlk => ?_)
  rw [F_X11_findRace] at hF
  refine V_bipush C dX11_findRace_0 (v := (-9 : Int32)) (by decide) ?_
  refine V_istore_n C (lv' := [(1, .int (-9 : Int32)), (0, .ref (ad 11))]) dX11_findRace_2 rfl (by decide) rfl ?_
  refine V_aload_n C 1 dX11_findRace_3 rfl ?_
  obtain ⟨σ1, hs1, hF⟩ := bnd hF
  refine cs_X11_198 C (ct_X11_firstWay hs1) rfl ⟨by decide, by decide⟩ (Nat.le_of_ble_eq_true rfl) dX11_findRace_4 ⟨Nat.le_refl 0, Nat.le_refl 0⟩ ?_
  refine V_iconst C dX11_findRace_7 (v := (1 : Int32)) (by decide) ?_
  refine V_istore_n C (lv' := [(2, .int (1 : Int32)), (1, .int (-9 : Int32)), (0, .ref (ad 11))]) dX11_findRace_8 rfl (by decide) rfl ?_
  refine V_lv (ks := [2, 1, 0]) rfl ?_
  exact w_X11_findRace_b9 C hr hlk 4000 (-9 : Int32) (1 : Int32) σ1 hF

def F_X11_race (σ : Mem) : Option (Int32 × Mem) :=
  Option.bind (stI σ 20 (0 : Int32)) fun σ1 =>
  Option.bind (F_X11_findRace σ1) fun q2 =>
  some (q2.1, q2.2)
set_option maxHeartbeats 4000000 in
set_option maxRecDepth 20000 in
theorem ct_X11_race {σ : Mem} {r : (Int32 × Mem)} (hF : F_X11_race σ = some r) : Ct yX11_race cX11_race 1 (some .int) 3 71 (fun ad zz => [.ref (ad 11)]) σ (fun ad => (some (.int r.1))) r.2 := by
  refine Ct_of (by decide +kernel) (lv := fun ad zz => [(0, .ref (ad 11))]) (fun _ _ => rfl) (fun _ _ => Nat.le_of_ble_eq_true rfl) (fun p l e s m args below meth c D T ad zz C hr hlk => ?_)
  rw [F_X11_race] at hF
  refine V_aload_n C 0 dX11_race_0 rfl ?_
  refine V_iconst C dX11_race_1 (v := (0 : Int32)) (by decide) ?_
  obtain ⟨σ1, hs1, hF⟩ := bnd hF
  refine pf_X11_56 C hs1 dX11_race_2 ?_
  refine V_aload_n C 0 dX11_race_5 rfl ?_
  obtain ⟨q2, hq2, hF⟩ := bnd hF
  refine cs_X11_210 C (ct_X11_findRace hq2) rfl ⟨by decide, by decide⟩ (Nat.le_of_ble_eq_true rfl) dX11_race_6 ⟨Nat.le_refl 0, Nat.le_refl 0⟩ ?_
  cases hF
  exact V_iret C hr hlk rfl rfl dX11_race_9

def F_X11_raceOf (a1 : Int32) (σ : Mem) : Option (Int32 × Mem) :=
  Option.bind (stI σ 20 (0 : Int32)) fun σ1 =>
  Option.bind (F_X11_noRider a1 σ1) fun q2 =>
  if q2 = 0 then
    Option.bind (F_X11_findRace σ1) fun q3 =>
    Option.bind (rdA q3.2 65 a1) fun v4 =>
    if v4 = (-9 : Int32) then
      some ((9 : Int32), q3.2)
    else
      Option.bind (rdA q3.2 65 a1) fun v5 =>
      some (v5, q3.2)
  else
    some ((-1 : Int32), σ1)
set_option maxHeartbeats 4000000 in
set_option maxRecDepth 20000 in
theorem ct_X11_raceOf {a1 : Int32} {σ : Mem} {r : (Int32 × Mem)} (hF : F_X11_raceOf a1 σ = some r) : Ct yX11_raceOf cX11_raceOf 2 (some .int) 3 71 (fun ad zz => [.ref (ad 11), .int a1]) σ (fun ad => (some (.int r.1))) r.2 := by
  refine Ct_of (by decide +kernel) (lv := fun ad zz => [(0, .ref (ad 11)), (1, .int a1)]) (fun _ _ => rfl) (fun _ _ => Nat.le_of_ble_eq_true rfl) (fun p l e s m args below meth c D T ad zz C hr hlk => ?_)
  rw [F_X11_raceOf] at hF
  refine V_aload_n C 0 dX11_raceOf_0 rfl ?_
  refine V_iconst C dX11_raceOf_1 (v := (0 : Int32)) (by decide) ?_
  obtain ⟨σ1, hs1, hF⟩ := bnd hF
  refine pf_X11_56 C hs1 dX11_raceOf_2 ?_
  refine V_aload_n C 0 dX11_raceOf_5 rfl ?_
  refine V_iload_n C 1 dX11_raceOf_6 rfl ?_
  obtain ⟨q2, hq2, hF⟩ := bnd hF
  refine cs_X11_153 C (ct_X11_noRider hq2) rfl ⟨by decide, by decide⟩ (Nat.le_of_ble_eq_true rfl) dX11_raceOf_7 ⟨Nat.le_refl 0, Nat.le_refl 0⟩ ?_
  refine V_if_eq C 15 dX11_raceOf_10 (by decide) hF (fun hF => ?_) (fun hF => ?_)
  · refine V_aload_n C 0 dX11_raceOf_15 rfl ?_
    obtain ⟨q3, hq3, hF⟩ := bnd hF
    refine cs_X11_210 C (ct_X11_findRace hq3) rfl ⟨by decide, by decide⟩ (Nat.le_of_ble_eq_true rfl) dX11_raceOf_16 ⟨Nat.le_refl 0, Nat.le_refl 0⟩ ?_
    refine V_pop C dX11_raceOf_19 rfl ?_
    refine V_aload_n C 0 dX11_raceOf_20 rfl ?_
    refine gf_X11_50 C dX11_raceOf_21 ?_
    refine V_iload_n C 1 dX11_raceOf_24 rfl ?_
    obtain ⟨v4, hv4, hF⟩ := bnd hF
    refine V_iald C (by decide) hv4 dX11_raceOf_25 ?_
    refine V_bipush C dX11_raceOf_26 (v := (-9 : Int32)) (by decide) ?_
    refine V_icmp_ne C 36 dX11_raceOf_28 (by decide) hF (fun hF => ?_) (fun hF => ?_)
    · refine V_aload_n C 0 dX11_raceOf_36 rfl ?_
      refine gf_X11_50 C dX11_raceOf_37 ?_
      refine V_iload_n C 1 dX11_raceOf_40 rfl ?_
      obtain ⟨v5, hv5, hF⟩ := bnd hF
      refine V_iald C (by decide) hv5 dX11_raceOf_41 ?_
      cases hF
      exact V_iret C hr hlk rfl rfl dX11_raceOf_42
    · refine V_bipush C dX11_raceOf_31 (v := (9 : Int32)) (by decide) ?_
      refine V_goto C 42 dX11_raceOf_33 (by decide) ?_
      cases hF
      exact V_iret C hr hlk rfl rfl dX11_raceOf_42
  · refine V_iconst C dX11_raceOf_13 (v := (-1 : Int32)) (by decide) ?_
    cases hF
    exact V_iret C hr hlk rfl rfl dX11_raceOf_14
