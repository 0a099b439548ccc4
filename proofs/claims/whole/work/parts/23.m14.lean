-- walks: X11_choose X11_unchoose X11_isBetter X11_isLearnt X11_learnt X11_next X11_gain
def F_X11_choose (a1 : Int32) (a2 : Int32) (σ : Mem) : Option (Int32 × Mem) :=
  Option.bind (stI σ 20 (0 : Int32)) fun σ1 =>
  Option.bind (F_X11_noRider a1 σ1) fun q2 =>
  if q2 = 0 then
    Option.bind (F_X11_noRider a2 σ1) fun q3 =>
    if q3 = 0 then
      if a1 = a2 then
        some ((-2 : Int32), σ1)
      else
        if (σ1.1 28) = (6 : Int32) then
          some ((-4 : Int32), σ1)
        else
          Option.bind (wrA σ1 61 (σ1.1 28) a1) fun σ4 =>
          Option.bind (wrA σ4 62 (σ4.1 28) a2) fun σ5 =>
          Option.bind (stI σ5 28 ((σ5.1 28) + (1 : Int32))) fun σ6 =>
          some ((σ6.1 28), σ6)
    else
      some ((-1 : Int32), σ1)
  else
    some ((-1 : Int32), σ1)
set_option maxHeartbeats 4000000 in
set_option maxRecDepth 20000 in
theorem ct_X11_choose {a1 : Int32} {a2 : Int32} {σ : Mem} {r : (Int32 × Mem)} (hF : F_X11_choose a1 a2 σ = some r) : Ct yX11_choose cX11_choose 3 (some .int) 2 46 (fun ad zz => [.ref (ad 11), .int a1, .int a2]) σ (fun ad => (some (.int r.1))) r.2 := by
  refine Ct_of (by decide +kernel) (lv := fun ad zz => [(0, .ref (ad 11)), (1, .int a1), (2, .int a2)]) (fun _ _ => rfl) (fun _ _ => Nat.le_of_ble_eq_true rfl) (fun p l e s m args below meth c D T ad zz C hr hlk => ?_)
  rw [F_X11_choose] at hF
  refine V_aload_n C 0 dX11_choose_0 rfl ?_
  refine V_iconst C dX11_choose_1 (v := (0 : Int32)) (by decide) ?_
  obtain ⟨σ1, hs1, hF⟩ := bnd hF
  refine pf_X11_56 C hs1 dX11_choose_2 ?_
  refine V_aload_n C 0 dX11_choose_5 rfl ?_
  refine V_iload_n C 1 dX11_choose_6 rfl ?_
  obtain ⟨q2, hq2, hF⟩ := bnd hF
  refine cs_X11_153 C (ct_X11_noRider hq2) rfl ⟨by decide, by decide⟩ (Nat.le_of_ble_eq_true rfl) dX11_choose_7 ⟨Nat.le_refl 0, Nat.le_refl 0⟩ ?_
  refine V_if_ne C 21 dX11_choose_10 (by decide) hF (fun hF => ?_) (fun hF => ?_)
  · refine V_iconst C dX11_choose_21 (v := (-1 : Int32)) (by decide) ?_
    cases hF
    exact V_iret C hr hlk rfl rfl dX11_choose_22
  · refine V_aload_n C 0 dX11_choose_13 rfl ?_
    refine V_iload_n C 2 dX11_choose_14 rfl ?_
    obtain ⟨q3, hq3, hF⟩ := bnd hF
    refine cs_X11_153 C (ct_X11_noRider hq3) rfl ⟨by decide, by decide⟩ (Nat.le_of_ble_eq_true rfl) dX11_choose_15 ⟨Nat.le_refl 0, Nat.le_refl 0⟩ ?_
    refine V_if_eq C 23 dX11_choose_18 (by decide) hF (fun hF => ?_) (fun hF => ?_)
    · refine V_iload_n C 1 dX11_choose_23 rfl ?_
      refine V_iload_n C 2 dX11_choose_24 rfl ?_
      refine V_icmp_ne C 31 dX11_choose_25 (by decide) hF (fun hF => ?_) (fun hF => ?_)
      · refine V_aload_n C 0 dX11_choose_31 rfl ?_
        refine gf_X11_143 C dX11_choose_32 ?_
        refine V_bipush C dX11_choose_35 (v := (6 : Int32)) (by decide) ?_
        refine V_icmp_ne C 43 dX11_choose_37 (by decide) hF (fun hF => ?_) (fun hF => ?_)
        · refine V_aload_n C 0 dX11_choose_43 rfl ?_
          refine gf_X11_38 C dX11_choose_44 ?_
          refine V_aload_n C 0 dX11_choose_47 rfl ?_
          refine gf_X11_143 C dX11_choose_48 ?_
          refine V_iload_n C 1 dX11_choose_51 rfl ?_
          obtain ⟨σ4, hs4, hF⟩ := bnd hF
          refine V_iast C (by decide) hs4 dX11_choose_52 ?_
          refine V_aload_n C 0 dX11_choose_53 rfl ?_
          refine gf_X11_41 C dX11_choose_54 ?_
          refine V_aload_n C 0 dX11_choose_57 rfl ?_
          refine gf_X11_143 C dX11_choose_58 ?_
          refine V_iload_n C 2 dX11_choose_61 rfl ?_
          obtain ⟨σ5, hs5, hF⟩ := bnd hF
          refine V_iast C (by decide) hs5 dX11_choose_62 ?_
          refine V_aload_n C 0 dX11_choose_63 rfl ?_
          refine V_dup C dX11_choose_64 rfl ?_
          refine gf_X11_143 C dX11_choose_65 ?_
          refine V_iconst C dX11_choose_68 (v := (1 : Int32)) (by decide) ?_
          refine V_iadd C dX11_choose_69 ?_
          obtain ⟨σ6, hs6, hF⟩ := bnd hF
          refine pf_X11_143 C hs6 dX11_choose_70 ?_
          refine V_aload_n C 0 dX11_choose_73 rfl ?_
          refine gf_X11_143 C dX11_choose_74 ?_
          cases hF
          exact V_iret C hr hlk rfl rfl dX11_choose_77
        · refine V_bipush C dX11_choose_40 (v := (-4 : Int32)) (by decide) ?_
          cases hF
          exact V_iret C hr hlk rfl rfl dX11_choose_42
      · refine V_bipush C dX11_choose_28 (v := (-2 : Int32)) (by decide) ?_
        cases hF
        exact V_iret C hr hlk rfl rfl dX11_choose_30
    · refine V_iconst C dX11_choose_21 (v := (-1 : Int32)) (by decide) ?_
      cases hF
      exact V_iret C hr hlk rfl rfl dX11_choose_22

def F_X11_unchoose (σ : Mem) : Option (Int32 × Mem) :=
  Option.bind (stI σ 20 (0 : Int32)) fun σ1 =>
  Option.bind (stI σ1 28 (0 : Int32)) fun σ2 =>
  some ((σ1.1 28), σ2)
set_option maxHeartbeats 4000000 in
set_option maxRecDepth 20000 in
theorem ct_X11_unchoose {σ : Mem} {r : (Int32 × Mem)} (hF : F_X11_unchoose σ = some r) : Ct yX11_unchoose cX11_unchoose 2 (some .int) 0 0 (fun ad zz => [.ref (ad 11)]) σ (fun ad => (some (.int r.1))) r.2 := by
  refine Ct_of (by decide +kernel) (lv := fun ad zz => [(0, .ref (ad 11))]) (fun _ _ => rfl) (fun _ _ => Nat.le_of_ble_eq_true rfl) (fun p l e s m args below meth c D T ad zz C hr hlk => ?_)
  rw [F_X11_unchoose] at hF
  refine V_aload_n C 0 dX11_unchoose_0 rfl ?_
  refine V_iconst C dX11_unchoose_1 (v := (0 : Int32)) (by decide) ?_
  obtain ⟨σ1, hs1, hF⟩ := bnd hF
  refine pf_X11_56 C hs1 dX11_unchoose_2 ?_
  refine V_aload_n C 0 dX11_unchoose_5 rfl ?_
  refine gf_X11_143 C dX11_unchoose_6 ?_
  refine V_istore_n C (lv' := [(1, .int (σ1.1 28)), (0, .ref (ad 11))]) dX11_unchoose_9 rfl (by decide) rfl ?_
  refine V_aload_n C 1 dX11_unchoose_10 rfl ?_
  refine V_iconst C dX11_unchoose_11 (v := (0 : Int32)) (by decide) ?_
  obtain ⟨σ2, hs2, hF⟩ := bnd hF
  refine pf_X11_143 C hs2 dX11_unchoose_12 ?_
  refine V_iload_n C 0 dX11_unchoose_15 rfl ?_
  cases hF
  exact V_iret C hr hlk rfl rfl dX11_unchoose_16

def F_X11_isBetter_b41 (σ : Mem) (kL6 : Int32 → Int32 → Int32 → Int32 → Int32 → Option Int32) (x1 : Int32) (x2 : Int32) (x3 : Int32) (x4 : Int32) (x5 : Int32) (y0 : Int32) : Option Int32 :=
  Option.bind (rdA σ 55 (((4 : Int32) * x2) + x5)) fun v1 =>
  Option.bind (rdA σ 55 (((4 : Int32) * x3) + x5)) fun v2 =>
  kL6 x1 x2 x3 (x4 + (y0 * (v1 - v2))) (x5 + 1)
def F_X11_isBetter_b6 (σ : Mem) : Nat → Int32 → Int32 → Int32 → Int32 → Int32 → Option Int32
  | 0, _, _, _, _, _ => none
  | n + 1, x1, x2, x3, x4, x5 =>
    if (3 : Int32) ≤ x5 then
      if 0 < x4 then
        some (1 : Int32)
      else
        if x4 = 0 then
          if x3 ≤ x2 then
            some (0 : Int32)
          else
            some (1 : Int32)
        else
          some (0 : Int32)
    else
      if x5 = 0 then
        F_X11_isBetter_b41 σ (F_X11_isBetter_b6 σ n) x1 x2 x3 x4 x5 (x1 / (16 : Int32))
      else
        if x5 = (1 : Int32) then
          F_X11_isBetter_b41 σ (F_X11_isBetter_b6 σ n) x1 x2 x3 x4 x5 ((x1 / (4 : Int32)) - (x1 / (4 : Int32)) / (4 : Int32) * (4 : Int32))
        else
          F_X11_isBetter_b41 σ (F_X11_isBetter_b6 σ n) x1 x2 x3 x4 x5 (x1 - x1 / (4 : Int32) * (4 : Int32))
def F_X11_isBetter (a1 : Int32) (a2 : Int32) (a3 : Int32) (σ : Mem) : Option Int32 :=
  F_X11_isBetter_b6 σ 4000 a1 a2 a3 (0 : Int32) (0 : Int32)
set_option maxHeartbeats 4000000 in
set_option maxRecDepth 20000 in
theorem w_X11_isBetter_b41 {p : Program} {l : Launch} {e : Env} {s : State} {m : MethodId} {args : Array Value} {below : List Frame} {meth : Method} {c : Code} {D : va_G} {T : Nat → ClassId} {ad zz : Nat → Nat} (C : Cx p s m c cX11_isBetter 7 RX11 (fA ad) D T ad zz) (hr : meth.sig.returnType = (some .boolean)) (hlk : meth.locks = false) {σ : Mem} {r : Int32} (kL6 : Int32 → Int32 → Int32 → Int32 → Int32 → Option Int32) (hL6 : ∀ (x1 : Int32) (x2 : Int32) (x3 : Int32) (x4 : Int32) (x5 : Int32), kL6 x1 x2 x3 x4 x5 = some r → V p l e { frames := 0, cells := 0, slots := 0, locals := 0 } s m args below meth c 0 0 (MQ below (qC (some (.int r)) σ D T ad) args s 0 0 (fA ad)) 7 (fA ad) D T ad σ 6 [(0, .ref (ad 11)), (1, .int x1), (2, .int x2), (3, .int x3), (4, .int x4), (5, .int x5)] []) (x1 : Int32) (x2 : Int32) (x3 : Int32) (x4 : Int32) (x5 : Int32) (y0 : Int32) (hF : F_X11_isBetter_b41 σ kL6 x1 x2 x3 x4 x5 y0 = some r) : V p l e { frames := 0, cells := 0, slots := 0, locals := 0 } s m args below meth c 0 0 (MQ below (qC (some (.int r)) σ D T ad) args s 0 0 (fA ad)) 7 (fA ad) D T ad σ 41 [(0, .ref (ad 11)), (1, .int x1), (2, .int x2), (3, .int x3), (4, .int x4), (5, .int x5)] [.int y0] := by
  rw [F_X11_isBetter_b41] at hF
  refine V_istore C (lv' := [(6, .int y0), (0, .ref (ad 11)), (1, .int x1), (2, .int x2), (3, .int x3), (4, .int x4), (5, .int x5)]) dX11_isBetter_41 (by decide) rfl ?_
  refine V_iload C 5 dX11_isBetter_43 rfl ?_
  refine V_iload C 0 dX11_isBetter_45 rfl ?_
  refine V_aload_n C 1 dX11_isBetter_47 rfl ?_
  refine gf_X11_16 C dX11_isBetter_48 ?_
  refine V_iconst C dX11_isBetter_51 (v := (4 : Int32)) (by decide) ?_
  refine V_iload_n C 3 dX11_isBetter_52 rfl ?_
  refine V_imul C dX11_isBetter_53 ?_
  refine V_iload C 6 dX11_isBetter_54 rfl ?_
  refine V_iadd C dX11_isBetter_56 ?_
  obtain ⟨v1, hv1, hF⟩ := bnd hF
  refine V_iald C (by decide) hv1 dX11_isBetter_57 ?_
  refine V_aload_n C 1 dX11_isBetter_58 rfl ?_
  refine gf_X11_16 C dX11_isBetter_59 ?_
  refine V_iconst C dX11_isBetter_62 (v := (4 : Int32)) (by decide) ?_
  refine V_iload_n C 4 dX11_isBetter_63 rfl ?_
  refine V_imul C dX11_isBetter_64 ?_
  refine V_iload C 6 dX11_isBetter_65 rfl ?_
  refine V_iadd C dX11_isBetter_67 ?_
  obtain ⟨v2, hv2, hF⟩ := bnd hF
  refine V_iald C (by decide) hv2 dX11_isBetter_68 ?_
  refine V_isub C dX11_isBetter_69 ?_
  refine V_imul C dX11_isBetter_70 ?_
  refine V_iadd C dX11_isBetter_71 ?_
  refine V_istore C (lv' := [(4, .int (x4 + (y0 * (v1 - v2)))), (6, .int y0), (0, .ref (ad 11)), (1, .int x1), (2, .int x2), (3, .int x3), (5, .int x5)]) dX11_isBetter_72 (by decide) rfl ?_
  refine V_iinc C (v := (x5 + 1)) (lv' := [(5, .int (x5 + 1)), (4, .int (x4 + (y0 * (v1 - v2)))), (6, .int y0), (0, .ref (ad 11)), (1, .int x1), (2, .int x2), (3, .int x3)]) 6 dX11_isBetter_74 rfl rfl (by decide) rfl ?_
  refine V_goto C 6 dX11_isBetter_77 (by decide) ?_
  refine V_lv (ks := [3, 4, 5, 6, 1, 0]) rfl ?_
  exact hL6 x1 x2 x3 (x4 + (y0 * (v1 - v2))) (x5 + 1) hF
set_option maxHeartbeats 4000000 in
set_option maxRecDepth 20000 in
theorem w_X11_isBetter_b6 {p : Program} {l : Launch} {e : Env} {s : State} {m : MethodId} {args : Array Value} {below : List Frame} {meth : Method} {c : Code} {D : va_G} {T : Nat → ClassId} {ad zz : Nat → Nat} (C : Cx p s m c cX11_isBetter 7 RX11 (fA ad) D T ad zz) (hr : meth.sig.returnType = (some .boolean)) (hlk : meth.locks = false) {σ : Mem} {r : Int32}  : ∀ (n : Nat), ∀ (x1 : Int32) (x2 : Int32) (x3 : Int32) (x4 : Int32) (x5 : Int32), F_X11_isBetter_b6 σ n x1 x2 x3 x4 x5 = some r → V p l e { frames := 0, cells := 0, slots := 0, locals := 0 } s m args below meth c 0 0 (MQ below (qC (some (.int r)) σ D T ad) args s 0 0 (fA ad)) 7 (fA ad) D T ad σ 6 [(0, .ref (ad 11)), (1, .int x1), (2, .int x2), (3, .int x3), (4, .int x4), (5, .int x5)] [] := by
  intro n
  induction n with
  | zero =>
    intro x1 x2 x3 x4 x5 hF
    cases (show (none : Option Int32) = some r from hF)
  | succ n ih =>
    intro x1 x2 x3 x4 x5 hF
    rw [F_X11_isBetter_b6] at hF
    refine V_iload C 5 dX11_isBetter_6 rfl ?_
    refine V_iconst C dX11_isBetter_8 (v := (3 : Int32)) (by decide) ?_
    refine V_icmp_ge C 80 dX11_isBetter_9 (by decide) hF (fun hF => ?_) (fun hF => ?_)
    · refine V_iload C 4 dX11_isBetter_80 rfl ?_
      refine V_if_gt C 95 dX11_isBetter_82 (by decide) hF (fun hF => ?_) (fun hF => ?_)
      · refine V_iconst C dX11_isBetter_95 (v := (1 : Int32)) (by decide) ?_
        refine V_goto C 100 dX11_isBetter_96 (by decide) ?_
        cases hF
        exact V_zret C hr hlk (Or.inr rfl) rfl rfl dX11_isBetter_100
      · refine V_iload C 4 dX11_isBetter_85 rfl ?_
        refine V_if_ne C 99 dX11_isBetter_87 (by decide) hF (fun hF => ?_) (fun hF => ?_)
        · refine V_iconst C dX11_isBetter_99 (v := (0 : Int32)) (by decide) ?_
          cases hF
          exact V_zret C hr hlk (Or.inl rfl) rfl rfl dX11_isBetter_100
        · refine V_iload_n C 2 dX11_isBetter_90 rfl ?_
          refine V_iload_n C 3 dX11_isBetter_91 rfl ?_
          refine V_icmp_ge C 99 dX11_isBetter_92 (by decide) hF (fun hF => ?_) (fun hF => ?_)
          · refine V_iconst C dX11_isBetter_99 (v := (0 : Int32)) (by decide) ?_
            cases hF
            exact V_zret C hr hlk (Or.inl rfl) rfl rfl dX11_isBetter_100
          · refine V_iconst C dX11_isBetter_95 (v := (1 : Int32)) (by decide) ?_
            refine V_goto C 100 dX11_isBetter_96 (by decide) ?_
            cases hF
            exact V_zret C hr hlk (Or.inr rfl) rfl rfl dX11_isBetter_100
    · refine V_iload C 5 dX11_isBetter_12 rfl ?_
      refine V_if_ne C 24 dX11_isBetter_14 (by decide) hF (fun hF => ?_) (fun hF => ?_)
      · refine V_iload C 5 dX11_isBetter_24 rfl ?_
        refine V_iconst C dX11_isBetter_26 (v := (1 : Int32)) (by decide) ?_
        refine V_icmp_ne C 38 dX11_isBetter_27 (by decide) hF (fun hF => ?_) (fun hF => ?_)
        · refine V_iload_n C 1 dX11_isBetter_38 rfl ?_
          refine V_iconst C dX11_isBetter_39 (v := (4 : Int32)) (by decide) ?_
          refine V_iremc C dX11_isBetter_40 (by decide) ?_
          exact w_X11_isBetter_b41 C hr hlk (F_X11_isBetter_b6 σ n) ih x1 x2 x3 x4 x5 (x1 - x1 / (4 : Int32) * (4 : Int32)) hF
        · refine V_iload_n C 1 dX11_isBetter_30 rfl ?_
          refine V_iconst C dX11_isBetter_31 (v := (4 : Int32)) (by decide) ?_
          refine V_idivc C dX11_isBetter_32 (by decide) ?_
          refine V_iconst C dX11_isBetter_33 (v := (4 : Int32)) (by decide) ?_
          refine V_iremc C dX11_isBetter_34 (by decide) ?_
          refine V_goto C 41 dX11_isBetter_35 (by decide) ?_
          exact w_X11_isBetter_b41 C hr hlk (F_X11_isBetter_b6 σ n) ih x1 x2 x3 x4 x5 ((x1 / (4 : Int32)) - (x1 / (4 : Int32)) / (4 : Int32) * (4 : Int32)) hF
      · refine V_iload_n C 1 dX11_isBetter_17 rfl ?_
        refine V_bipush C dX11_isBetter_18 (v := (16 : Int32)) (by decide) ?_
        refine V_idivc C dX11_isBetter_20 (by decide) ?_
        refine V_goto C 41 dX11_isBetter_21 (by decide) ?_
        exact w_X11_isBetter_b41 C hr hlk (F_X11_isBetter_b6 σ n) ih x1 x2 x3 x4 x5 (x1 / (16 : Int32)) hF
set_option maxHeartbeats 4000000 in
set_option maxRecDepth 20000 in
theorem ct_X11_isBetter {a1 : Int32} {a2 : Int32} {a3 : Int32} {σ : Mem} {r : Int32} (hF : F_X11_isBetter a1 a2 a3 σ = some r) : Ct yX11_isBetter cX11_isBetter 7 (some .boolean) 0 0 (fun ad zz => [.ref (ad 11), .int a1, .int a2, .int a3]) σ (fun ad => (some (.int r))) σ := by
  refine Ct_of (by decide +kernel) (lv := fun ad zz => [(0, .ref (ad 11)), (1, .int a1), (2, .int a2), (3, .int a3)]) (fun _ _ => rfl) (fun _ _ => Nat.le_of_ble_eq_true rfl) (fun p l e s m args below meth c D T ad zz C hr hlk => ?_)
  rw [F_X11_isBetter] at hF
  refine V_iconst C dX11_isBetter_0 (v := (0 : Int32)) (by decide) ?_
  refine V_istore C (lv' := [(4, .int (0 : Int32)), (0, .ref (ad 11)), (1, .int a1), (2, .int a2), (3, .int a3)]) dX11_isBetter_1 (by decide) rfl ?_
  refine V_iconst C dX11_isBetter_3 (v := (0 : Int32)) (by decide) ?_
  refine V_istore C (lv' := [(5, .int (0 : Int32)), (4, .int (0 : Int32)), (0, .ref (ad 11)), (1, .int a1), (2, .int a2), (3, .int a3)]) dX11_isBetter_4 (by decide) rfl ?_
  refine V_lv (ks := [2, 3, 4, 5, 1, 0]) rfl ?_
  exact w_X11_isBetter_b6 C hr hlk 4000 a1 a2 a3 (0 : Int32) (0 : Int32) hF

def F_X11_isLearnt_b4 (σ : Mem) : Nat → Int32 → Int32 → Int32 → Option Int32
  | 0, _, _, _ => none
  | n + 1, x1, x2, x3 =>
    if (σ.1 28) ≤ x3 then
      Option.bind (bz x2) fun b1 =>
      some b1
    else
      if x2 = 0 then
        Option.bind (bz x2) fun b2 =>
        some b2
      else
        Option.bind (rdA σ 61 x3) fun v3 =>
        Option.bind (F_X11_noRider v3 σ) fun q4 =>
        if q4 = 0 then
          Option.bind (rdA σ 62 x3) fun v5 =>
          Option.bind (F_X11_noRider v5 σ) fun q6 =>
          if q6 = 0 then
            Option.bind (rdA σ 61 x3) fun v7 =>
            Option.bind (rdA σ 62 x3) fun v8 =>
            Option.bind (F_X11_isBetter x1 v7 v8 σ) fun q9 =>
            if q9 = 0 then
              (F_X11_isLearnt_b4 σ n) x1 (0 : Int32) (x3 + 1)
            else
              (F_X11_isLearnt_b4 σ n) x1 (1 : Int32) (x3 + 1)
          else
            (F_X11_isLearnt_b4 σ n) x1 (1 : Int32) (x3 + 1)
        else
          (F_X11_isLearnt_b4 σ n) x1 (1 : Int32) (x3 + 1)
def F_X11_isLearnt (a1 : Int32) (σ : Mem) : Option Int32 :=
  F_X11_isLearnt_b4 σ 4000 a1 (1 : Int32) (0 : Int32)
set_option maxHeartbeats 4000000 in
set_option maxRecDepth 20000 in
theorem w_X11_isLearnt_b4 {p : Program} {l : Launch} {e : Env} {s : State} {m : MethodId} {args : Array Value} {below : List Frame} {meth : Method} {c : Code} {D : va_G} {T : Nat → ClassId} {ad zz : Nat → Nat} (C : Cx p s m c cX11_isLearnt 4 RX11 (fA ad) D T ad zz) (hr : meth.sig.returnType = (some .boolean)) (hlk : meth.locks = false) {σ : Mem} {r : Int32}  : ∀ (n : Nat), ∀ (x1 : Int32) (x2 : Int32) (x3 : Int32), F_X11_isLearnt_b4 σ n x1 x2 x3 = some r → V p l e { frames := 2, cells := 0, slots := 0, locals := 46 } s m args below meth c 0 0 (MQ below (qC (some (.int r)) σ D T ad) args s 0 0 (fA ad)) 4 (fA ad) D T ad σ 4 [(0, .ref (ad 11)), (1, .int x1), (2, .int x2), (3, .int x3)] [] := by
  intro n
  induction n with
  | zero =>
    intro x1 x2 x3 hF
    cases (show (none : Option Int32) = some r from hF)
  | succ n ih =>
    intro x1 x2 x3 hF
    rw [F_X11_isLearnt_b4] at hF
    refine V_iload_n C 3 dX11_isLearnt_4 rfl ?_
    refine V_aload_n C 0 dX11_isLearnt_5 rfl ?_
    refine gf_X11_143 C dX11_isLearnt_6 ?_
    refine V_icmp_ge C 74 dX11_isLearnt_9 (by decide) hF (fun hF => ?_) (fun hF => ?_)
    · refine V_iload_n C 2 dX11_isLearnt_74 rfl ?_
      obtain ⟨b1, hb1, hF⟩ := bnd hF
      obtain ⟨hb9, e9⟩ := bz_s hb1
      subst e9
      cases hF
      exact V_zret C hr hlk hb9 rfl rfl dX11_isLearnt_75
    · refine V_iload_n C 2 dX11_isLearnt_12 rfl ?_
      refine V_if_eq C 74 dX11_isLearnt_13 (by decide) hF (fun hF => ?_) (fun hF => ?_)
      · refine V_iload_n C 2 dX11_isLearnt_74 rfl ?_
        obtain ⟨b2, hb2, hF⟩ := bnd hF
        obtain ⟨hb9, e9⟩ := bz_s hb2
        subst e9
        cases hF
        exact V_zret C hr hlk hb9 rfl rfl dX11_isLearnt_75
      · refine V_aload_n C 0 dX11_isLearnt_16 rfl ?_
        refine V_aload_n C 0 dX11_isLearnt_17 rfl ?_
        refine gf_X11_38 C dX11_isLearnt_18 ?_
        refine V_iload_n C 3 dX11_isLearnt_21 rfl ?_
        obtain ⟨v3, hv3, hF⟩ := bnd hF
        refine V_iald C (by decide) hv3 dX11_isLearnt_22 ?_
        obtain ⟨q4, hq4, hF⟩ := bnd hF
        refine cs_X11_153 C (ct_X11_noRider hq4) rfl ⟨by decide, by decide⟩ (Nat.le_of_ble_eq_true rfl) dX11_isLearnt_23 ⟨Nat.le_refl 0, Nat.le_refl 0⟩ ?_
        refine V_if_ne C 62 dX11_isLearnt_26 (by decide) hF (fun hF => ?_) (fun hF => ?_)
        · refine V_iconst C dX11_isLearnt_62 (v := (1 : Int32)) (by decide) ?_
          refine V_goto C 67 dX11_isLearnt_63 (by decide) ?_
          refine V_istore_n C (lv' := [(2, .int (1 : Int32)), (0, .ref (ad 11)), (1, .int x1), (3, .int x3)]) dX11_isLearnt_67 rfl (by decide) rfl ?_
          refine V_iinc C (v := (x3 + 1)) (lv' := [(3, .int (x3 + 1)), (2, .int (1 : Int32)), (0, .ref (ad 11)), (1, .int x1)]) 3 dX11_isLearnt_68 rfl rfl (by decide) rfl ?_
          refine V_goto C 4 dX11_isLearnt_71 (by decide) ?_
          refine V_lv (ks := [2, 3, 1, 0]) rfl ?_
          exact ih x1 (1 : Int32) (x3 + 1) hF
        · refine V_aload_n C 0 dX11_isLearnt_29 rfl ?_
          refine V_aload_n C 0 dX11_isLearnt_30 rfl ?_
          refine gf_X11_41 C dX11_isLearnt_31 ?_
          refine V_iload_n C 3 dX11_isLearnt_34 rfl ?_
          obtain ⟨v5, hv5, hF⟩ := bnd hF
          refine V_iald C (by decide) hv5 dX11_isLearnt_35 ?_
          obtain ⟨q6, hq6, hF⟩ := bnd hF
          refine cs_X11_153 C (ct_X11_noRider hq6) rfl ⟨by decide, by decide⟩ (Nat.le_of_ble_eq_true rfl) dX11_isLearnt_36 ⟨Nat.le_refl 0, Nat.le_refl 0⟩ ?_
          refine V_if_ne C 62 dX11_isLearnt_39 (by decide) hF (fun hF => ?_) (fun hF => ?_)
          · refine V_iconst C dX11_isLearnt_62 (v := (1 : Int32)) (by decide) ?_
            refine V_goto C 67 dX11_isLearnt_63 (by decide) ?_
            refine V_istore_n C (lv' := [(2, .int (1 : Int32)), (0, .ref (ad 11)), (1, .int x1), (3, .int x3)]) dX11_isLearnt_67 rfl (by decide) rfl ?_
            refine V_iinc C (v := (x3 + 1)) (lv' := [(3, .int (x3 + 1)), (2, .int (1 : Int32)), (0, .ref (ad 11)), (1, .int x1)]) 3 dX11_isLearnt_68 rfl rfl (by decide) rfl ?_
            refine V_goto C 4 dX11_isLearnt_71 (by decide) ?_
            refine V_lv (ks := [2, 3, 1, 0]) rfl ?_
            exact ih x1 (1 : Int32) (x3 + 1) hF
          · refine V_aload_n C 0 dX11_isLearnt_42 rfl ?_
            refine V_iload_n C 1 dX11_isLearnt_43 rfl ?_
            refine V_aload_n C 0 dX11_isLearnt_44 rfl ?_
            refine gf_X11_38 C dX11_isLearnt_45 ?_
            refine V_iload_n C 3 dX11_isLearnt_48 rfl ?_
            obtain ⟨v7, hv7, hF⟩ := bnd hF
            refine V_iald C (by decide) hv7 dX11_isLearnt_49 ?_
            refine V_aload_n C 0 dX11_isLearnt_50 rfl ?_
            refine gf_X11_41 C dX11_isLearnt_51 ?_
            refine V_iload_n C 3 dX11_isLearnt_54 rfl ?_
            obtain ⟨v8, hv8, hF⟩ := bnd hF
            refine V_iald C (by decide) hv8 dX11_isLearnt_55 ?_
            obtain ⟨q9, hq9, hF⟩ := bnd hF
            refine cs_X11_213 C (ct_X11_isBetter hq9) rfl ⟨by decide, by decide⟩ (Nat.le_of_ble_eq_true rfl) dX11_isLearnt_56 ⟨Nat.le_refl 0, Nat.le_refl 0⟩ ?_
            refine V_if_eq C 66 dX11_isLearnt_59 (by decide) hF (fun hF => ?_) (fun hF => ?_)
            · refine V_iconst C dX11_isLearnt_66 (v := (0 : Int32)) (by decide) ?_
              refine V_istore_n C (lv' := [(2, .int (0 : Int32)), (0, .ref (ad 11)), (1, .int x1), (3, .int x3)]) dX11_isLearnt_67 rfl (by decide) rfl ?_
              refine V_iinc C (v := (x3 + 1)) (lv' := [(3, .int (x3 + 1)), (2, .int (0 : Int32)), (0, .ref (ad 11)), (1, .int x1)]) 3 dX11_isLearnt_68 rfl rfl (by decide) rfl ?_
              refine V_goto C 4 dX11_isLearnt_71 (by decide) ?_
              refine V_lv (ks := [2, 3, 1, 0]) rfl ?_
              exact ih x1 (0 : Int32) (x3 + 1) hF
            · refine V_iconst C dX11_isLearnt_62 (v := (1 : Int32)) (by decide) ?_
              refine V_goto C 67 dX11_isLearnt_63 (by decide) ?_
              refine V_istore_n C (lv' := [(2, .int (1 : Int32)), (0, .ref (ad 11)), (1, .int x1), (3, .int x3)]) dX11_isLearnt_67 rfl (by decide) rfl ?_
              refine V_iinc C (v := (x3 + 1)) (lv' := [(3, .int (x3 + 1)), (2, .int (1 : Int32)), (0, .ref (ad 11)), (1, .int x1)]) 3 dX11_isLearnt_68 rfl rfl (by decide) rfl ?_
              refine V_goto C 4 dX11_isLearnt_71 (by decide) ?_
              refine V_lv (ks := [2, 3, 1, 0]) rfl ?_
              exact ih x1 (1 : Int32) (x3 + 1) hF
set_option maxHeartbeats 4000000 in
set_option maxRecDepth 20000 in
theorem ct_X11_isLearnt {a1 : Int32} {σ : Mem} {r : Int32} (hF : F_X11_isLearnt a1 σ = some r) : Ct yX11_isLearnt cX11_isLearnt 4 (some .boolean) 2 46 (fun ad zz => [.ref (ad 11), .int a1]) σ (fun ad => (some (.int r))) σ := by
  refine Ct_of (by decide +kernel) (lv := fun ad zz => [(0, .ref (ad 11)), (1, .int a1)]) (fun _ _ => rfl) (fun _ _ => Nat.le_of_ble_eq_true rfl) (fun p l e s m args below meth c D T ad zz C hr hlk => ?_)
  rw [F_X11_isLearnt] at hF
  refine V_iconst C dX11_isLearnt_0 (v := (1 : Int32)) (by decide) ?_
  refine V_istore_n C (lv' := [(2, .int (1 : Int32)), (0, .ref (ad 11)), (1, .int a1)]) dX11_isLearnt_1 rfl (by decide) rfl ?_
  refine V_iconst C dX11_isLearnt_2 (v := (0 : Int32)) (by decide) ?_
  refine V_istore_n C (lv' := [(3, .int (0 : Int32)), (2, .int (1 : Int32)), (0, .ref (ad 11)), (1, .int a1)]) dX11_isLearnt_3 rfl (by decide) rfl ?_
  refine V_lv (ks := [2, 3, 1, 0]) rfl ?_
  exact w_X11_isLearnt_b4 C hr hlk 4000 a1 (1 : Int32) (0 : Int32) hF

def F_X11_learnt_b26  : Nat → Int32 → Int32 → Int32 → Int32 → Mem → Option (Int32 × Mem)
  | 0, _, _, _, _, _ => none
  | n + 1, x1, x2, x3, x4, σ =>
    if (64 : Int32) ≤ x4 then
      if x1 = 0 then
        some (x2, σ)
      else
        some (x3, σ)
    else
      Option.bind (F_X11_isLearnt x4 σ) fun q3 =>
      if q3 = 0 then
        (F_X11_learnt_b26 n) x1 x2 x3 (x4 + 1) σ
      else
        if x2 = 0 then
          (F_X11_learnt_b26 n) x1 (x2 + 1) ((((100 : Int32) * (x4 / (16 : Int32))) + ((10 : Int32) * ((x4 / (4 : Int32)) - (x4 / (4 : Int32)) / (4 : Int32) * (4 : Int32)))) + (x4 - x4 / (4 : Int32) * (4 : Int32))) (x4 + 1) σ
        else
          (F_X11_learnt_b26 n) x1 (x2 + 1) x3 (x4 + 1) σ
def F_X11_learnt (a1 : Int32) (σ : Mem) : Option (Int32 × Mem) :=
  Option.bind (stI σ 20 (0 : Int32)) fun σ1 =>
  Option.bind (F_X11_in ((a1).toInt64) (0 : Int64) (1 : Int64) σ1) fun q2 =>
  if q2 = 0 then
    some ((-2 : Int32), σ1)
  else
    F_X11_learnt_b26 4000 a1 (0 : Int32) (-9 : Int32) (0 : Int32) σ1
set_option maxHeartbeats 4000000 in
set_option maxRecDepth 20000 in
theorem w_X11_learnt_b26 {p : Program} {l : Launch} {e : Env} {s : State} {m : MethodId} {args : Array Value} {below : List Frame} {meth : Method} {c : Code} {D : va_G} {T : Nat → ClassId} {ad zz : Nat → Nat} (C : Cx p s m c cX11_learnt 5 RX11 (fA ad) D T ad zz) (hr : meth.sig.returnType = (some .int)) (hlk : meth.locks = false) {r : (Int32 × Mem)}  : ∀ (n : Nat), ∀ (x1 : Int32) (x2 : Int32) (x3 : Int32) (x4 : Int32) (σ : Mem), F_X11_learnt_b26  n x1 x2 x3 x4 σ = some r → V p l e { frames := 3, cells := 0, slots := 0, locals := 69 } s m args below meth c 0 0 (MQ below (qC (some (.int r.1)) r.2 D T ad) args s 0 0 (fA ad)) 5 (fA ad) D T ad σ 26 [(0, .ref (ad 11)), (1, .int x1), (2, .int x2), (3, .int x3), (4, .int x4)] [] := by
  intro n
  induction n with
  | zero =>
    intro x1 x2 x3 x4 σ hF
    cases (show (none : Option (Int32 × Mem)) = some r from hF)
  | succ n ih =>
    intro x1 x2 x3 x4 σ hF
    rw [F_X11_learnt_b26] at hF
    refine V_iload C 4 dX11_learnt_26 rfl ?_
    refine V_bipush C dX11_learnt_28 (v := (64 : Int32)) (by decide) ?_
    refine V_icmp_ge C 83 dX11_learnt_30 (by decide) hF (fun hF => ?_) (fun hF => ?_)
    · refine V_iload_n C 1 dX11_learnt_83 rfl ?_
      refine V_if_ne C 91 dX11_learnt_84 (by decide) hF (fun hF => ?_) (fun hF => ?_)
      · refine V_iload_n C 3 dX11_learnt_91 rfl ?_
        cases hF
        exact V_iret C hr hlk rfl rfl dX11_learnt_92
      · refine V_iload_n C 2 dX11_learnt_87 rfl ?_
        refine V_goto C 92 dX11_learnt_88 (by decide) ?_
        cases hF
        exact V_iret C hr hlk rfl rfl dX11_learnt_92
    · refine V_aload_n C 0 dX11_learnt_33 rfl ?_
      refine V_iload C 4 dX11_learnt_34 rfl ?_
      obtain ⟨q3, hq3, hF⟩ := bnd hF
      refine cs_X11_216 C (ct_X11_isLearnt hq3) rfl ⟨by decide, by decide⟩ (Nat.le_of_ble_eq_true rfl) dX11_learnt_36 ⟨Nat.le_refl 0, Nat.le_refl 0⟩ ?_
      refine V_if_eq C 77 dX11_learnt_39 (by decide) hF (fun hF => ?_) (fun hF => ?_)
      · refine V_iinc C (v := (x4 + 1)) (lv' := [(4, .int (x4 + 1)), (0, .ref (ad 11)), (1, .int x1), (2, .int x2), (3, .int x3)]) 4 dX11_learnt_77 rfl rfl (by decide) rfl ?_
        refine V_goto C 26 dX11_learnt_80 (by decide) ?_
        refine V_lv (ks := [1, 2, 3, 4, 0]) rfl ?_
        exact ih x1 x2 x3 (x4 + 1) σ hF
      · refine V_iload_n C 2 dX11_learnt_42 rfl ?_
        refine V_if_ne C 72 dX11_learnt_43 (by decide) hF (fun hF => ?_) (fun hF => ?_)
        · refine V_iload_n C 3 dX11_learnt_72 rfl ?_
          refine V_istore_n C (lv' := [(3, .int x3), (0, .ref (ad 11)), (1, .int x1), (2, .int x2), (4, .int x4)]) dX11_learnt_73 rfl (by decide) rfl ?_
          refine V_iinc C (v := (x2 + 1)) (lv' := [(2, .int (x2 + 1)), (3, .int x3), (0, .ref (ad 11)), (1, .int x1), (4, .int x4)]) 3 dX11_learnt_74 rfl rfl (by decide) rfl ?_
          refine V_iinc C (v := (x4 + 1)) (lv' := [(4, .int (x4 + 1)), (2, .int (x2 + 1)), (3, .int x3), (0, .ref (ad 11)), (1, .int x1)]) 4 dX11_learnt_77 rfl rfl (by decide) rfl ?_
          refine V_goto C 26 dX11_learnt_80 (by decide) ?_
          refine V_lv (ks := [3, 4, 1, 2, 0]) rfl ?_
          exact ih x1 (x2 + 1) x3 (x4 + 1) σ hF
        · refine V_bipush C dX11_learnt_46 (v := (100 : Int32)) (by decide) ?_
          refine V_iload C 4 dX11_learnt_48 rfl ?_
          refine V_bipush C dX11_learnt_50 (v := (16 : Int32)) (by decide) ?_
          refine V_idivc C dX11_learnt_52 (by decide) ?_
          refine V_imul C dX11_learnt_53 ?_
          refine V_bipush C dX11_learnt_54 (v := (10 : Int32)) (by decide) ?_
          refine V_iload C 4 dX11_learnt_56 rfl ?_
          refine V_iconst C dX11_learnt_58 (v := (4 : Int32)) (by decide) ?_
          refine V_idivc C dX11_learnt_59 (by decide) ?_
          refine V_iconst C dX11_learnt_60 (v := (4 : Int32)) (by decide) ?_
          refine V_iremc C dX11_learnt_61 (by decide) ?_
          refine V_imul C dX11_learnt_62 ?_
          refine V_iadd C dX11_learnt_63 ?_
          refine V_iload C 4 dX11_learnt_64 rfl ?_
          refine V_iconst C dX11_learnt_66 (v := (4 : Int32)) (by decide) ?_
          refine V_iremc C dX11_learnt_67 (by decide) ?_
          refine V_iadd C dX11_learnt_68 ?_
          refine V_goto C 73 dX11_learnt_69 (by decide) ?_
          refine V_istore_n C (lv' := [(3, .int ((((100 : Int32) * (x4 / (16 : Int32))) + ((10 : Int32) * ((x4 / (4 : Int32)) - (x4 / (4 : Int32)) / (4 : Int32) * (4 : Int32)))) + (x4 - x4 / (4 : Int32) * (4 : Int32)))), (0, .ref (ad 11)), (1, .int x1), (2, .int x2), (4, .int x4)]) dX11_learnt_73 rfl (by decide) rfl ?_
          refine V_iinc C (v := (x2 + 1)) (lv' := [(2, .int (x2 + 1)), (3, .int ((((100 : Int32) * (x4 / (16 : Int32))) + ((10 : Int32) * ((x4 / (4 : Int32)) - (x4 / (4 : Int32)) / (4 : Int32) * (4 : Int32)))) + (x4 - x4 / (4 : Int32) * (4 : Int32)))), (0, .ref (ad 11)), (1, .int x1), (4, .int x4)]) 3 dX11_learnt_74 rfl rfl (by decide) rfl ?_
          refine V_iinc C (v := (x4 + 1)) (lv' := [(4, .int (x4 + 1)), (2, .int (x2 + 1)), (3, .int ((((100 : Int32) * (x4 / (16 : Int32))) + ((10 : Int32) * ((x4 / (4 : Int32)) - (x4 / (4 : Int32)) / (4 : Int32) * (4 : Int32)))) + (x4 - x4 / (4 : Int32) * (4 : Int32)))), (0, .ref (ad 11)), (1, .int x1)]) 4 dX11_learnt_77 rfl rfl (by decide) rfl ?_
          refine V_goto C 26 dX11_learnt_80 (by decide) ?_
          refine V_lv (ks := [3, 4, 1, 2, 0]) rfl ?_
          exact ih x1 (x2 + 1) ((((100 : Int32) * (x4 / (16 : Int32))) + ((10 : Int32) * ((x4 / (4 : Int32)) - (x4 / (4 : Int32)) / (4 : Int32) * (4 : Int32)))) + (x4 - x4 / (4 : Int32) * (4 : Int32))) (x4 + 1) σ hF
set_option maxHeartbeats 4000000 in
set_option maxRecDepth 20000 in
theorem ct_X11_learnt {a1 : Int32} {σ : Mem} {r : (Int32 × Mem)} (hF : F_X11_learnt a1 σ = some r) : Ct yX11_learnt cX11_learnt 5 (some .int) 3 69 (fun ad zz => [.ref (ad 11), .int a1]) σ (fun ad => (some (.int r.1))) r.2 := by
  refine Ct_of (by decide +kernel) (lv := fun ad zz => [(0, .ref (ad 11)), (1, .int a1)]) (fun _ _ => rfl) (fun _ _ => Nat.le_of_ble_eq_true rfl) (fun p l e s m args below meth c D T ad zz C hr hlk => ?_)
  rw [F_X11_learnt] at hF
  refine V_aload_n C 0 dX11_learnt_0 rfl ?_
  refine V_iconst C dX11_learnt_1 (v := (0 : Int32)) (by decide) ?_
  obtain ⟨σ1, hs1, hF⟩ := bnd hF
  refine pf_X11_56 C hs1 dX11_learnt_2 ?_
  refine V_iload_n C 1 dX11_learnt_5 rfl ?_
  refine V_i2l C dX11_learnt_6 ?_
  refine V_lconst C dX11_learnt_7 (v := (0 : Int64)) (by decide) ?_
  refine V_lconst C dX11_learnt_8 (v := (1 : Int64)) (by decide) ?_
  obtain ⟨q2, hq2, hF⟩ := bnd hF
  refine cs_X11_63 C (ct_X11_in hq2) rfl ⟨by decide, by decide⟩ (Nat.le_of_ble_eq_true rfl) dX11_learnt_9 ⟨Nat.le_refl 0, Nat.le_refl 0⟩ ?_
  refine V_if_ne C 18 dX11_learnt_12 (by decide) hF (fun hF => ?_) (fun hF => ?_)
  · refine V_iconst C dX11_learnt_18 (v := (0 : Int32)) (by decide) ?_
    refine V_istore_n C (lv' := [(2, .int (0 : Int32)), (0, .ref (ad 11)), (1, .int a1)]) dX11_learnt_19 rfl (by decide) rfl ?_
    refine V_bipush C dX11_learnt_20 (v := (-9 : Int32)) (by decide) ?_
    refine V_istore_n C (lv' := [(3, .int (-9 : Int32)), (2, .int (0 : Int32)), (0, .ref (ad 11)), (1, .int a1)]) dX11_learnt_22 rfl (by decide) rfl ?_
    refine V_iconst C dX11_learnt_23 (v := (0 : Int32)) (by decide) ?_
    refine V_istore C (lv' := [(4, .int (0 : Int32)), (3, .int (-9 : Int32)), (2, .int (0 : Int32)), (0, .ref (ad 11)), (1, .int a1)]) dX11_learnt_24 (by decide) rfl ?_
    refine V_lv (ks := [3, 4, 2, 1, 0]) rfl ?_
    exact w_X11_learnt_b26 C hr hlk 4000 a1 (0 : Int32) (-9 : Int32) (0 : Int32) σ1 hF
  · refine V_bipush C dX11_learnt_15 (v := (-2 : Int32)) (by decide) ?_
    cases hF
    exact V_iret C hr hlk rfl rfl dX11_learnt_17

def F_X11_next_b84 (kL14 : Int32 → Int32 → Int32 → Mem → Option (Int32 × Mem)) (kL27 : Int32 → Int32 → Int32 → Int32 → Mem → Option (Int32 × Mem)) (kL45 : Int32 → Int32 → Int32 → Int32 → Int32 → Int32 → Int32 → Mem → Option (Int32 × Mem)) (x1 : Int32) (x2 : Int32) (x3 : Int32) (x4 : Int32) (x6 : Int32) (x7 : Int32) (x8 : Int32) (y0 : Int32) (y1 : Int32) (σ : Mem) : Option (Int32 × Mem) :=
  if x8 = 0 then
    kL45 x1 x2 x3 x4 (y1 + y0) (x6 + (0 : Int32)) (x7 + 1) σ
  else
    Option.bind (F_X11_isBetter x7 x3 x4 σ) fun q3 =>
    if q3 = 0 then
      kL45 x1 x2 x3 x4 (y1 + y0) (x6 + (1 : Int32)) (x7 + 1) σ
    else
      kL45 x1 x2 x3 x4 (y1 + y0) (x6 + (0 : Int32)) (x7 + 1) σ
def F_X11_next_b45 (kL14 : Int32 → Int32 → Int32 → Mem → Option (Int32 × Mem)) (kL27 : Int32 → Int32 → Int32 → Int32 → Mem → Option (Int32 × Mem)) : Nat → Int32 → Int32 → Int32 → Int32 → Int32 → Int32 → Int32 → Mem → Option (Int32 × Mem)
  | 0, _, _, _, _, _, _, _, _ => none
  | n + 1, x1, x2, x3, x4, x5, x6, x7, σ =>
    if (64 : Int32) ≤ x7 then
      if x5 ≤ x6 then
        if x6 ≤ 0 then
          kL27 x1 x2 x3 (x4 + 1) σ
        else
          if x2 ≤ x6 then
            kL27 x1 x2 x3 (x4 + 1) σ
          else
            kL27 (((10 : Int32) * x3) + x4) x6 x3 (x4 + 1) σ
      else
        if x5 ≤ 0 then
          kL27 x1 x2 x3 (x4 + 1) σ
        else
          if x2 ≤ x5 then
            kL27 x1 x2 x3 (x4 + 1) σ
          else
            kL27 (((10 : Int32) * x3) + x4) x5 x3 (x4 + 1) σ
    else
      Option.bind (F_X11_isLearnt x7 σ) fun q2 =>
      if q2 = 0 then
        F_X11_next_b84 kL14 kL27 (F_X11_next_b45 kL14 kL27 n) x1 x2 x3 x4 x6 x7 q2 (0 : Int32) x5 σ
      else
        Option.bind (F_X11_isBetter x7 x3 x4 σ) fun q4 =>
        if q4 = 0 then
          F_X11_next_b84 kL14 kL27 (F_X11_next_b45 kL14 kL27 n) x1 x2 x3 x4 x6 x7 q2 (0 : Int32) x5 σ
        else
          F_X11_next_b84 kL14 kL27 (F_X11_next_b45 kL14 kL27 n) x1 x2 x3 x4 x6 x7 q2 (1 : Int32) x5 σ
def F_X11_next_b27 (kL14 : Int32 → Int32 → Int32 → Mem → Option (Int32 × Mem)) : Nat → Int32 → Int32 → Int32 → Int32 → Mem → Option (Int32 × Mem)
  | 0, _, _, _, _, _ => none
  | n + 1, x1, x2, x3, x4, σ =>
    if (σ.1 24) ≤ x4 then
      kL14 x1 x2 (x3 + 1) σ
    else
      F_X11_next_b45 kL14 (F_X11_next_b27 kL14 n) 4000 x1 x2 x3 x4 (0 : Int32) (0 : Int32) (0 : Int32) σ
def F_X11_next_b14  : Nat → Int32 → Int32 → Int32 → Mem → Option (Int32 × Mem)
  | 0, _, _, _, _ => none
  | n + 1, x1, x2, x3, σ =>
    if (σ.1 24) ≤ x3 then
      some (x1, σ)
    else
      F_X11_next_b27 (F_X11_next_b14 n) 4000 x1 x2 x3 (x3 + (1 : Int32)) σ
def F_X11_next (σ : Mem) : Option (Int32 × Mem) :=
  Option.bind (stI σ 20 (0 : Int32)) fun σ1 =>
  F_X11_next_b14 4000 (-9 : Int32) (9999 : Int32) (0 : Int32) σ1
set_option maxHeartbeats 4000000 in
set_option maxRecDepth 20000 in
theorem w_X11_next_b84 {p : Program} {l : Launch} {e : Env} {s : State} {m : MethodId} {args : Array Value} {below : List Frame} {meth : Method} {c : Code} {D : va_G} {T : Nat → ClassId} {ad zz : Nat → Nat} (C : Cx p s m c cX11_next 9 RX11 (fA ad) D T ad zz) (hr : meth.sig.returnType = (some .int)) (hlk : meth.locks = false) {r : (Int32 × Mem)} (kL14 : Int32 → Int32 → Int32 → Mem → Option (Int32 × Mem)) (kL27 : Int32 → Int32 → Int32 → Int32 → Mem → Option (Int32 × Mem)) (kL45 : Int32 → Int32 → Int32 → Int32 → Int32 → Int32 → Int32 → Mem → Option (Int32 × Mem)) (hL14 : ∀ (x1 : Int32) (x2 : Int32) (x3 : Int32) (σ : Mem), kL14 x1 x2 x3 σ = some r → V p l e { frames := 3, cells := 0, slots := 0, locals := 69 } s m args below meth c 0 0 (MQ below (qC (some (.int r.1)) r.2 D T ad) args s 0 0 (fA ad)) 9 (fA ad) D T ad σ 14 [(0, .ref (ad 11)), (1, .int x1), (2, .int x2), (3, .int x3)] []) (hL27 : ∀ (x1 : Int32) (x2 : Int32) (x3 : Int32) (x4 : Int32) (σ : Mem), kL27 x1 x2 x3 x4 σ = some r → V p l e { frames := 3, cells := 0, slots := 0, locals := 69 } s m args below meth c 0 0 (MQ below (qC (some (.int r.1)) r.2 D T ad) args s 0 0 (fA ad)) 9 (fA ad) D T ad σ 27 [(0, .ref (ad 11)), (1, .int x1), (2, .int x2), (3, .int x3), (4, .int x4)] []) (hL45 : ∀ (x1 : Int32) (x2 : Int32) (x3 : Int32) (x4 : Int32) (x5 : Int32) (x6 : Int32) (x7 : Int32) (σ : Mem), kL45 x1 x2 x3 x4 x5 x6 x7 σ = some r → V p l e { frames := 3, cells := 0, slots := 0, locals := 69 } s m args below meth c 0 0 (MQ below (qC (some (.int r.1)) r.2 D T ad) args s 0 0 (fA ad)) 9 (fA ad) D T ad σ 45 [(0, .ref (ad 11)), (1, .int x1), (2, .int x2), (3, .int x3), (4, .int x4), (5, .int x5), (6, .int x6), (7, .int x7)] []) (x1 : Int32) (x2 : Int32) (x3 : Int32) (x4 : Int32) (x6 : Int32) (x7 : Int32) (x8 : Int32) (y0 : Int32) (y1 : Int32) (σ : Mem) (hF : F_X11_next_b84 kL14 kL27 kL45 x1 x2 x3 x4 x6 x7 x8 y0 y1 σ = some r) : V p l e { frames := 3, cells := 0, slots := 0, locals := 69 } s m args below meth c 0 0 (MQ below (qC (some (.int r.1)) r.2 D T ad) args s 0 0 (fA ad)) 9 (fA ad) D T ad σ 84 [(0, .ref (ad 11)), (1, .int x1), (2, .int x2), (3, .int x3), (4, .int x4), (6, .int x6), (7, .int x7), (8, .int x8)] [.int y0, .int y1] := by
  rw [F_X11_next_b84] at hF
  refine V_iadd C dX11_next_84 ?_
  refine V_istore C (lv' := [(5, .int (y1 + y0)), (0, .ref (ad 11)), (1, .int x1), (2, .int x2), (3, .int x3), (4, .int x4), (6, .int x6), (7, .int x7), (8, .int x8)]) dX11_next_85 (by decide) rfl ?_
  refine V_iload C 6 dX11_next_87 rfl ?_
  refine V_iload C 8 dX11_next_89 rfl ?_
  refine V_if_eq C 110 dX11_next_91 (by decide) hF (fun hF => ?_) (fun hF => ?_)
  · refine V_iconst C dX11_next_110 (v := (0 : Int32)) (by decide) ?_
    refine V_iadd C dX11_next_111 ?_
    refine V_istore C (lv' := [(6, .int (x6 + (0 : Int32))), (5, .int (y1 + y0)), (0, .ref (ad 11)), (1, .int x1), (2, .int x2), (3, .int x3), (4, .int x4), (7, .int x7), (8, .int x8)]) dX11_next_112 (by decide) rfl ?_
    refine V_iinc C (v := (x7 + 1)) (lv' := [(7, .int (x7 + 1)), (6, .int (x6 + (0 : Int32))), (5, .int (y1 + y0)), (0, .ref (ad 11)), (1, .int x1), (2, .int x2), (3, .int x3), (4, .int x4), (8, .int x8)]) 7 dX11_next_114 rfl rfl (by decide) rfl ?_
    refine V_goto C 45 dX11_next_117 (by decide) ?_
    refine V_lv (ks := [3, 4, 5, 6, 7, 2, 1, 0]) rfl ?_
    exact hL45 x1 x2 x3 x4 (y1 + y0) (x6 + (0 : Int32)) (x7 + 1) σ hF
  · refine V_aload_n C 1 dX11_next_94 rfl ?_
    refine V_iload C 7 dX11_next_95 rfl ?_
    refine V_iload_n C 4 dX11_next_97 rfl ?_
    refine V_iload C 5 dX11_next_98 rfl ?_
    obtain ⟨q3, hq3, hF⟩ := bnd hF
    refine cs_X11_213 C (ct_X11_isBetter hq3) rfl ⟨by decide, by decide⟩ (Nat.le_of_ble_eq_true rfl) dX11_next_100 ⟨Nat.le_refl 0, Nat.le_refl 0⟩ ?_
    refine V_if_ne C 110 dX11_next_103 (by decide) hF (fun hF => ?_) (fun hF => ?_)
    · refine V_iconst C dX11_next_110 (v := (0 : Int32)) (by decide) ?_
      refine V_iadd C dX11_next_111 ?_
      refine V_istore C (lv' := [(6, .int (x6 + (0 : Int32))), (5, .int (y1 + y0)), (0, .ref (ad 11)), (1, .int x1), (2, .int x2), (3, .int x3), (4, .int x4), (7, .int x7), (8, .int x8)]) dX11_next_112 (by decide) rfl ?_
      refine V_iinc C (v := (x7 + 1)) (lv' := [(7, .int (x7 + 1)), (6, .int (x6 + (0 : Int32))), (5, .int (y1 + y0)), (0, .ref (ad 11)), (1, .int x1), (2, .int x2), (3, .int x3), (4, .int x4), (8, .int x8)]) 7 dX11_next_114 rfl rfl (by decide) rfl ?_
      refine V_goto C 45 dX11_next_117 (by decide) ?_
      refine V_lv (ks := [3, 4, 5, 6, 7, 2, 1, 0]) rfl ?_
      exact hL45 x1 x2 x3 x4 (y1 + y0) (x6 + (0 : Int32)) (x7 + 1) σ hF
    · refine V_iconst C dX11_next_106 (v := (1 : Int32)) (by decide) ?_
      refine V_goto C 111 dX11_next_107 (by decide) ?_
      refine V_iadd C dX11_next_111 ?_
      refine V_istore C (lv' := [(6, .int (x6 + (1 : Int32))), (5, .int (y1 + y0)), (0, .ref (ad 11)), (1, .int x1), (2, .int x2), (3, .int x3), (4, .int x4), (7, .int x7), (8, .int x8)]) dX11_next_112 (by decide) rfl ?_
      refine V_iinc C (v := (x7 + 1)) (lv' := [(7, .int (x7 + 1)), (6, .int (x6 + (1 : Int32))), (5, .int (y1 + y0)), (0, .ref (ad 11)), (1, .int x1), (2, .int x2), (3, .int x3), (4, .int x4), (8, .int x8)]) 7 dX11_next_114 rfl rfl (by decide) rfl ?_
      refine V_goto C 45 dX11_next_117 (by decide) ?_
      refine V_lv (ks := [3, 4, 5, 6, 7, 2, 1, 0]) rfl ?_
      exact hL45 x1 x2 x3 x4 (y1 + y0) (x6 + (1 : Int32)) (x7 + 1) σ hF
set_option maxHeartbeats 4000000 in
set_option maxRecDepth 20000 in
theorem w_X11_next_b45 {p : Program} {l : Launch} {e : Env} {s : State} {m : MethodId} {args : Array Value} {below : List Frame} {meth : Method} {c : Code} {D : va_G} {T : Nat → ClassId} {ad zz : Nat → Nat} (C : Cx p s m c cX11_next 9 RX11 (fA ad) D T ad zz) (hr : meth.sig.returnType = (some .int)) (hlk : meth.locks = false) {r : (Int32 × Mem)} (kL14 : Int32 → Int32 → Int32 → Mem → Option (Int32 × Mem)) (kL27 : Int32 → Int32 → Int32 → Int32 → Mem → Option (Int32 × Mem)) (hL14 : ∀ (x1 : Int32) (x2 : Int32) (x3 : Int32) (σ : Mem), kL14 x1 x2 x3 σ = some r → V p l e { frames := 3, cells := 0, slots := 0, locals := 69 } s m args below meth c 0 0 (MQ below (qC (some (.int r.1)) r.2 D T ad) args s 0 0 (fA ad)) 9 (fA ad) D T ad σ 14 [(0, .ref (ad 11)), (1, .int x1), (2, .int x2), (3, .int x3)] []) (hL27 : ∀ (x1 : Int32) (x2 : Int32) (x3 : Int32) (x4 : Int32) (σ : Mem), kL27 x1 x2 x3 x4 σ = some r → V p l e { frames := 3, cells := 0, slots := 0, locals := 69 } s m args below meth c 0 0 (MQ below (qC (some (.int r.1)) r.2 D T ad) args s 0 0 (fA ad)) 9 (fA ad) D T ad σ 27 [(0, .ref (ad 11)), (1, .int x1), (2, .int x2), (3, .int x3), (4, .int x4)] []) : ∀ (n : Nat), ∀ (x1 : Int32) (x2 : Int32) (x3 : Int32) (x4 : Int32) (x5 : Int32) (x6 : Int32) (x7 : Int32) (σ : Mem), F_X11_next_b45 kL14 kL27 n x1 x2 x3 x4 x5 x6 x7 σ = some r → V p l e { frames := 3, cells := 0, slots := 0, locals := 69 } s m args below meth c 0 0 (MQ below (qC (some (.int r.1)) r.2 D T ad) args s 0 0 (fA ad)) 9 (fA ad) D T ad σ 45 [(0, .ref (ad 11)), (1, .int x1), (2, .int x2), (3, .int x3), (4, .int x4), (5, .int x5), (6, .int x6), (7, .int x7)] [] := by
  intro n
  induction n with
  | zero =>
    intro x1 x2 x3 x4 x5 x6 x7 σ hF
    cases (show (none : Option (Int32 × Mem)) = some r from hF)
  | succ n ih =>
    intro x1 x2 x3 x4 x5 x6 x7 σ hF
    rw [F_X11_next_b45] at hF
    refine V_iload C 7 dX11_next_45 rfl ?_
    refine V_bipush C dX11_next_47 (v := (64 : Int32)) (by decide) ?_
    refine V_icmp_ge C 120 dX11_next_49 (by decide) hF (fun hF => ?_) (fun hF => ?_)
    · refine V_iload C 5 dX11_next_120 rfl ?_
      refine V_iload C 6 dX11_next_122 rfl ?_
      refine V_icmp_le C 132 dX11_next_124 (by decide) hF (fun hF => ?_) (fun hF => ?_)
      · refine V_iload C 6 dX11_next_132 rfl ?_
        refine V_istore C (lv' := [(7, .int x6), (0, .ref (ad 11)), (1, .int x1), (2, .int x2), (3, .int x3), (4, .int x4), (5, .int x5), (6, .int x6)]) dX11_next_134 (by decide) rfl ?_
        refine V_iload C 0 dX11_next_136 rfl ?_
        refine V_if_le C 158 dX11_next_138 (by decide) hF (fun hF => ?_) (fun hF => ?_)
        · refine V_iinc C (v := (x4 + 1)) (lv' := [(4, .int (x4 + 1)), (7, .int x6), (0, .ref (ad 11)), (1, .int x1), (2, .int x2), (3, .int x3), (5, .int x5), (6, .int x6)]) 5 dX11_next_158 rfl rfl (by decide) rfl ?_
          refine V_goto C 27 dX11_next_161 (by decide) ?_
          refine V_lv (ks := [2, 3, 4, 5, 0]) rfl ?_
          exact hL27 x1 x2 x3 (x4 + 1) σ hF
        · refine V_iload C 0 dX11_next_141 rfl ?_
          refine V_iload_n C 3 dX11_next_143 rfl ?_
          refine V_icmp_ge C 158 dX11_next_144 (by decide) hF (fun hF => ?_) (fun hF => ?_)
          · refine V_iinc C (v := (x4 + 1)) (lv' := [(4, .int (x4 + 1)), (7, .int x6), (0, .ref (ad 11)), (1, .int x1), (2, .int x2), (3, .int x3), (5, .int x5), (6, .int x6)]) 5 dX11_next_158 rfl rfl (by decide) rfl ?_
            refine V_goto C 27 dX11_next_161 (by decide) ?_
            refine V_lv (ks := [2, 3, 4, 5, 0]) rfl ?_
            exact hL27 x1 x2 x3 (x4 + 1) σ hF
          · refine V_iload C 0 dX11_next_147 rfl ?_
            refine V_istore_n C (lv' := [(2, .int x6), (7, .int x6), (0, .ref (ad 11)), (1, .int x1), (3, .int x3), (4, .int x4), (5, .int x5), (6, .int x6)]) dX11_next_149 rfl (by decide) rfl ?_
            refine V_bipush C dX11_next_150 (v := (10 : Int32)) (by decide) ?_
            refine V_iload_n C 4 dX11_next_152 rfl ?_
            refine V_imul C dX11_next_153 ?_
            refine V_iload C 5 dX11_next_154 rfl ?_
            refine V_iadd C dX11_next_156 ?_
            refine V_istore_n C (lv' := [(1, .int (((10 : Int32) * x3) + x4)), (2, .int x6), (7, .int x6), (0, .ref (ad 11)), (3, .int x3), (4, .int x4), (5, .int x5), (6, .int x6)]) dX11_next_157 rfl (by decide) rfl ?_
            refine V_iinc C (v := (x4 + 1)) (lv' := [(4, .int (x4 + 1)), (1, .int (((10 : Int32) * x3) + x4)), (2, .int x6), (7, .int x6), (0, .ref (ad 11)), (3, .int x3), (5, .int x5), (6, .int x6)]) 5 dX11_next_158 rfl rfl (by decide) rfl ?_
            refine V_goto C 27 dX11_next_161 (by decide) ?_
            refine V_lv (ks := [4, 1, 2, 5, 0]) rfl ?_
            exact hL27 (((10 : Int32) * x3) + x4) x6 x3 (x4 + 1) σ hF
      · refine V_iload C 5 dX11_next_127 rfl ?_
        refine V_goto C 134 dX11_next_129 (by decide) ?_
        refine V_istore C (lv' := [(7, .int x5), (0, .ref (ad 11)), (1, .int x1), (2, .int x2), (3, .int x3), (4, .int x4), (5, .int x5), (6, .int x6)]) dX11_next_134 (by decide) rfl ?_
        refine V_iload C 0 dX11_next_136 rfl ?_
        refine V_if_le C 158 dX11_next_138 (by decide) hF (fun hF => ?_) (fun hF => ?_)
        · refine V_iinc C (v := (x4 + 1)) (lv' := [(4, .int (x4 + 1)), (7, .int x5), (0, .ref (ad 11)), (1, .int x1), (2, .int x2), (3, .int x3), (5, .int x5), (6, .int x6)]) 5 dX11_next_158 rfl rfl (by decide) rfl ?_
          refine V_goto C 27 dX11_next_161 (by decide) ?_
          refine V_lv (ks := [2, 3, 4, 5, 0]) rfl ?_
          exact hL27 x1 x2 x3 (x4 + 1) σ hF
        · refine V_iload C 0 dX11_next_141 rfl ?_
          refine V_iload_n C 3 dX11_next_143 rfl ?_
          refine V_icmp_ge C 158 dX11_next_144 (by decide) hF (fun hF => ?_) (fun hF => ?_)
          · refine V_iinc C (v := (x4 + 1)) (lv' := [(4, .int (x4 + 1)), (7, .int x5), (0, .ref (ad 11)), (1, .int x1), (2, .int x2), (3, .int x3), (5, .int x5), (6, .int x6)]) 5 dX11_next_158 rfl rfl (by decide) rfl ?_
            refine V_goto C 27 dX11_next_161 (by decide) ?_
            refine V_lv (ks := [2, 3, 4, 5, 0]) rfl ?_
            exact hL27 x1 x2 x3 (x4 + 1) σ hF
          · refine V_iload C 0 dX11_next_147 rfl ?_
            refine V_istore_n C (lv' := [(2, .int x5), (7, .int x5), (0, .ref (ad 11)), (1, .int x1), (3, .int x3), (4, .int x4), (5, .int x5), (6, .int x6)]) dX11_next_149 rfl (by decide) rfl ?_
            refine V_bipush C dX11_next_150 (v := (10 : Int32)) (by decide) ?_
            refine V_iload_n C 4 dX11_next_152 rfl ?_
            refine V_imul C dX11_next_153 ?_
            refine V_iload C 5 dX11_next_154 rfl ?_
            refine V_iadd C dX11_next_156 ?_
            refine V_istore_n C (lv' := [(1, .int (((10 : Int32) * x3) + x4)), (2, .int x5), (7, .int x5), (0, .ref (ad 11)), (3, .int x3), (4, .int x4), (5, .int x5), (6, .int x6)]) dX11_next_157 rfl (by decide) rfl ?_
            refine V_iinc C (v := (x4 + 1)) (lv' := [(4, .int (x4 + 1)), (1, .int (((10 : Int32) * x3) + x4)), (2, .int x5), (7, .int x5), (0, .ref (ad 11)), (3, .int x3), (5, .int x5), (6, .int x6)]) 5 dX11_next_158 rfl rfl (by decide) rfl ?_
            refine V_goto C 27 dX11_next_161 (by decide) ?_
            refine V_lv (ks := [4, 1, 2, 5, 0]) rfl ?_
            exact hL27 (((10 : Int32) * x3) + x4) x5 x3 (x4 + 1) σ hF
    · refine V_aload_n C 0 dX11_next_52 rfl ?_
      refine V_iload C 7 dX11_next_53 rfl ?_
      obtain ⟨q2, hq2, hF⟩ := bnd hF
      refine cs_X11_216 C (ct_X11_isLearnt hq2) rfl ⟨by decide, by decide⟩ (Nat.le_of_ble_eq_true rfl) dX11_next_55 ⟨Nat.le_refl 0, Nat.le_refl 0⟩ ?_
      refine V_istore C (lv' := [(8, .int q2), (0, .ref (ad 11)), (1, .int x1), (2, .int x2), (3, .int x3), (4, .int x4), (5, .int x5), (6, .int x6), (7, .int x7)]) dX11_next_58 (by decide) rfl ?_
      refine V_iload C 6 dX11_next_60 rfl ?_
      refine V_iload C 0 dX11_next_62 rfl ?_
      refine V_if_eq C 83 dX11_next_64 (by decide) hF (fun hF => ?_) (fun hF => ?_)
      · refine V_iconst C dX11_next_83 (v := (0 : Int32)) (by decide) ?_
        refine V_lv (ks := [1, 2, 3, 4, 5, 7, 8, 0]) rfl ?_
        exact w_X11_next_b84 C hr hlk kL14 kL27 (F_X11_next_b45 kL14 kL27 n) hL14 hL27 ih x1 x2 x3 x4 x6 x7 q2 (0 : Int32) x5 σ hF
      · refine V_aload_n C 1 dX11_next_67 rfl ?_
        refine V_iload C 8 dX11_next_68 rfl ?_
        refine V_iload_n C 4 dX11_next_70 rfl ?_
        refine V_iload C 5 dX11_next_71 rfl ?_
        obtain ⟨q4, hq4, hF⟩ := bnd hF
        refine cs_X11_213 C (ct_X11_isBetter hq4) rfl ⟨by decide, by decide⟩ (Nat.le_of_ble_eq_true rfl) dX11_next_73 ⟨Nat.le_refl 0, Nat.le_refl 0⟩ ?_
        refine V_if_eq C 83 dX11_next_76 (by decide) hF (fun hF => ?_) (fun hF => ?_)
        · refine V_iconst C dX11_next_83 (v := (0 : Int32)) (by decide) ?_
          refine V_lv (ks := [1, 2, 3, 4, 5, 7, 8, 0]) rfl ?_
          exact w_X11_next_b84 C hr hlk kL14 kL27 (F_X11_next_b45 kL14 kL27 n) hL14 hL27 ih x1 x2 x3 x4 x6 x7 q2 (0 : Int32) x5 σ hF
        · refine V_iconst C dX11_next_79 (v := (1 : Int32)) (by decide) ?_
          refine V_goto C 84 dX11_next_80 (by decide) ?_
          refine V_lv (ks := [1, 2, 3, 4, 5, 7, 8, 0]) rfl ?_
          exact w_X11_next_b84 C hr hlk kL14 kL27 (F_X11_next_b45 kL14 kL27 n) hL14 hL27 ih x1 x2 x3 x4 x6 x7 q2 (1 : Int32) x5 σ hF
set_option maxHeartbeats 4000000 in
set_option maxRecDepth 20000 in
theorem w_X11_next_b27 {p : Program} {l : Launch} {e : Env} {s : State} {m : MethodId} {args : Array Value} {below : List Frame} {meth : Method} {c : Code} {D : va_G} {T : Nat → ClassId} {ad zz : Nat → Nat} (C : Cx p s m c cX11_next 9 RX11 (fA ad) D T ad zz) (hr : meth.sig.returnType = (some .int)) (hlk : meth.locks = false) {r : (Int32 × Mem)} (kL14 : Int32 → Int32 → Int32 → Mem → Option (Int32 × Mem)) (hL14 : ∀ (x1 : Int32) (x2 : Int32) (x3 : Int32) (σ : Mem), kL14 x1 x2 x3 σ = some r → V p l e { frames := 3, cells := 0, slots := 0, locals := 69 } s m args below meth c 0 0 (MQ below (qC (some (.int r.1)) r.2 D T ad) args s 0 0 (fA ad)) 9 (fA ad) D T ad σ 14 [(0, .ref (ad 11)), (1, .int x1), (2, .int x2), (3, .int x3)] []) : ∀ (n : Nat), ∀ (x1 : Int32) (x2 : Int32) (x3 : Int32) (x4 : Int32) (σ : Mem), F_X11_next_b27 kL14 n x1 x2 x3 x4 σ = some r → V p l e { frames := 3, cells := 0, slots := 0, locals := 69 } s m args below meth c 0 0 (MQ below (qC (some (.int r.1)) r.2 D T ad) args s 0 0 (fA ad)) 9 (fA ad) D T ad σ 27 [(0, .ref (ad 11)), (1, .int x1), (2, .int x2), (3, .int x3), (4, .int x4)] [] := by
  intro n
  induction n with
  | zero =>
    intro x1 x2 x3 x4 σ hF
    cases (show (none : Option (Int32 × Mem)) = some r from hF)
  | succ n ih =>
    intro x1 x2 x3 x4 σ hF
    rw [F_X11_next_b27] at hF
    refine V_iload C 4 dX11_next_27 rfl ?_
    refine V_aload_n C 0 dX11_next_29 rfl ?_
    refine gf_X11_67 C dX11_next_30 ?_
    refine V_icmp_ge C 164 dX11_next_33 (by decide) hF (fun hF => ?_) (fun hF => ?_)
    · refine V_iinc C (v := (x3 + 1)) (lv' := [(3, .int (x3 + 1)), (0, .ref (ad 11)), (1, .int x1), (2, .int x2), (4, .int x4)]) 3 dX11_next_164 rfl rfl (by decide) rfl ?_
      refine V_goto C 14 dX11_next_167 (by decide) ?_
      refine V_lv (ks := [1, 2, 3, 0]) rfl ?_
      exact hL14 x1 x2 (x3 + 1) σ hF
    · refine V_iconst C dX11_next_36 (v := (0 : Int32)) (by decide) ?_
      refine V_istore C (lv' := [(5, .int (0 : Int32)), (0, .ref (ad 11)), (1, .int x1), (2, .int x2), (3, .int x3), (4, .int x4)]) dX11_next_37 (by decide) rfl ?_
      refine V_iconst C dX11_next_39 (v := (0 : Int32)) (by decide) ?_
      refine V_istore C (lv' := [(6, .int (0 : Int32)), (5, .int (0 : Int32)), (0, .ref (ad 11)), (1, .int x1), (2, .int x2), (3, .int x3), (4, .int x4)]) dX11_next_40 (by decide) rfl ?_
      refine V_iconst C dX11_next_42 (v := (0 : Int32)) (by decide) ?_
      refine V_istore C (lv' := [(7, .int (0 : Int32)), (6, .int (0 : Int32)), (5, .int (0 : Int32)), (0, .ref (ad 11)), (1, .int x1), (2, .int x2), (3, .int x3), (4, .int x4)]) dX11_next_43 (by decide) rfl ?_
      refine V_lv (ks := [3, 4, 5, 6, 7, 2, 1, 0]) rfl ?_
      exact w_X11_next_b45 C hr hlk kL14 (F_X11_next_b27 kL14 n) hL14 ih 4000 x1 x2 x3 x4 (0 : Int32) (0 : Int32) (0 : Int32) σ hF
set_option maxHeartbeats 4000000 in
set_option maxRecDepth 20000 in
theorem w_X11_next_b14 {p : Program} {l : Launch} {e : Env} {s : State} {m : MethodId} {args : Array Value} {below : List Frame} {meth : Method} {c : Code} {D : va_G} {T : Nat → ClassId} {ad zz : Nat → Nat} (C : Cx p s m c cX11_next 9 RX11 (fA ad) D T ad zz) (hr : meth.sig.returnType = (some .int)) (hlk : meth.locks = false) {r : (Int32 × Mem)}  : ∀ (n : Nat), ∀ (x1 : Int32) (x2 : Int32) (x3 : Int32) (σ : Mem), F_X11_next_b14  n x1 x2 x3 σ = some r → V p l e { frames := 3, cells := 0, slots := 0, locals := 69 } s m args below meth c 0 0 (MQ below (qC (some (.int r.1)) r.2 D T ad) args s 0 0 (fA ad)) 9 (fA ad) D T ad σ 14 [(0, .ref (ad 11)), (1, .int x1), (2, .int x2), (3, .int x3)] [] := by
  intro n
  induction n with
  | zero =>
    intro x1 x2 x3 σ hF
    cases (show (none : Option (Int32 × Mem)) = some r from hF)
  | succ n ih =>
    intro x1 x2 x3 σ hF
    rw [F_X11_next_b14] at hF
    refine V_iload_n C 3 dX11_next_14 rfl ?_
    refine V_aload_n C 0 dX11_next_15 rfl ?_
    refine gf_X11_67 C dX11_next_16 ?_
    refine V_icmp_ge C 170 dX11_next_19 (by decide) hF (fun hF => ?_) (fun hF => ?_)
    · refine V_iload_n C 1 dX11_next_170 rfl ?_
      cases hF
      exact V_iret C hr hlk rfl rfl dX11_next_171
    · refine V_iload_n C 3 dX11_next_22 rfl ?_
      refine V_iconst C dX11_next_23 (v := (1 : Int32)) (by decide) ?_
      refine V_iadd C dX11_next_24 ?_
      refine V_istore C (lv' := [(4, .int (x3 + (1 : Int32))), (0, .ref (ad 11)), (1, .int x1), (2, .int x2), (3, .int x3)]) dX11_next_25 (by decide) rfl ?_
      refine V_lv (ks := [1, 2, 3, 4, 0]) rfl ?_
      exact w_X11_next_b27 C hr hlk (F_X11_next_b14 n) ih 4000 x1 x2 x3 (x3 + (1 : Int32)) σ hF
set_option maxHeartbeats 4000000 in
set_option maxRecDepth 20000 in
theorem ct_X11_next {σ : Mem} {r : (Int32 × Mem)} (hF : F_X11_next σ = some r) : Ct yX11_next cX11_next 9 (some .int) 3 69 (fun ad zz => [.ref (ad 11)]) σ (fun ad => (some (.int r.1))) r.2 := by
  refine Ct_of (by decide +kernel) (lv := fun ad zz => [(0, .ref (ad 11))]) (fun _ _ => rfl) (fun _ _ => Nat.le_of_ble_eq_true rfl) (fun p l e s m args below meth c D T ad zz C hr hlk => ?_)
  rw [F_X11_next] at hF
  refine V_aload_n C 0 dX11_next_0 rfl ?_
  refine V_iconst C dX11_next_1 (v := (0 : Int32)) (by decide) ?_
  obtain ⟨σ1, hs1, hF⟩ := bnd hF
  refine pf_X11_56 C hs1 dX11_next_2 ?_
  refine V_bipush C dX11_next_5 (v := (-9 : Int32)) (by decide) ?_
  refine V_istore_n C (lv' := [(1, .int (-9 : Int32)), (0, .ref (ad 11))]) dX11_next_7 rfl (by decide) rfl ?_
  refine V_sipush C dX11_next_8 (v := (9999 : Int32)) (by decide) ?_
  refine V_istore_n C (lv' := [(2, .int (9999 : Int32)), (1, .int (-9 : Int32)), (0, .ref (ad 11))]) dX11_next_11 rfl (by decide) rfl ?_
  refine V_iconst C dX11_next_12 (v := (0 : Int32)) (by decide) ?_
  refine V_istore_n C (lv' := [(3, .int (0 : Int32)), (2, .int (9999 : Int32)), (1, .int (-9 : Int32)), (0, .ref (ad 11))]) dX11_next_13 rfl (by decide) rfl ?_
  refine V_lv (ks := [3, 2, 1, 0]) rfl ?_
  exact w_X11_next_b14 C hr hlk 4000 (-9 : Int32) (9999 : Int32) (0 : Int32) σ1 hF

def F_X11_gain (a1 : Int32) (a2 : Int32) (a3 : Int32) (a4 : Int32) (a5 : Int32) (σ : Mem) : Option Int32 :=
  if 0 < (((a1 + ((5 : Int32) * a2)) - a3) - ((5 : Int32) * a4)) then
    some ((6 : Int32) - a2)
  else
    if (((a1 + ((5 : Int32) * a2)) - a3) - ((5 : Int32) * a4)) = 0 then
      if a5 = 0 then
        some ((0 : Int32) - a2)
      else
        some ((6 : Int32) - a2)
    else
      some ((0 : Int32) - a2)
set_option maxHeartbeats 4000000 in
set_option maxRecDepth 20000 in
theorem ct_X11_gain {a1 : Int32} {a2 : Int32} {a3 : Int32} {a4 : Int32} {a5 : Int32} {σ : Mem} {r : Int32} (hF : F_X11_gain a1 a2 a3 a4 a5 σ = some r) : Ct yX11_gain cX11_gain 6 (some .int) 0 0 (fun ad zz => [.int a1, .int a2, .int a3, .int a4, .int a5]) σ (fun ad => (some (.int r))) σ := by
  refine Ct_of (by decide +kernel) (lv := fun ad zz => [(0, .int a1), (1, .int a2), (2, .int a3), (3, .int a4), (4, .int a5)]) (fun _ _ => rfl) (fun _ _ => Nat.le_of_ble_eq_true rfl) (fun p l e s m args below meth c D T ad zz C hr hlk => ?_)
  rw [F_X11_gain] at hF
  refine V_iload_n C 0 dX11_gain_0 rfl ?_
  refine V_iconst C dX11_gain_1 (v := (5 : Int32)) (by decide) ?_
  refine V_iload_n C 1 dX11_gain_2 rfl ?_
  refine V_imul C dX11_gain_3 ?_
  refine V_iadd C dX11_gain_4 ?_
  refine V_iload_n C 2 dX11_gain_5 rfl ?_
  refine V_isub C dX11_gain_6 ?_
  refine V_iconst C dX11_gain_7 (v := (5 : Int32)) (by decide) ?_
  refine V_iload_n C 3 dX11_gain_8 rfl ?_
  refine V_imul C dX11_gain_9 ?_
  refine V_isub C dX11_gain_10 ?_
  refine V_istore C (lv' := [(5, .int (((a1 + ((5 : Int32) * a2)) - a3) - ((5 : Int32) * a4))), (0, .int a1), (1, .int a2), (2, .int a3), (3, .int a4), (4, .int a5)]) dX11_gain_11 (by decide) rfl ?_
  refine V_iload C 0 dX11_gain_13 rfl ?_
  refine V_if_gt C 28 dX11_gain_15 (by decide) hF (fun hF => ?_) (fun hF => ?_)
  · refine V_bipush C dX11_gain_28 (v := (6 : Int32)) (by decide) ?_
    refine V_goto C 34 dX11_gain_30 (by decide) ?_
    refine V_iload_n C 2 dX11_gain_34 rfl ?_
    refine V_isub C dX11_gain_35 ?_
    cases hF
    exact V_iret C hr hlk rfl rfl dX11_gain_36
  · refine V_iload C 0 dX11_gain_18 rfl ?_
    refine V_if_ne C 33 dX11_gain_20 (by decide) hF (fun hF => ?_) (fun hF => ?_)
    · refine V_iconst C dX11_gain_33 (v := (0 : Int32)) (by decide) ?_
      refine V_iload_n C 2 dX11_gain_34 rfl ?_
      refine V_isub C dX11_gain_35 ?_
      cases hF
      exact V_iret C hr hlk rfl rfl dX11_gain_36
    · refine V_iload C 5 dX11_gain_23 rfl ?_
      refine V_if_eq C 33 dX11_gain_25 (by decide) hF (fun hF => ?_) (fun hF => ?_)
      · refine V_iconst C dX11_gain_33 (v := (0 : Int32)) (by decide) ?_
        refine V_iload_n C 2 dX11_gain_34 rfl ?_
        refine V_isub C dX11_gain_35 ?_
        cases hF
        exact V_iret C hr hlk rfl rfl dX11_gain_36
      · refine V_bipush C dX11_gain_28 (v := (6 : Int32)) (by decide) ?_
        refine V_goto C 34 dX11_gain_30 (by decide) ?_
        refine V_iload_n C 2 dX11_gain_34 rfl ?_
        refine V_isub C dX11_gain_35 ?_
        cases hF
        exact V_iret C hr hlk rfl rfl dX11_gain_36
