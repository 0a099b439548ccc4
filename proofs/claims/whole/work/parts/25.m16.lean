-- walks: X11_saddles X11_divisor X11_power X11_chance X11_seed X11_days X11_keep X11_again
def F_X11_saddles_b145 (kL65 : Int32 → Int32 → Int32 → Int32 → Int32 → Int32 → Int32 → Mem → Option (Int32 × Mem)) (kL106 : Int32 → Int32 → Int32 → Int32 → Int32 → Int32 → Int32 → Int32 → Int32 → Int32 → Mem → Option (Int32 × Mem)) (x1 : Int32) (x2 : Int32) (x3 : Int32) (x4 : Int32) (x5 : Int32) (x6 : Int32) (x7 : Int32) (x9 : Int32) (x10 : Int32) (y0 : Int32) (σ : Mem) : Option (Int32 × Mem) :=
  Option.bind (F_X11_isIn x7 x10 σ) fun q9 =>
  if q9 = 0 then
    kL106 x1 x2 x3 x4 x5 x6 x7 y0 (x9 + (0 : Int32)) (x10 + 1) σ
  else
    Option.bind (rdA σ 55 (((4 : Int32) * x10) + x2)) fun v10 =>
    kL106 x1 x2 x3 x4 x5 x6 x7 y0 (x9 + v10) (x10 + 1) σ
def F_X11_saddles_b106 (kL65 : Int32 → Int32 → Int32 → Int32 → Int32 → Int32 → Int32 → Mem → Option (Int32 × Mem)) : Nat → Int32 → Int32 → Int32 → Int32 → Int32 → Int32 → Int32 → Int32 → Int32 → Int32 → Mem → Option (Int32 × Mem)
  | 0, _, _, _, _, _, _, _, _, _, _, _ => none
  | n + 1, x1, x2, x3, x4, x5, x6, x7, x8, x9, x10, σ =>
    if (σ.1 24) ≤ x10 then
      if x8 = 0 then
        kL65 x1 x2 x3 x4 x5 x6 (x7 + 1) σ
      else
        if x9 = x3 then
          kL65 x1 x2 x3 x4 (x5 + 1) (x6 &&& x7) (x7 + 1) σ
        else
          kL65 x1 x2 x3 x4 x5 x6 (x7 + 1) σ
    else
      if x8 = 0 then
        F_X11_saddles_b145 kL65 (F_X11_saddles_b106 kL65 n) x1 x2 x3 x4 x5 x6 x7 x9 x10 (0 : Int32) σ
      else
        Option.bind (F_X11_isIn x7 x10 σ) fun q11 =>
        if q11 = 0 then
          F_X11_saddles_b145 kL65 (F_X11_saddles_b106 kL65 n) x1 x2 x3 x4 x5 x6 x7 x9 x10 (1 : Int32) σ
        else
          Option.bind (F_X11_isEnough x1 x10 σ) fun q12 =>
          if q12 = 0 then
            F_X11_saddles_b145 kL65 (F_X11_saddles_b106 kL65 n) x1 x2 x3 x4 x5 x6 x7 x9 x10 (0 : Int32) σ
          else
            F_X11_saddles_b145 kL65 (F_X11_saddles_b106 kL65 n) x1 x2 x3 x4 x5 x6 x7 x9 x10 (1 : Int32) σ
def F_X11_saddles_b65  : Nat → Int32 → Int32 → Int32 → Int32 → Int32 → Int32 → Int32 → Mem → Option (Int32 × Mem)
  | 0, _, _, _, _, _, _, _, _ => none
  | n + 1, x1, x2, x3, x4, x5, x6, x7, σ =>
    if ((1 : Int32) <<< ((σ.1 24) &&& 31)) ≤ x7 then
      if x4 = 0 then
        some (x5, σ)
      else
        if x5 = 0 then
          some ((-9 : Int32), σ)
        else
          some (x6, σ)
    else
      Option.bind (F_X11_many x7 σ) fun q7 =>
      Option.bind (rdA σ 54 ((7 : Int32) * x1)) fun v8 =>
      if v8 < q7 then
        F_X11_saddles_b106 (F_X11_saddles_b65 n) 4000 x1 x2 x3 x4 x5 x6 x7 (0 : Int32) (0 : Int32) (0 : Int32) σ
      else
        F_X11_saddles_b106 (F_X11_saddles_b65 n) 4000 x1 x2 x3 x4 x5 x6 x7 (1 : Int32) (0 : Int32) (0 : Int32) σ
def F_X11_saddles (a1 : Int32) (a2 : Int32) (a3 : Int32) (a4 : Int32) (σ : Mem) : Option (Int32 × Mem) :=
  Option.bind (stI σ 20 (0 : Int32)) fun σ1 =>
  Option.bind (F_X11_noHorse a1 σ1) fun q2 =>
  if q2 = 0 then
    Option.bind (F_X11_in ((a2).toInt64) (0 : Int64) (2 : Int64) σ1) fun q3 =>
    if q3 = 0 then
      some ((-2 : Int32), σ1)
    else
      Option.bind (F_X11_in ((a3).toInt64) (0 : Int64) (27 : Int64) σ1) fun q4 =>
      if q4 = 0 then
        some ((-2 : Int32), σ1)
      else
        Option.bind (F_X11_in ((a4).toInt64) (0 : Int64) (1 : Int64) σ1) fun q5 =>
        if q5 = 0 then
          some ((-2 : Int32), σ1)
        else
          Option.bind (F_X11_all σ1) fun q6 =>
          F_X11_saddles_b65 4000 a1 a2 a3 a4 (0 : Int32) q6 (0 : Int32) σ1
  else
    some ((-1 : Int32), σ1)
set_option maxHeartbeats 4000000 in
set_option maxRecDepth 20000 in
theorem w_X11_saddles_b145 {p : Program} {l : Launch} {e : Env} {s : State} {m : MethodId} {args : Array Value} {below : List Frame} {meth : Method} {c : Code} {D : va_G} {T : Nat → ClassId} {ad zz : Nat → Nat} (C : Cx p s m c cX11_saddles 11 RX11 (fA ad) D T ad zz) (hr : meth.sig.returnType = (some .int)) (hlk : meth.locks = false) {r : (Int32 × Mem)} (kL65 : Int32 → Int32 → Int32 → Int32 → Int32 → Int32 → Int32 → Mem → Option (Int32 × Mem)) (kL106 : Int32 → Int32 → Int32 → Int32 → Int32 → Int32 → Int32 → Int32 → Int32 → Int32 → Mem → Option (Int32 × Mem)) (hL65 : ∀ (x1 : Int32) (x2 : Int32) (x3 : Int32) (x4 : Int32) (x5 : Int32) (x6 : Int32) (x7 : Int32) (σ : Mem), kL65 x1 x2 x3 x4 x5 x6 x7 σ = some r → V p l e { frames := 3, cells := 0, slots := 0, locals := 69 } s m args below meth c 0 0 (MQ below (qC (some (.int r.1)) r.2 D T ad) args s 0 0 (fA ad)) 11 (fA ad) D T ad σ 65 [(0, .ref (ad 11)), (1, .int x1), (2, .int x2), (3, .int x3), (4, .int x4), (5, .int x5), (6, .int x6), (7, .int x7)] []) (hL106 : ∀ (x1 : Int32) (x2 : Int32) (x3 : Int32) (x4 : Int32) (x5 : Int32) (x6 : Int32) (x7 : Int32) (x8 : Int32) (x9 : Int32) (x10 : Int32) (σ : Mem), kL106 x1 x2 x3 x4 x5 x6 x7 x8 x9 x10 σ = some r → V p l e { frames := 3, cells := 0, slots := 0, locals := 69 } s m args below meth c 0 0 (MQ below (qC (some (.int r.1)) r.2 D T ad) args s 0 0 (fA ad)) 11 (fA ad) D T ad σ 106 [(0, .ref (ad 11)), (1, .int x1), (2, .int x2), (3, .int x3), (4, .int x4), (5, .int x5), (6, .int x6), (7, .int x7), (8, .int x8), (9, .int x9), (10, .int x10)] []) (x1 : Int32) (x2 : Int32) (x3 : Int32) (x4 : Int32) (x5 : Int32) (x6 : Int32) (x7 : Int32) (x9 : Int32) (x10 : Int32) (y0 : Int32) (σ : Mem) (hF : F_X11_saddles_b145 kL65 kL106 x1 x2 x3 x4 x5 x6 x7 x9 x10 y0 σ = some r) : V p l e { frames := 3, cells := 0, slots := 0, locals := 69 } s m args below meth c 0 0 (MQ below (qC (some (.int r.1)) r.2 D T ad) args s 0 0 (fA ad)) 11 (fA ad) D T ad σ 145 [(0, .ref (ad 11)), (1, .int x1), (2, .int x2), (3, .int x3), (4, .int x4), (5, .int x5), (6, .int x6), (7, .int x7), (9, .int x9), (10, .int x10)] [.int y0] := by
  rw [F_X11_saddles_b145] at hF
  refine V_istore C (lv' := [(8, .int y0), (0, .ref (ad 11)), (1, .int x1), (2, .int x2), (3, .int x3), (4, .int x4), (5, .int x5), (6, .int x6), (7, .int x7), (9, .int x9), (10, .int x10)]) dX11_saddles_145 (by decide) rfl ?_
  refine V_iload C 9 dX11_saddles_147 rfl ?_
  refine V_iload C 8 dX11_saddles_149 rfl ?_
  refine V_iload C 10 dX11_saddles_151 rfl ?_
  obtain ⟨q9, hq9, hF⟩ := bnd hF
  refine cs_X11_170 C (ct_X11_isIn hq9) rfl ⟨by decide, by decide⟩ (Nat.le_of_ble_eq_true rfl) dX11_saddles_153 ⟨Nat.le_refl 0, Nat.le_refl 0⟩ ?_
  refine V_if_eq C 173 dX11_saddles_156 (by decide) hF (fun hF => ?_) (fun hF => ?_)
  · refine V_iconst C dX11_saddles_173 (v := (0 : Int32)) (by decide) ?_
    refine V_iadd C dX11_saddles_174 ?_
    refine V_istore C (lv' := [(9, .int (x9 + (0 : Int32))), (8, .int y0), (0, .ref (ad 11)), (1, .int x1), (2, .int x2), (3, .int x3), (4, .int x4), (5, .int x5), (6, .int x6), (7, .int x7), (10, .int x10)]) dX11_saddles_175 (by decide) rfl ?_
    refine V_iinc C (v := (x10 + 1)) (lv' := [(10, .int (x10 + 1)), (9, .int (x9 + (0 : Int32))), (8, .int y0), (0, .ref (ad 11)), (1, .int x1), (2, .int x2), (3, .int x3), (4, .int x4), (5, .int x5), (6, .int x6), (7, .int x7)]) 10 dX11_saddles_177 rfl rfl (by decide) rfl ?_
    refine V_goto C 106 dX11_saddles_180 (by decide) ?_
    refine V_lv (ks := [3, 4, 5, 6, 7, 8, 9, 10, 2, 1, 0]) rfl ?_
    exact hL106 x1 x2 x3 x4 x5 x6 x7 y0 (x9 + (0 : Int32)) (x10 + 1) σ hF
  · refine V_aload_n C 1 dX11_saddles_159 rfl ?_
    refine gf_X11_16 C dX11_saddles_160 ?_
    refine V_iconst C dX11_saddles_163 (v := (4 : Int32)) (by decide) ?_
    refine V_iload C 10 dX11_saddles_164 rfl ?_
    refine V_imul C dX11_saddles_166 ?_
    refine V_iload_n C 3 dX11_saddles_167 rfl ?_
    refine V_iadd C dX11_saddles_168 ?_
    obtain ⟨v10, hv10, hF⟩ := bnd hF
    refine V_iald C (by decide) hv10 dX11_saddles_169 ?_
    refine V_goto C 174 dX11_saddles_170 (by decide) ?_
    refine V_iadd C dX11_saddles_174 ?_
    refine V_istore C (lv' := [(9, .int (x9 + v10)), (8, .int y0), (0, .ref (ad 11)), (1, .int x1), (2, .int x2), (3, .int x3), (4, .int x4), (5, .int x5), (6, .int x6), (7, .int x7), (10, .int x10)]) dX11_saddles_175 (by decide) rfl ?_
    refine V_iinc C (v := (x10 + 1)) (lv' := [(10, .int (x10 + 1)), (9, .int (x9 + v10)), (8, .int y0), (0, .ref (ad 11)), (1, .int x1), (2, .int x2), (3, .int x3), (4, .int x4), (5, .int x5), (6, .int x6), (7, .int x7)]) 10 dX11_saddles_177 rfl rfl (by decide) rfl ?_
    refine V_goto C 106 dX11_saddles_180 (by decide) ?_
    refine V_lv (ks := [3, 4, 5, 6, 7, 8, 9, 10, 2, 1, 0]) rfl ?_
    exact hL106 x1 x2 x3 x4 x5 x6 x7 y0 (x9 + v10) (x10 + 1) σ hF
set_option maxHeartbeats 4000000 in
set_option maxRecDepth 20000 in
theorem w_X11_saddles_b106 {p : Program} {l : Launch} {e : Env} {s : State} {m : MethodId} {args : Array Value} {below : List Frame} {meth : Method} {c : Code} {D : va_G} {T : Nat → ClassId} {ad zz : Nat → Nat} (C : Cx p s m c cX11_saddles 11 RX11 (fA ad) D T ad zz) (hr : meth.sig.returnType = (some .int)) (hlk : meth.locks = false) {r : (Int32 × Mem)} (kL65 : Int32 → Int32 → Int32 → Int32 → Int32 → Int32 → Int32 → Mem → Option (Int32 × Mem)) (hL65 : ∀ (x1 : Int32) (x2 : Int32) (x3 : Int32) (x4 : Int32) (x5 : Int32) (x6 : Int32) (x7 : Int32) (σ : Mem), kL65 x1 x2 x3 x4 x5 x6 x7 σ = some r → V p l e { frames := 3, cells := 0, slots := 0, locals := 69 } s m args below meth c 0 0 (MQ below (qC (some (.int r.1)) r.2 D T ad) args s 0 0 (fA ad)) 11 (fA ad) D T ad σ 65 [(0, .ref (ad 11)), (1, .int x1), (2, .int x2), (3, .int x3), (4, .int x4), (5, .int x5), (6, .int x6), (7, .int x7)] []) : ∀ (n : Nat), ∀ (x1 : Int32) (x2 : Int32) (x3 : Int32) (x4 : Int32) (x5 : Int32) (x6 : Int32) (x7 : Int32) (x8 : Int32) (x9 : Int32) (x10 : Int32) (σ : Mem), F_X11_saddles_b106 kL65 n x1 x2 x3 x4 x5 x6 x7 x8 x9 x10 σ = some r → V p l e { frames := 3, cells := 0, slots := 0, locals := 69 } s m args below meth c 0 0 (MQ below (qC (some (.int r.1)) r.2 D T ad) args s 0 0 (fA ad)) 11 (fA ad) D T ad σ 106 [(0, .ref (ad 11)), (1, .int x1), (2, .int x2), (3, .int x3), (4, .int x4), (5, .int x5), (6, .int x6), (7, .int x7), (8, .int x8), (9, .int x9), (10, .int x10)] [] := by
  intro n
  induction n with
  | zero =>
    intro x1 x2 x3 x4 x5 x6 x7 x8 x9 x10 σ hF
    cases (show (none : Option (Int32 × Mem)) = some r from hF)
  | succ n ih =>
    intro x1 x2 x3 x4 x5 x6 x7 x8 x9 x10 σ hF
    rw [F_X11_saddles_b106] at hF
    refine V_iload C 10 dX11_saddles_106 rfl ?_
    refine V_aload_n C 0 dX11_saddles_108 rfl ?_
    refine gf_X11_67 C dX11_saddles_109 ?_
    refine V_icmp_ge C 183 dX11_saddles_112 (by decide) hF (fun hF => ?_) (fun hF => ?_)
    · refine V_iload C 8 dX11_saddles_183 rfl ?_
      refine V_if_eq C 204 dX11_saddles_185 (by decide) hF (fun hF => ?_) (fun hF => ?_)
      · refine V_iinc C (v := (x7 + 1)) (lv' := [(7, .int (x7 + 1)), (0, .ref (ad 11)), (1, .int x1), (2, .int x2), (3, .int x3), (4, .int x4), (5, .int x5), (6, .int x6), (8, .int x8), (9, .int x9), (10, .int x10)]) 7 dX11_saddles_204 rfl rfl (by decide) rfl ?_
        refine V_goto C 65 dX11_saddles_207 (by decide) ?_
        refine V_lv (ks := [1, 2, 3, 4, 5, 6, 7, 0]) rfl ?_
        exact hL65 x1 x2 x3 x4 x5 x6 (x7 + 1) σ hF
      · refine V_iload C 9 dX11_saddles_188 rfl ?_
        refine V_iload_n C 3 dX11_saddles_190 rfl ?_
        refine V_icmp_ne C 204 dX11_saddles_191 (by decide) hF (fun hF => ?_) (fun hF => ?_)
        · refine V_iinc C (v := (x7 + 1)) (lv' := [(7, .int (x7 + 1)), (0, .ref (ad 11)), (1, .int x1), (2, .int x2), (3, .int x3), (4, .int x4), (5, .int x5), (6, .int x6), (8, .int x8), (9, .int x9), (10, .int x10)]) 7 dX11_saddles_204 rfl rfl (by decide) rfl ?_
          refine V_goto C 65 dX11_saddles_207 (by decide) ?_
          refine V_lv (ks := [1, 2, 3, 4, 5, 6, 7, 0]) rfl ?_
          exact hL65 x1 x2 x3 x4 x5 x6 (x7 + 1) σ hF
        · refine V_iinc C (v := (x5 + 1)) (lv' := [(5, .int (x5 + 1)), (0, .ref (ad 11)), (1, .int x1), (2, .int x2), (3, .int x3), (4, .int x4), (6, .int x6), (7, .int x7), (8, .int x8), (9, .int x9), (10, .int x10)]) 5 dX11_saddles_194 rfl rfl (by decide) rfl ?_
          refine V_iload C 6 dX11_saddles_197 rfl ?_
          refine V_iload C 7 dX11_saddles_199 rfl ?_
          refine V_iand C dX11_saddles_201 ?_
          refine V_istore C (lv' := [(6, .int (x6 &&& x7)), (5, .int (x5 + 1)), (0, .ref (ad 11)), (1, .int x1), (2, .int x2), (3, .int x3), (4, .int x4), (7, .int x7), (8, .int x8), (9, .int x9), (10, .int x10)]) dX11_saddles_202 (by decide) rfl ?_
          refine V_iinc C (v := (x7 + 1)) (lv' := [(7, .int (x7 + 1)), (6, .int (x6 &&& x7)), (5, .int (x5 + 1)), (0, .ref (ad 11)), (1, .int x1), (2, .int x2), (3, .int x3), (4, .int x4), (8, .int x8), (9, .int x9), (10, .int x10)]) 7 dX11_saddles_204 rfl rfl (by decide) rfl ?_
          refine V_goto C 65 dX11_saddles_207 (by decide) ?_
          refine V_lv (ks := [3, 4, 5, 6, 7, 2, 1, 0]) rfl ?_
          exact hL65 x1 x2 x3 x4 (x5 + 1) (x6 &&& x7) (x7 + 1) σ hF
    · refine V_iload C 8 dX11_saddles_115 rfl ?_
      refine V_if_eq C 144 dX11_saddles_117 (by decide) hF (fun hF => ?_) (fun hF => ?_)
      · refine V_iconst C dX11_saddles_144 (v := (0 : Int32)) (by decide) ?_
        refine V_lv (ks := [0, 1, 2, 3, 4, 5, 6, 7, 9, 10]) rfl ?_
        exact w_X11_saddles_b145 C hr hlk kL65 (F_X11_saddles_b106 kL65 n) hL65 ih x1 x2 x3 x4 x5 x6 x7 x9 x10 (0 : Int32) σ hF
      · refine V_iload C 7 dX11_saddles_120 rfl ?_
        refine V_iload C 10 dX11_saddles_122 rfl ?_
        obtain ⟨q11, hq11, hF⟩ := bnd hF
        refine cs_X11_170 C (ct_X11_isIn hq11) rfl ⟨by decide, by decide⟩ (Nat.le_of_ble_eq_true rfl) dX11_saddles_124 ⟨Nat.le_refl 0, Nat.le_refl 0⟩ ?_
        refine V_if_eq C 140 dX11_saddles_127 (by decide) hF (fun hF => ?_) (fun hF => ?_)
        · refine V_iconst C dX11_saddles_140 (v := (1 : Int32)) (by decide) ?_
          refine V_goto C 145 dX11_saddles_141 (by decide) ?_
          refine V_lv (ks := [0, 1, 2, 3, 4, 5, 6, 7, 9, 10]) rfl ?_
          exact w_X11_saddles_b145 C hr hlk kL65 (F_X11_saddles_b106 kL65 n) hL65 ih x1 x2 x3 x4 x5 x6 x7 x9 x10 (1 : Int32) σ hF
        · refine V_aload_n C 0 dX11_saddles_130 rfl ?_
          refine V_iload_n C 1 dX11_saddles_131 rfl ?_
          refine V_iload C 10 dX11_saddles_132 rfl ?_
          obtain ⟨q12, hq12, hF⟩ := bnd hF
          refine cs_X11_121 C (ct_X11_isEnough hq12) rfl ⟨by decide, by decide⟩ (Nat.le_of_ble_eq_true rfl) dX11_saddles_134 ⟨Nat.le_refl 0, Nat.le_refl 0⟩ ?_
          refine V_if_eq C 144 dX11_saddles_137 (by decide) hF (fun hF => ?_) (fun hF => ?_)
          · refine V_iconst C dX11_saddles_144 (v := (0 : Int32)) (by decide) ?_
            refine V_lv (ks := [0, 1, 2, 3, 4, 5, 6, 7, 9, 10]) rfl ?_
            exact w_X11_saddles_b145 C hr hlk kL65 (F_X11_saddles_b106 kL65 n) hL65 ih x1 x2 x3 x4 x5 x6 x7 x9 x10 (0 : Int32) σ hF
          · refine V_iconst C dX11_saddles_140 (v := (1 : Int32)) (by decide) ?_
            refine V_goto C 145 dX11_saddles_141 (by decide) ?_
            refine V_lv (ks := [0, 1, 2, 3, 4, 5, 6, 7, 9, 10]) rfl ?_
            exact w_X11_saddles_b145 C hr hlk kL65 (F_X11_saddles_b106 kL65 n) hL65 ih x1 x2 x3 x4 x5 x6 x7 x9 x10 (1 : Int32) σ hF
set_option maxHeartbeats 4000000 in
set_option maxRecDepth 20000 in
theorem w_X11_saddles_b65 {p : Program} {l : Launch} {e : Env} {s : State} {m : MethodId} {args : Array Value} {below : List Frame} {meth : Method} {c : Code} {D : va_G} {T : Nat → ClassId} {ad zz : Nat → Nat} (C : Cx p s m c cX11_saddles 11 RX11 (fA ad) D T ad zz) (hr : meth.sig.returnType = (some .int)) (hlk : meth.locks = false) {r : (Int32 × Mem)}  : ∀ (n : Nat), ∀ (x1 : Int32) (x2 : Int32) (x3 : Int32) (x4 : Int32) (x5 : Int32) (x6 : Int32) (x7 : Int32) (σ : Mem), F_X11_saddles_b65  n x1 x2 x3 x4 x5 x6 x7 σ = some r → V p l e { frames := 3, cells := 0, slots := 0, locals := 69 } s m args below meth c 0 0 (MQ below (qC (some (.int r.1)) r.2 D T ad) args s 0 0 (fA ad)) 11 (fA ad) D T ad σ 65 [(0, .ref (ad 11)), (1, .int x1), (2, .int x2), (3, .int x3), (4, .int x4), (5, .int x5), (6, .int x6), (7, .int x7)] [] := by
  intro n
  induction n with
  | zero =>
    intro x1 x2 x3 x4 x5 x6 x7 σ hF
    cases (show (none : Option (Int32 × Mem)) = some r from hF)
  | succ n ih =>
    intro x1 x2 x3 x4 x5 x6 x7 σ hF
    rw [F_X11_saddles_b65] at hF
    refine V_iload C 7 dX11_saddles_65 rfl ?_
    refine V_iconst C dX11_saddles_67 (v := (1 : Int32)) (by decide) ?_
    refine V_aload_n C 0 dX11_saddles_68 rfl ?_
    refine gf_X11_67 C dX11_saddles_69 ?_
    refine V_ishl C dX11_saddles_72 ?_
    refine V_icmp_ge C 210 dX11_saddles_73 (by decide) hF (fun hF => ?_) (fun hF => ?_)
    · refine V_iload C 4 dX11_saddles_210 rfl ?_
      refine V_if_ne C 220 dX11_saddles_212 (by decide) hF (fun hF => ?_) (fun hF => ?_)
      · refine V_iload C 5 dX11_saddles_220 rfl ?_
        refine V_if_ne C 230 dX11_saddles_222 (by decide) hF (fun hF => ?_) (fun hF => ?_)
        · refine V_iload C 6 dX11_saddles_230 rfl ?_
          cases hF
          exact V_iret C hr hlk rfl rfl dX11_saddles_232
        · refine V_bipush C dX11_saddles_225 (v := (-9 : Int32)) (by decide) ?_
          refine V_goto C 232 dX11_saddles_227 (by decide) ?_
          cases hF
          exact V_iret C hr hlk rfl rfl dX11_saddles_232
      · refine V_iload C 5 dX11_saddles_215 rfl ?_
        refine V_goto C 232 dX11_saddles_217 (by decide) ?_
        cases hF
        exact V_iret C hr hlk rfl rfl dX11_saddles_232
    · refine V_iload C 7 dX11_saddles_76 rfl ?_
      obtain ⟨q7, hq7, hF⟩ := bnd hF
      refine cs_X11_113 C (ct_X11_many hq7) rfl ⟨by decide, by decide⟩ (Nat.le_of_ble_eq_true rfl) dX11_saddles_78 ⟨Nat.le_refl 0, Nat.le_refl 0⟩ ?_
      refine V_aload_n C 0 dX11_saddles_81 rfl ?_
      refine gf_X11_13 C dX11_saddles_82 ?_
      refine V_bipush C dX11_saddles_85 (v := (7 : Int32)) (by decide) ?_
      refine V_iload_n C 1 dX11_saddles_87 rfl ?_
      refine V_imul C dX11_saddles_88 ?_
      obtain ⟨v8, hv8, hF⟩ := bnd hF
      refine V_iald C (by decide) hv8 dX11_saddles_89 ?_
      refine V_icmp_gt C 97 dX11_saddles_90 (by decide) hF (fun hF => ?_) (fun hF => ?_)
      · refine V_iconst C dX11_saddles_97 (v := (0 : Int32)) (by decide) ?_
        refine V_istore C (lv' := [(8, .int (0 : Int32)), (0, .ref (ad 11)), (1, .int x1), (2, .int x2), (3, .int x3), (4, .int x4), (5, .int x5), (6, .int x6), (7, .int x7)]) dX11_saddles_98 (by decide) rfl ?_
        refine V_iconst C dX11_saddles_100 (v := (0 : Int32)) (by decide) ?_
        refine V_istore C (lv' := [(9, .int (0 : Int32)), (8, .int (0 : Int32)), (0, .ref (ad 11)), (1, .int x1), (2, .int x2), (3, .int x3), (4, .int x4), (5, .int x5), (6, .int x6), (7, .int x7)]) dX11_saddles_101 (by decide) rfl ?_
        refine V_iconst C dX11_saddles_103 (v := (0 : Int32)) (by decide) ?_
        refine V_istore C (lv' := [(10, .int (0 : Int32)), (9, .int (0 : Int32)), (8, .int (0 : Int32)), (0, .ref (ad 11)), (1, .int x1), (2, .int x2), (3, .int x3), (4, .int x4), (5, .int x5), (6, .int x6), (7, .int x7)]) dX11_saddles_104 (by decide) rfl ?_
        refine V_lv (ks := [3, 4, 5, 6, 7, 8, 9, 10, 2, 1, 0]) rfl ?_
        exact w_X11_saddles_b106 C hr hlk (F_X11_saddles_b65 n) ih 4000 x1 x2 x3 x4 x5 x6 x7 (0 : Int32) (0 : Int32) (0 : Int32) σ hF
      · refine V_iconst C dX11_saddles_93 (v := (1 : Int32)) (by decide) ?_
        refine V_goto C 98 dX11_saddles_94 (by decide) ?_
        refine V_istore C (lv' := [(8, .int (1 : Int32)), (0, .ref (ad 11)), (1, .int x1), (2, .int x2), (3, .int x3), (4, .int x4), (5, .int x5), (6, .int x6), (7, .int x7)]) dX11_saddles_98 (by decide) rfl ?_
        refine V_iconst C dX11_saddles_100 (v := (0 : Int32)) (by decide) ?_
        refine V_istore C (lv' := [(9, .int (0 : Int32)), (8, .int (1 : Int32)), (0, .ref (ad 11)), (1, .int x1), (2, .int x2), (3, .int x3), (4, .int x4), (5, .int x5), (6, .int x6), (7, .int x7)]) dX11_saddles_101 (by decide) rfl ?_
        refine V_iconst C dX11_saddles_103 (v := (0 : Int32)) (by decide) ?_
        refine V_istore C (lv' := [(10, .int (0 : Int32)), (9, .int (0 : Int32)), (8, .int (1 : Int32)), (0, .ref (ad 11)), (1, .int x1), (2, .int x2), (3, .int x3), (4, .int x4), (5, .int x5), (6, .int x6), (7, .int x7)]) dX11_saddles_104 (by decide) rfl ?_
        refine V_lv (ks := [3, 4, 5, 6, 7, 8, 9, 10, 2, 1, 0]) rfl ?_
        exact w_X11_saddles_b106 C hr hlk (F_X11_saddles_b65 n) ih 4000 x1 x2 x3 x4 x5 x6 x7 (1 : Int32) (0 : Int32) (0 : Int32) σ hF
set_option maxHeartbeats 4000000 in
set_option maxRecDepth 20000 in
theorem ct_X11_saddles {a1 : Int32} {a2 : Int32} {a3 : Int32} {a4 : Int32} {σ : Mem} {r : (Int32 × Mem)} (hF : F_X11_saddles a1 a2 a3 a4 σ = some r) : Ct yX11_saddles cX11_saddles 11 (some .int) 3 69 (fun ad zz => [.ref (ad 11), .int a1, .int a2, .int a3, .int a4]) σ (fun ad => (some (.int r.1))) r.2 := by
  refine Ct_of (by decide +kernel) (lv := fun ad zz => [(0, .ref (ad 11)), (1, .int a1), (2, .int a2), (3, .int a3), (4, .int a4)]) (fun _ _ => rfl) (fun _ _ => Nat.le_of_ble_eq_true rfl) (fun p l e s m args below meth c D T ad zz C hr hlk => ?_)
  rw [F_X11_saddles] at hF
  refine V_aload_n C 0 dX11_saddles_0 rfl ?_
  refine V_iconst C dX11_saddles_1 (v := (0 : Int32)) (by decide) ?_
  obtain ⟨σ1, hs1, hF⟩ := bnd hF
  refine pf_X11_56 C hs1 dX11_saddles_2 ?_
  refine V_aload_n C 0 dX11_saddles_5 rfl ?_
  refine V_iload_n C 1 dX11_saddles_6 rfl ?_
  obtain ⟨q2, hq2, hF⟩ := bnd hF
  refine cs_X11_149 C (ct_X11_noHorse hq2) rfl ⟨by decide, by decide⟩ (Nat.le_of_ble_eq_true rfl) dX11_saddles_7 ⟨Nat.le_refl 0, Nat.le_refl 0⟩ ?_
  refine V_if_eq C 15 dX11_saddles_10 (by decide) hF (fun hF => ?_) (fun hF => ?_)
  · refine V_iload_n C 2 dX11_saddles_15 rfl ?_
    refine V_i2l C dX11_saddles_16 ?_
    refine V_lconst C dX11_saddles_17 (v := (0 : Int64)) (by decide) ?_
    refine V_ldc2 C dX11_saddles_18 (v := (2 : Int64)) (TB_in 1112 (by decide +kernel) (by decide +kernel)) ?_
    obtain ⟨q3, hq3, hF⟩ := bnd hF
    refine cs_X11_63 C (ct_X11_in hq3) rfl ⟨by decide, by decide⟩ (Nat.le_of_ble_eq_true rfl) dX11_saddles_21 ⟨Nat.le_refl 0, Nat.le_refl 0⟩ ?_
    refine V_if_eq C 50 dX11_saddles_24 (by decide) hF (fun hF => ?_) (fun hF => ?_)
    · refine V_bipush C dX11_saddles_50 (v := (-2 : Int32)) (by decide) ?_
      cases hF
      exact V_iret C hr hlk rfl rfl dX11_saddles_52
    · refine V_iload_n C 3 dX11_saddles_27 rfl ?_
      refine V_i2l C dX11_saddles_28 ?_
      refine V_lconst C dX11_saddles_29 (v := (0 : Int64)) (by decide) ?_
      refine V_ldc2 C dX11_saddles_30 (v := (27 : Int64)) (TB_in 1243 (by decide +kernel) (by decide +kernel)) ?_
      obtain ⟨q4, hq4, hF⟩ := bnd hF
      refine cs_X11_63 C (ct_X11_in hq4) rfl ⟨by decide, by decide⟩ (Nat.le_of_ble_eq_true rfl) dX11_saddles_33 ⟨Nat.le_refl 0, Nat.le_refl 0⟩ ?_
      refine V_if_eq C 50 dX11_saddles_36 (by decide) hF (fun hF => ?_) (fun hF => ?_)
      · refine V_bipush C dX11_saddles_50 (v := (-2 : Int32)) (by decide) ?_
        cases hF
        exact V_iret C hr hlk rfl rfl dX11_saddles_52
      · refine V_iload C 4 dX11_saddles_39 rfl ?_
        refine V_i2l C dX11_saddles_41 ?_
        refine V_lconst C dX11_saddles_42 (v := (0 : Int64)) (by decide) ?_
        refine V_lconst C dX11_saddles_43 (v := (1 : Int64)) (by decide) ?_
        obtain ⟨q5, hq5, hF⟩ := bnd hF
        refine cs_X11_63 C (ct_X11_in hq5) rfl ⟨by decide, by decide⟩ (Nat.le_of_ble_eq_true rfl) dX11_saddles_44 ⟨Nat.le_refl 0, Nat.le_refl 0⟩ ?_
        refine V_if_ne C 53 dX11_saddles_47 (by decide) hF (fun hF => ?_) (fun hF => ?_)
        · refine V_iconst C dX11_saddles_53 (v := (0 : Int32)) (by decide) ?_
          refine V_istore C (lv' := [(5, .int (0 : Int32)), (0, .ref (ad 11)), (1, .int a1), (2, .int a2), (3, .int a3), (4, .int a4)]) dX11_saddles_54 (by decide) rfl ?_
          refine V_aload_n C 1 dX11_saddles_56 rfl ?_
          obtain ⟨q6, hq6, hF⟩ := bnd hF
          refine cs_X11_185 C (ct_X11_all hq6) rfl ⟨by decide, by decide⟩ (Nat.le_of_ble_eq_true rfl) dX11_saddles_57 ⟨Nat.le_refl 0, Nat.le_refl 0⟩ ?_
          refine V_istore C (lv' := [(6, .int q6), (5, .int (0 : Int32)), (0, .ref (ad 11)), (1, .int a1), (2, .int a2), (3, .int a3), (4, .int a4)]) dX11_saddles_60 (by decide) rfl ?_
          refine V_iconst C dX11_saddles_62 (v := (0 : Int32)) (by decide) ?_
          refine V_istore C (lv' := [(7, .int (0 : Int32)), (6, .int q6), (5, .int (0 : Int32)), (0, .ref (ad 11)), (1, .int a1), (2, .int a2), (3, .int a3), (4, .int a4)]) dX11_saddles_63 (by decide) rfl ?_
          refine V_lv (ks := [3, 4, 5, 6, 7, 2, 1, 0]) rfl ?_
          exact w_X11_saddles_b65 C hr hlk 4000 a1 a2 a3 a4 (0 : Int32) q6 (0 : Int32) σ1 hF
        · refine V_bipush C dX11_saddles_50 (v := (-2 : Int32)) (by decide) ?_
          cases hF
          exact V_iret C hr hlk rfl rfl dX11_saddles_52
  · refine V_iconst C dX11_saddles_13 (v := (-1 : Int32)) (by decide) ?_
    cases hF
    exact V_iret C hr hlk rfl rfl dX11_saddles_14

def F_X11_divisor_b4 (σ : Mem) : Nat → Int32 → Int32 → Option Int32
  | 0, _, _ => none
  | n + 1, x2, x3 =>
    if x3 = 0 then
      some x2
    else
      Option.bind (rmI x2 x3) fun v1 =>
      (F_X11_divisor_b4 σ n) x3 v1
def F_X11_divisor (a1 : Int32) (a2 : Int32) (σ : Mem) : Option Int32 :=
  F_X11_divisor_b4 σ 4000 a1 a2
set_option maxHeartbeats 4000000 in
set_option maxRecDepth 20000 in
theorem w_X11_divisor_b4 {p : Program} {l : Launch} {e : Env} {s : State} {m : MethodId} {args : Array Value} {below : List Frame} {meth : Method} {c : Code} {D : va_G} {T : Nat → ClassId} {ad zz : Nat → Nat} (C : Cx p s m c cX11_divisor 5 RX11 (fA ad) D T ad zz) (hr : meth.sig.returnType = (some .int)) (hlk : meth.locks = false) {σ : Mem} {r : Int32}  : ∀ (n : Nat), ∀ (x2 : Int32) (x3 : Int32), F_X11_divisor_b4 σ n x2 x3 = some r → V p l e { frames := 0, cells := 0, slots := 0, locals := 0 } s m args below meth c 0 0 (MQ below (qC (some (.int r)) σ D T ad) args s 0 0 (fA ad)) 5 (fA ad) D T ad σ 4 [(2, .int x2), (3, .int x3)] [] := by
  intro n
  induction n with
  | zero =>
    intro x2 x3 hF
    cases (show (none : Option Int32) = some r from hF)
  | succ n ih =>
    intro x2 x3 hF
    rw [F_X11_divisor_b4] at hF
    refine V_iload_n C 1 dX11_divisor_4 rfl ?_
    refine V_if_eq C 21 dX11_divisor_5 (by decide) hF (fun hF => ?_) (fun hF => ?_)
    · refine V_iload_n C 0 dX11_divisor_21 rfl ?_
      cases hF
      exact V_iret C hr hlk rfl rfl dX11_divisor_22
    · refine V_iload_n C 0 dX11_divisor_8 rfl ?_
      refine V_iload_n C 1 dX11_divisor_9 rfl ?_
      obtain ⟨v1, hv1, hF⟩ := bnd hF
      refine V_irem C hv1 dX11_divisor_10 ?_
      refine V_istore C (lv' := [(4, .int v1), (2, .int x2), (3, .int x3)]) dX11_divisor_11 (by decide) rfl ?_
      refine V_iload_n C 2 dX11_divisor_13 rfl ?_
      refine V_istore_n C (lv' := [(2, .int x3), (4, .int v1), (3, .int x3)]) dX11_divisor_14 rfl (by decide) rfl ?_
      refine V_iload C 1 dX11_divisor_15 rfl ?_
      refine V_istore_n C (lv' := [(3, .int v1), (2, .int x3), (4, .int v1)]) dX11_divisor_17 rfl (by decide) rfl ?_
      refine V_goto C 4 dX11_divisor_18 (by decide) ?_
      refine V_lv (ks := [1, 0]) rfl ?_
      exact ih x3 v1 hF
set_option maxHeartbeats 4000000 in
set_option maxRecDepth 20000 in
theorem ct_X11_divisor {a1 : Int32} {a2 : Int32} {σ : Mem} {r : Int32} (hF : F_X11_divisor a1 a2 σ = some r) : Ct yX11_divisor cX11_divisor 5 (some .int) 0 0 (fun ad zz => [.int a1, .int a2]) σ (fun ad => (some (.int r))) σ := by
  refine Ct_of (by decide +kernel) (lv := fun ad zz => [(0, .int a1), (1, .int a2)]) (fun _ _ => rfl) (fun _ _ => Nat.le_of_ble_eq_true rfl) (fun p l e s m args below meth c D T ad zz C hr hlk => ?_)
  rw [F_X11_divisor] at hF
  refine V_iload_n C 0 dX11_divisor_0 rfl ?_
  refine V_istore_n C (lv' := [(2, .int a1), (0, .int a1), (1, .int a2)]) dX11_divisor_1 rfl (by decide) rfl ?_
  refine V_iload_n C 2 dX11_divisor_2 rfl ?_
  refine V_istore_n C (lv' := [(3, .int a2), (2, .int a1), (0, .int a1), (1, .int a2)]) dX11_divisor_3 rfl (by decide) rfl ?_
  refine V_lv (ks := [1, 0]) rfl ?_
  exact w_X11_divisor_b4 C hr hlk 4000 a1 a2 hF

def F_X11_power_b4 (σ : Mem) : Nat → Int32 → Int32 → Int32 → Int32 → Option Int32
  | 0, _, _, _, _ => none
  | n + 1, x0, x1, x2, x3 =>
    if x1 ≤ x3 then
      some x2
    else
      (F_X11_power_b4 σ n) x0 x1 (x2 * x0) (x3 + 1)
def F_X11_power (a1 : Int32) (a2 : Int32) (σ : Mem) : Option Int32 :=
  F_X11_power_b4 σ 4000 a1 a2 (1 : Int32) (0 : Int32)
set_option maxHeartbeats 4000000 in
set_option maxRecDepth 20000 in
theorem w_X11_power_b4 {p : Program} {l : Launch} {e : Env} {s : State} {m : MethodId} {args : Array Value} {below : List Frame} {meth : Method} {c : Code} {D : va_G} {T : Nat → ClassId} {ad zz : Nat → Nat} (C : Cx p s m c cX11_power 4 RX11 (fA ad) D T ad zz) (hr : meth.sig.returnType = (some .int)) (hlk : meth.locks = false) {σ : Mem} {r : Int32}  : ∀ (n : Nat), ∀ (x0 : Int32) (x1 : Int32) (x2 : Int32) (x3 : Int32), F_X11_power_b4 σ n x0 x1 x2 x3 = some r → V p l e { frames := 0, cells := 0, slots := 0, locals := 0 } s m args below meth c 0 0 (MQ below (qC (some (.int r)) σ D T ad) args s 0 0 (fA ad)) 4 (fA ad) D T ad σ 4 [(0, .int x0), (1, .int x1), (2, .int x2), (3, .int x3)] [] := by
  intro n
  induction n with
  | zero =>
    intro x0 x1 x2 x3 hF
    cases (show (none : Option Int32) = some r from hF)
  | succ n ih =>
    intro x0 x1 x2 x3 hF
    rw [F_X11_power_b4] at hF
    refine V_iload_n C 3 dX11_power_4 rfl ?_
    refine V_iload_n C 1 dX11_power_5 rfl ?_
    refine V_icmp_ge C 19 dX11_power_6 (by decide) hF (fun hF => ?_) (fun hF => ?_)
    · refine V_iload_n C 2 dX11_power_19 rfl ?_
      cases hF
      exact V_iret C hr hlk rfl rfl dX11_power_20
    · refine V_iload_n C 2 dX11_power_9 rfl ?_
      refine V_iload_n C 0 dX11_power_10 rfl ?_
      refine V_imul C dX11_power_11 ?_
      refine V_istore_n C (lv' := [(2, .int (x2 * x0)), (0, .int x0), (1, .int x1), (3, .int x3)]) dX11_power_12 rfl (by decide) rfl ?_
      refine V_iinc C (v := (x3 + 1)) (lv' := [(3, .int (x3 + 1)), (2, .int (x2 * x0)), (0, .int x0), (1, .int x1)]) 3 dX11_power_13 rfl rfl (by decide) rfl ?_
      refine V_goto C 4 dX11_power_16 (by decide) ?_
      refine V_lv (ks := [2, 3, 1, 0]) rfl ?_
      exact ih x0 x1 (x2 * x0) (x3 + 1) hF
set_option maxHeartbeats 4000000 in
set_option maxRecDepth 20000 in
theorem ct_X11_power {a1 : Int32} {a2 : Int32} {σ : Mem} {r : Int32} (hF : F_X11_power a1 a2 σ = some r) : Ct yX11_power cX11_power 4 (some .int) 0 0 (fun ad zz => [.int a1, .int a2]) σ (fun ad => (some (.int r))) σ := by
  refine Ct_of (by decide +kernel) (lv := fun ad zz => [(0, .int a1), (1, .int a2)]) (fun _ _ => rfl) (fun _ _ => Nat.le_of_ble_eq_true rfl) (fun p l e s m args below meth c D T ad zz C hr hlk => ?_)
  rw [F_X11_power] at hF
  refine V_iconst C dX11_power_0 (v := (1 : Int32)) (by decide) ?_
  refine V_istore_n C (lv' := [(2, .int (1 : Int32)), (0, .int a1), (1, .int a2)]) dX11_power_1 rfl (by decide) rfl ?_
  refine V_iconst C dX11_power_2 (v := (0 : Int32)) (by decide) ?_
  refine V_istore_n C (lv' := [(3, .int (0 : Int32)), (2, .int (1 : Int32)), (0, .int a1), (1, .int a2)]) dX11_power_3 rfl (by decide) rfl ?_
  refine V_lv (ks := [2, 3, 1, 0]) rfl ?_
  exact w_X11_power_b4 C hr hlk 4000 a1 a2 (1 : Int32) (0 : Int32) hF

def F_X11_chance_b44  : Nat → Int32 → Int32 → Int32 → Int32 → Int32 → Int32 → Mem → Option (Int32 × Mem)
  | 0, _, _, _, _, _, _, _ => none
  | n + 1, x1, x2, x3, x4, x5, x6, σ =>
    if ((1 : Int32) <<< ((σ.1 24) &&& 31)) ≤ x6 then
      Option.bind (F_X11_power (10 : Int32) (σ.1 24) σ) fun q5 =>
      Option.bind (F_X11_divisor x5 q5 σ) fun q6 =>
      if x4 = 0 then
        Option.bind (dvI q5 q6) fun v7 =>
        some (v7, σ)
      else
        Option.bind (dvI x5 q6) fun v8 =>
        some (v8, σ)
    else
      Option.bind (F_X11_holdByRiders x6 σ) fun σ9 =>
      Option.bind (rdA σ9 63 x1) fun v10 =>
      if v10 = x2 then
        Option.bind (F_X11_many x6 σ9) fun q11 =>
        Option.bind (F_X11_power x3 q11 σ9) fun q12 =>
        Option.bind (F_X11_many x6 σ9) fun q13 =>
        Option.bind (F_X11_power ((10 : Int32) - x3) ((σ9.1 24) - q13) σ9) fun q14 =>
        (F_X11_chance_b44 n) x1 x2 x3 x4 (x5 + (q12 * q14)) (x6 + 1) σ9
      else
        (F_X11_chance_b44 n) x1 x2 x3 x4 (x5 + (0 : Int32)) (x6 + 1) σ9
def F_X11_chance (a1 : Int32) (a2 : Int32) (a3 : Int32) (a4 : Int32) (σ : Mem) : Option (Int32 × Mem) :=
  Option.bind (stI σ 20 (0 : Int32)) fun σ1 =>
  Option.bind (F_X11_noRider a1 σ1) fun q2 =>
  if q2 = 0 then
    Option.bind (F_X11_noHorse a2 σ1) fun q3 =>
    if q3 = 0 then
      Option.bind (F_X11_in ((a3).toInt64) (0 : Int64) (10 : Int64) σ1) fun q4 =>
      if q4 = 0 then
        some ((-2 : Int32), σ1)
      else
        F_X11_chance_b44 4000 a1 a2 a3 a4 (0 : Int32) (0 : Int32) σ1
    else
      some ((-1 : Int32), σ1)
  else
    some ((-1 : Int32), σ1)
set_option maxHeartbeats 4000000 in
set_option maxRecDepth 20000 in
theorem w_X11_chance_b44 {p : Program} {l : Launch} {e : Env} {s : State} {m : MethodId} {args : Array Value} {below : List Frame} {meth : Method} {c : Code} {D : va_G} {T : Nat → ClassId} {ad zz : Nat → Nat} (C : Cx p s m c cX11_chance 8 RX11 (fA ad) D T ad zz) (hr : meth.sig.returnType = (some .int)) (hlk : meth.locks = false) {r : (Int32 × Mem)}  : ∀ (n : Nat), ∀ (x1 : Int32) (x2 : Int32) (x3 : Int32) (x4 : Int32) (x5 : Int32) (x6 : Int32) (σ : Mem), F_X11_chance_b44  n x1 x2 x3 x4 x5 x6 σ = some r → V p l e { frames := 6, cells := 0, slots := 0, locals := 142 } s m args below meth c 0 0 (MQ below (qC (some (.int r.1)) r.2 D T ad) args s 0 0 (fA ad)) 8 (fA ad) D T ad σ 44 [(0, .ref (ad 11)), (1, .int x1), (2, .int x2), (3, .int x3), (4, .int x4), (5, .int x5), (6, .int x6)] [] := by
  intro n
  induction n with
  | zero =>
    intro x1 x2 x3 x4 x5 x6 σ hF
    cases (show (none : Option (Int32 × Mem)) = some r from hF)
  | succ n ih =>
    intro x1 x2 x3 x4 x5 x6 σ hF
    rw [F_X11_chance_b44] at hF
    refine V_iload C 6 dX11_chance_44 rfl ?_
    refine V_iconst C dX11_chance_46 (v := (1 : Int32)) (by decide) ?_
    refine V_aload_n C 0 dX11_chance_47 rfl ?_
    refine gf_X11_67 C dX11_chance_48 ?_
    refine V_ishl C dX11_chance_51 ?_
    refine V_icmp_ge C 113 dX11_chance_52 (by decide) hF (fun hF => ?_) (fun hF => ?_)
    · refine V_bipush C dX11_chance_113 (v := (10 : Int32)) (by decide) ?_
      refine V_aload_n C 0 dX11_chance_115 rfl ?_
      refine gf_X11_67 C dX11_chance_116 ?_
      obtain ⟨q5, hq5, hF⟩ := bnd hF
      refine cs_X11_227 C (ct_X11_power hq5) rfl ⟨by decide, by decide⟩ (Nat.le_of_ble_eq_true rfl) dX11_chance_119 ⟨Nat.le_refl 0, Nat.le_refl 0⟩ ?_
      refine V_istore C (lv' := [(6, .int q5), (0, .ref (ad 11)), (1, .int x1), (2, .int x2), (3, .int x3), (4, .int x4), (5, .int x5)]) dX11_chance_122 (by decide) rfl ?_
      refine V_iload C 6 dX11_chance_124 rfl ?_
      refine V_iload C 0 dX11_chance_126 rfl ?_
      obtain ⟨q6, hq6, hF⟩ := bnd hF
      refine cs_X11_230 C (ct_X11_divisor hq6) rfl ⟨by decide, by decide⟩ (Nat.le_of_ble_eq_true rfl) dX11_chance_128 ⟨Nat.le_refl 0, Nat.le_refl 0⟩ ?_
      refine V_istore C (lv' := [(7, .int q6), (6, .int q5), (0, .ref (ad 11)), (1, .int x1), (2, .int x2), (3, .int x3), (4, .int x4), (5, .int x5)]) dX11_chance_131 (by decide) rfl ?_
      refine V_iload C 6 dX11_chance_133 rfl ?_
      refine V_if_eq C 146 dX11_chance_135 (by decide) hF (fun hF => ?_) (fun hF => ?_)
      · refine V_iload C 1 dX11_chance_146 rfl ?_
        refine V_iload C 0 dX11_chance_148 rfl ?_
        obtain ⟨v7, hv7, hF⟩ := bnd hF
        refine V_idiv C hv7 dX11_chance_150 ?_
        cases hF
        exact V_iret C hr hlk rfl rfl dX11_chance_151
      · refine V_iload C 7 dX11_chance_138 rfl ?_
        refine V_iload C 0 dX11_chance_140 rfl ?_
        obtain ⟨v8, hv8, hF⟩ := bnd hF
        refine V_idiv C hv8 dX11_chance_142 ?_
        refine V_goto C 151 dX11_chance_143 (by decide) ?_
        cases hF
        exact V_iret C hr hlk rfl rfl dX11_chance_151
    · refine V_aload_n C 0 dX11_chance_55 rfl ?_
      refine V_iload C 6 dX11_chance_56 rfl ?_
      obtain ⟨σ9, hs9, hF⟩ := bnd hF
      refine cs_X11_188 C (ct_X11_holdByRiders hs9) rfl ⟨by decide, by decide⟩ (Nat.le_of_ble_eq_true rfl) dX11_chance_58 ⟨Nat.le_refl 0, Nat.le_refl 0⟩ ?_
      refine V_iload C 5 dX11_chance_61 rfl ?_
      refine V_aload_n C 0 dX11_chance_63 rfl ?_
      refine gf_X11_44 C dX11_chance_64 ?_
      refine V_iload_n C 1 dX11_chance_67 rfl ?_
      obtain ⟨v10, hv10, hF⟩ := bnd hF
      refine V_iald C (by decide) hv10 dX11_chance_68 ?_
      refine V_iload_n C 2 dX11_chance_69 rfl ?_
      refine V_icmp_ne C 103 dX11_chance_70 (by decide) hF (fun hF => ?_) (fun hF => ?_)
      · refine V_iconst C dX11_chance_103 (v := (0 : Int32)) (by decide) ?_
        refine V_iadd C dX11_chance_104 ?_
        refine V_istore C (lv' := [(5, .int (x5 + (0 : Int32))), (0, .ref (ad 11)), (1, .int x1), (2, .int x2), (3, .int x3), (4, .int x4), (6, .int x6)]) dX11_chance_105 (by decide) rfl ?_
        refine V_iinc C (v := (x6 + 1)) (lv' := [(6, .int (x6 + 1)), (5, .int (x5 + (0 : Int32))), (0, .ref (ad 11)), (1, .int x1), (2, .int x2), (3, .int x3), (4, .int x4)]) 6 dX11_chance_107 rfl rfl (by decide) rfl ?_
        refine V_goto C 44 dX11_chance_110 (by decide) ?_
        refine V_lv (ks := [2, 3, 4, 5, 6, 1, 0]) rfl ?_
        exact ih x1 x2 x3 x4 (x5 + (0 : Int32)) (x6 + 1) σ9 hF
      · refine V_iload_n C 3 dX11_chance_73 rfl ?_
        refine V_iload C 6 dX11_chance_74 rfl ?_
        obtain ⟨q11, hq11, hF⟩ := bnd hF
        refine cs_X11_113 C (ct_X11_many hq11) rfl ⟨by decide, by decide⟩ (Nat.le_of_ble_eq_true rfl) dX11_chance_76 ⟨Nat.le_refl 0, Nat.le_refl 0⟩ ?_
        obtain ⟨q12, hq12, hF⟩ := bnd hF
        refine cs_X11_227 C (ct_X11_power hq12) rfl ⟨by decide, by decide⟩ (Nat.le_of_ble_eq_true rfl) dX11_chance_79 ⟨Nat.le_refl 0, Nat.le_refl 0⟩ ?_
        refine V_bipush C dX11_chance_82 (v := (10 : Int32)) (by decide) ?_
        refine V_iload_n C 3 dX11_chance_84 rfl ?_
        refine V_isub C dX11_chance_85 ?_
        refine V_aload_n C 0 dX11_chance_86 rfl ?_
        refine gf_X11_67 C dX11_chance_87 ?_
        refine V_iload C 6 dX11_chance_90 rfl ?_
        obtain ⟨q13, hq13, hF⟩ := bnd hF
        refine cs_X11_113 C (ct_X11_many hq13) rfl ⟨by decide, by decide⟩ (Nat.le_of_ble_eq_true rfl) dX11_chance_92 ⟨Nat.le_refl 0, Nat.le_refl 0⟩ ?_
        refine V_isub C dX11_chance_95 ?_
        obtain ⟨q14, hq14, hF⟩ := bnd hF
        refine cs_X11_227 C (ct_X11_power hq14) rfl ⟨by decide, by decide⟩ (Nat.le_of_ble_eq_true rfl) dX11_chance_96 ⟨Nat.le_refl 0, Nat.le_refl 0⟩ ?_
        refine V_imul C dX11_chance_99 ?_
        refine V_goto C 104 dX11_chance_100 (by decide) ?_
        refine V_iadd C dX11_chance_104 ?_
        refine V_istore C (lv' := [(5, .int (x5 + (q12 * q14))), (0, .ref (ad 11)), (1, .int x1), (2, .int x2), (3, .int x3), (4, .int x4), (6, .int x6)]) dX11_chance_105 (by decide) rfl ?_
        refine V_iinc C (v := (x6 + 1)) (lv' := [(6, .int (x6 + 1)), (5, .int (x5 + (q12 * q14))), (0, .ref (ad 11)), (1, .int x1), (2, .int x2), (3, .int x3), (4, .int x4)]) 6 dX11_chance_107 rfl rfl (by decide) rfl ?_
        refine V_goto C 44 dX11_chance_110 (by decide) ?_
        refine V_lv (ks := [2, 3, 4, 5, 6, 1, 0]) rfl ?_
        exact ih x1 x2 x3 x4 (x5 + (q12 * q14)) (x6 + 1) σ9 hF
set_option maxHeartbeats 4000000 in
set_option maxRecDepth 20000 in
theorem ct_X11_chance {a1 : Int32} {a2 : Int32} {a3 : Int32} {a4 : Int32} {σ : Mem} {r : (Int32 × Mem)} (hF : F_X11_chance a1 a2 a3 a4 σ = some r) : Ct yX11_chance cX11_chance 8 (some .int) 6 142 (fun ad zz => [.ref (ad 11), .int a1, .int a2, .int a3, .int a4]) σ (fun ad => (some (.int r.1))) r.2 := by
  refine Ct_of (by decide +kernel) (lv := fun ad zz => [(0, .ref (ad 11)), (1, .int a1), (2, .int a2), (3, .int a3), (4, .int a4)]) (fun _ _ => rfl) (fun _ _ => Nat.le_of_ble_eq_true rfl) (fun p l e s m args below meth c D T ad zz C hr hlk => ?_)
  rw [F_X11_chance] at hF
  refine V_aload_n C 0 dX11_chance_0 rfl ?_
  refine V_iconst C dX11_chance_1 (v := (0 : Int32)) (by decide) ?_
  obtain ⟨σ1, hs1, hF⟩ := bnd hF
  refine pf_X11_56 C hs1 dX11_chance_2 ?_
  refine V_aload_n C 0 dX11_chance_5 rfl ?_
  refine V_iload_n C 1 dX11_chance_6 rfl ?_
  obtain ⟨q2, hq2, hF⟩ := bnd hF
  refine cs_X11_153 C (ct_X11_noRider hq2) rfl ⟨by decide, by decide⟩ (Nat.le_of_ble_eq_true rfl) dX11_chance_7 ⟨Nat.le_refl 0, Nat.le_refl 0⟩ ?_
  refine V_if_ne C 21 dX11_chance_10 (by decide) hF (fun hF => ?_) (fun hF => ?_)
  · refine V_iconst C dX11_chance_21 (v := (-1 : Int32)) (by decide) ?_
    cases hF
    exact V_iret C hr hlk rfl rfl dX11_chance_22
  · refine V_aload_n C 0 dX11_chance_13 rfl ?_
    refine V_iload_n C 2 dX11_chance_14 rfl ?_
    obtain ⟨q3, hq3, hF⟩ := bnd hF
    refine cs_X11_149 C (ct_X11_noHorse hq3) rfl ⟨by decide, by decide⟩ (Nat.le_of_ble_eq_true rfl) dX11_chance_15 ⟨Nat.le_refl 0, Nat.le_refl 0⟩ ?_
    refine V_if_eq C 23 dX11_chance_18 (by decide) hF (fun hF => ?_) (fun hF => ?_)
    · refine V_iload_n C 3 dX11_chance_23 rfl ?_
      refine V_i2l C dX11_chance_24 ?_
      refine V_lconst C dX11_chance_25 (v := (0 : Int64)) (by decide) ?_
      refine V_ldc2 C dX11_chance_26 (v := (10 : Int64)) (TB_in 1248 (by decide +kernel) (by decide +kernel)) ?_
      obtain ⟨q4, hq4, hF⟩ := bnd hF
      refine cs_X11_63 C (ct_X11_in hq4) rfl ⟨by decide, by decide⟩ (Nat.le_of_ble_eq_true rfl) dX11_chance_29 ⟨Nat.le_refl 0, Nat.le_refl 0⟩ ?_
      refine V_if_ne C 38 dX11_chance_32 (by decide) hF (fun hF => ?_) (fun hF => ?_)
      · refine V_iconst C dX11_chance_38 (v := (0 : Int32)) (by decide) ?_
        refine V_istore C (lv' := [(5, .int (0 : Int32)), (0, .ref (ad 11)), (1, .int a1), (2, .int a2), (3, .int a3), (4, .int a4)]) dX11_chance_39 (by decide) rfl ?_
        refine V_iconst C dX11_chance_41 (v := (0 : Int32)) (by decide) ?_
        refine V_istore C (lv' := [(6, .int (0 : Int32)), (5, .int (0 : Int32)), (0, .ref (ad 11)), (1, .int a1), (2, .int a2), (3, .int a3), (4, .int a4)]) dX11_chance_42 (by decide) rfl ?_
        refine V_lv (ks := [2, 3, 4, 5, 6, 1, 0]) rfl ?_
        exact w_X11_chance_b44 C hr hlk 4000 a1 a2 a3 a4 (0 : Int32) (0 : Int32) σ1 hF
      · refine V_bipush C dX11_chance_35 (v := (-2 : Int32)) (by decide) ?_
        cases hF
        exact V_iret C hr hlk rfl rfl dX11_chance_37
    · refine V_iconst C dX11_chance_21 (v := (-1 : Int32)) (by decide) ?_
      cases hF
      exact V_iret C hr hlk rfl rfl dX11_chance_22

def F_X11_seed (a1 : Int64) (σ : Mem) : Option (Int64 × Mem) :=
  Option.bind (stI σ 20 (0 : Int32)) fun σ1 =>
  Option.bind (stJ σ1 1 a1) fun σ2 =>
  some ((σ1.2.2 1), σ2)
set_option maxHeartbeats 4000000 in
set_option maxRecDepth 20000 in
theorem ct_X11_seed {a1 : Int64} {σ : Mem} {r : (Int64 × Mem)} (hF : F_X11_seed a1 σ = some r) : Ct yX11_seed cX11_seed 5 (some .long) 0 0 (fun ad zz => [.ref (ad 11), .long a1]) σ (fun ad => (some (.long r.1))) r.2 := by
  refine Ct_of (by decide +kernel) (lv := fun ad zz => [(0, .ref (ad 11)), (1, .long a1)]) (fun _ _ => rfl) (fun _ _ => Nat.le_of_ble_eq_true rfl) (fun p l e s m args below meth c D T ad zz C hr hlk => ?_)
  rw [F_X11_seed] at hF
  refine V_aload_n C 0 dX11_seed_0 rfl ?_
  refine V_iconst C dX11_seed_1 (v := (0 : Int32)) (by decide) ?_
  obtain ⟨σ1, hs1, hF⟩ := bnd hF
  refine pf_X11_56 C hs1 dX11_seed_2 ?_
  refine V_aload_n C 0 dX11_seed_5 rfl ?_
  refine gf_X11_233 C dX11_seed_6 ?_
  refine V_lstore_n C (lv' := [(3, .long (σ1.2.2 1)), (0, .ref (ad 11)), (1, .long a1)]) dX11_seed_9 rfl (by decide) rfl ?_
  refine V_aload_n C 1 dX11_seed_10 rfl ?_
  refine V_lload_n C 2 dX11_seed_11 rfl ?_
  obtain ⟨σ2, hs2, hF⟩ := bnd hF
  refine pf_X11_233 C hs2 dX11_seed_12 ?_
  refine V_lload_n C 0 dX11_seed_15 rfl ?_
  cases hF
  exact V_lret C hr hlk rfl rfl dX11_seed_16

def F_X11_days_b70  : Nat → Int32 → Int32 → Mem → Option (Int32 × Mem)
  | 0, _, _, _ => none
  | n + 1, x1, x2, σ =>
    if x1 ≤ x2 then
      Option.bind (F_X11_takenOf 63 σ) fun q4 =>
      some (q4, σ)
    else
      Option.bind (stJ σ 1 (((σ.2.2 1) * (6364136223846793005 : Int64)) + (1442695040888963407 : Int64))) fun σ5 =>
      Option.bind (rmJ ((((σ5.2.2 1)).toUInt64 >>> (((33 : Int32)).toInt64.toUInt64 &&& Int64.toUInt64 63)).toInt64) ((((σ5.1 24) * (σ5.1 23))).toInt64)) fun v6 =>
      Option.bind (dvI ((v6).toInt32) (σ5.1 23)) fun v7 =>
      Option.bind (rdA σ5 63 v7) fun v8 =>
      if v8 = (-9 : Int32) then
        Option.bind (dvI ((v6).toInt32) (σ5.1 23)) fun v9 =>
        Option.bind (rmI ((v6).toInt32) (σ5.1 23)) fun v10 =>
        Option.bind (F_X11_goLead 63 v9 v10 σ5) fun q11 =>
        (F_X11_days_b70 n) x1 (x2 + 1) q11.2
      else
        (F_X11_days_b70 n) x1 (x2 + 1) σ5
def F_X11_days_b42  : Nat → Int32 → Int32 → Mem → Option (Int32 × Mem)
  | 0, _, _, _ => none
  | n + 1, x1, x2, σ =>
    if (σ.1 24) ≤ x2 then
      F_X11_days_b70 4000 x1 (0 : Int32) σ
    else
      Option.bind (rdA σ 58 x2) fun v12 =>
      Option.bind (wrA σ 63 x2 v12) fun σ13 =>
      (F_X11_days_b42 n) x1 (x2 + 1) σ13
def F_X11_days (a1 : Int32) (σ : Mem) : Option (Int32 × Mem) :=
  Option.bind (stI σ 20 (0 : Int32)) fun σ1 =>
  Option.bind (F_X11_in ((a1).toInt64) (1 : Int64) (40 : Int64) σ1) fun q2 =>
  if q2 = 0 then
    some ((-2 : Int32), σ1)
  else
    if (σ1.1 23) = 0 then
      some ((0 : Int32), σ1)
    else
      if (σ1.1 24) = 0 then
        some ((0 : Int32), σ1)
      else
        Option.bind (F_X11_begin σ1) fun σ3 =>
        F_X11_days_b42 4000 a1 (0 : Int32) σ3
set_option maxHeartbeats 4000000 in
set_option maxRecDepth 20000 in
theorem w_X11_days_b70 {p : Program} {l : Launch} {e : Env} {s : State} {m : MethodId} {args : Array Value} {below : List Frame} {meth : Method} {c : Code} {D : va_G} {T : Nat → ClassId} {ad zz : Nat → Nat} (C : Cx p s m c cX11_days 4 RX11 (fA ad) D T ad zz) (hr : meth.sig.returnType = (some .int)) (hlk : meth.locks = false) {r : (Int32 × Mem)}  : ∀ (n : Nat), ∀ (x1 : Int32) (x2 : Int32) (σ : Mem), F_X11_days_b70  n x1 x2 σ = some r → V p l e { frames := 5, cells := 0, slots := 0, locals := 119 } s m args below meth c 0 0 (MQ below (qC (some (.int r.1)) r.2 D T ad) args s 0 0 (fA ad)) 4 (fA ad) D T ad σ 70 [(0, .ref (ad 11)), (1, .int x1), (2, .int x2)] [] := by
  intro n
  induction n with
  | zero =>
    intro x1 x2 σ hF
    cases (show (none : Option (Int32 × Mem)) = some r from hF)
  | succ n ih =>
    intro x1 x2 σ hF
    rw [F_X11_days_b70] at hF
    refine V_iload_n C 2 dX11_days_70 rfl ?_
    refine V_iload_n C 1 dX11_days_71 rfl ?_
    refine V_icmp_ge C 154 dX11_days_72 (by decide) hF (fun hF => ?_) (fun hF => ?_)
    · refine V_aload_n C 0 dX11_days_154 rfl ?_
      refine V_aload_n C 0 dX11_days_155 rfl ?_
      refine gf_X11_44 C dX11_days_156 ?_
      obtain ⟨q4, hq4, hF⟩ := bnd hF
      refine cs_X11_139 C (ct_X11_takenOf (by decide) hq4) rfl ⟨by decide, by decide⟩ (Nat.le_of_ble_eq_true rfl) dX11_days_159 ⟨Nat.le_refl 0, Nat.le_refl 0⟩ ?_
      cases hF
      exact V_iret C hr hlk rfl rfl dX11_days_162
    · refine V_aload_n C 0 dX11_days_75 rfl ?_
      refine V_aload_n C 0 dX11_days_76 rfl ?_
      refine gf_X11_233 C dX11_days_77 ?_
      refine V_ldc2 C dX11_days_80 (v := (6364136223846793005 : Int64)) (TB_in 1264 (by decide +kernel) (by decide +kernel)) ?_
      refine V_lmul C dX11_days_83 ?_
      refine V_ldc2 C dX11_days_84 (v := (1442695040888963407 : Int64)) (TB_in 1265 (by decide +kernel) (by decide +kernel)) ?_
      refine V_ladd C dX11_days_87 ?_
      obtain ⟨σ5, hs5, hF⟩ := bnd hF
      refine pf_X11_233 C hs5 dX11_days_88 ?_
      refine V_aload_n C 0 dX11_days_91 rfl ?_
      refine gf_X11_233 C dX11_days_92 ?_
      refine V_bipush C dX11_days_95 (v := (33 : Int32)) (by decide) ?_
      refine V_lushr C dX11_days_97 ?_
      refine V_aload_n C 0 dX11_days_98 rfl ?_
      refine gf_X11_67 C dX11_days_99 ?_
      refine V_aload_n C 0 dX11_days_102 rfl ?_
      refine gf_X11_60 C dX11_days_103 ?_
      refine V_imul C dX11_days_106 ?_
      refine V_i2l C dX11_days_107 ?_
      obtain ⟨v6, hv6, hF⟩ := bnd hF
      refine V_lrem C hv6 dX11_days_108 ?_
      refine V_l2i C dX11_days_109 ?_
      refine V_istore_n C (lv' := [(3, .int (v6).toInt32), (0, .ref (ad 11)), (1, .int x1), (2, .int x2)]) dX11_days_110 rfl (by decide) rfl ?_
      refine V_aload_n C 1 dX11_days_111 rfl ?_
      refine gf_X11_44 C dX11_days_112 ?_
      refine V_iload_n C 0 dX11_days_115 rfl ?_
      refine V_aload_n C 1 dX11_days_116 rfl ?_
      refine gf_X11_60 C dX11_days_117 ?_
      obtain ⟨v7, hv7, hF⟩ := bnd hF
      refine V_idiv C hv7 dX11_days_120 ?_
      obtain ⟨v8, hv8, hF⟩ := bnd hF
      refine V_iald C (by decide) hv8 dX11_days_121 ?_
      refine V_bipush C dX11_days_122 (v := (-9 : Int32)) (by decide) ?_
      refine V_icmp_ne C 148 dX11_days_124 (by decide) hF (fun hF => ?_) (fun hF => ?_)
      · refine V_iinc C (v := (x2 + 1)) (lv' := [(2, .int (x2 + 1)), (3, .int (v6).toInt32), (0, .ref (ad 11)), (1, .int x1)]) 3 dX11_days_148 rfl rfl (by decide) rfl ?_
        refine V_goto C 70 dX11_days_151 (by decide) ?_
        refine V_lv (ks := [2, 3, 0]) rfl ?_
        exact ih x1 (x2 + 1) σ5 hF
      · refine V_aload_n C 1 dX11_days_127 rfl ?_
        refine V_aload_n C 1 dX11_days_128 rfl ?_
        refine gf_X11_44 C dX11_days_129 ?_
        refine V_iload_n C 0 dX11_days_132 rfl ?_
        refine V_aload_n C 1 dX11_days_133 rfl ?_
        refine gf_X11_60 C dX11_days_134 ?_
        obtain ⟨v9, hv9, hF⟩ := bnd hF
        refine V_idiv C hv9 dX11_days_137 ?_
        refine V_iload_n C 0 dX11_days_138 rfl ?_
        refine V_aload_n C 1 dX11_days_139 rfl ?_
        refine gf_X11_60 C dX11_days_140 ?_
        obtain ⟨v10, hv10, hF⟩ := bnd hF
        refine V_irem C hv10 dX11_days_143 ?_
        obtain ⟨q11, hq11, hF⟩ := bnd hF
        refine cs_X11_162 C (ct_X11_goLead (by decide) hq11) rfl ⟨by decide, by decide⟩ (Nat.le_of_ble_eq_true rfl) dX11_days_144 ⟨Nat.le_refl 0, Nat.le_refl 0⟩ ?_
        refine V_pop C dX11_days_147 rfl ?_
        refine V_iinc C (v := (x2 + 1)) (lv' := [(2, .int (x2 + 1)), (3, .int (v6).toInt32), (0, .ref (ad 11)), (1, .int x1)]) 3 dX11_days_148 rfl rfl (by decide) rfl ?_
        refine V_goto C 70 dX11_days_151 (by decide) ?_
        refine V_lv (ks := [2, 3, 0]) rfl ?_
        exact ih x1 (x2 + 1) q11.2 hF
set_option maxHeartbeats 4000000 in
set_option maxRecDepth 20000 in
theorem w_X11_days_b42 {p : Program} {l : Launch} {e : Env} {s : State} {m : MethodId} {args : Array Value} {below : List Frame} {meth : Method} {c : Code} {D : va_G} {T : Nat → ClassId} {ad zz : Nat → Nat} (C : Cx p s m c cX11_days 4 RX11 (fA ad) D T ad zz) (hr : meth.sig.returnType = (some .int)) (hlk : meth.locks = false) {r : (Int32 × Mem)}  : ∀ (n : Nat), ∀ (x1 : Int32) (x2 : Int32) (σ : Mem), F_X11_days_b42  n x1 x2 σ = some r → V p l e { frames := 5, cells := 0, slots := 0, locals := 119 } s m args below meth c 0 0 (MQ below (qC (some (.int r.1)) r.2 D T ad) args s 0 0 (fA ad)) 4 (fA ad) D T ad σ 42 [(0, .ref (ad 11)), (1, .int x1), (2, .int x2)] [] := by
  intro n
  induction n with
  | zero =>
    intro x1 x2 σ hF
    cases (show (none : Option (Int32 × Mem)) = some r from hF)
  | succ n ih =>
    intro x1 x2 σ hF
    rw [F_X11_days_b42] at hF
    refine V_iload_n C 2 dX11_days_42 rfl ?_
    refine V_aload_n C 0 dX11_days_43 rfl ?_
    refine gf_X11_67 C dX11_days_44 ?_
    refine V_icmp_ge C 68 dX11_days_47 (by decide) hF (fun hF => ?_) (fun hF => ?_)
    · refine V_iconst C dX11_days_68 (v := (0 : Int32)) (by decide) ?_
      refine V_istore_n C (lv' := [(2, .int (0 : Int32)), (0, .ref (ad 11)), (1, .int x1)]) dX11_days_69 rfl (by decide) rfl ?_
      refine V_lv (ks := [1, 2, 0]) rfl ?_
      exact w_X11_days_b70 C hr hlk 4000 x1 (0 : Int32) σ hF
    · refine V_aload_n C 0 dX11_days_50 rfl ?_
      refine gf_X11_44 C dX11_days_51 ?_
      refine V_iload_n C 2 dX11_days_54 rfl ?_
      refine V_aload_n C 0 dX11_days_55 rfl ?_
      refine gf_X11_25 C dX11_days_56 ?_
      refine V_iload_n C 2 dX11_days_59 rfl ?_
      obtain ⟨v12, hv12, hF⟩ := bnd hF
      refine V_iald C (by decide) hv12 dX11_days_60 ?_
      obtain ⟨σ13, hs13, hF⟩ := bnd hF
      refine V_iast C (by decide) hs13 dX11_days_61 ?_
      refine V_iinc C (v := (x2 + 1)) (lv' := [(2, .int (x2 + 1)), (0, .ref (ad 11)), (1, .int x1)]) 2 dX11_days_62 rfl rfl (by decide) rfl ?_
      refine V_goto C 42 dX11_days_65 (by decide) ?_
      refine V_lv (ks := [1, 2, 0]) rfl ?_
      exact ih x1 (x2 + 1) σ13 hF
set_option maxHeartbeats 4000000 in
set_option maxRecDepth 20000 in
theorem ct_X11_days {a1 : Int32} {σ : Mem} {r : (Int32 × Mem)} (hF : F_X11_days a1 σ = some r) : Ct yX11_days cX11_days 4 (some .int) 5 119 (fun ad zz => [.ref (ad 11), .int a1]) σ (fun ad => (some (.int r.1))) r.2 := by
  refine Ct_of (by decide +kernel) (lv := fun ad zz => [(0, .ref (ad 11)), (1, .int a1)]) (fun _ _ => rfl) (fun _ _ => Nat.le_of_ble_eq_true rfl) (fun p l e s m args below meth c D T ad zz C hr hlk => ?_)
  rw [F_X11_days] at hF
  refine V_aload_n C 0 dX11_days_0 rfl ?_
  refine V_iconst C dX11_days_1 (v := (0 : Int32)) (by decide) ?_
  obtain ⟨σ1, hs1, hF⟩ := bnd hF
  refine pf_X11_56 C hs1 dX11_days_2 ?_
  refine V_iload_n C 1 dX11_days_5 rfl ?_
  refine V_i2l C dX11_days_6 ?_
  refine V_lconst C dX11_days_7 (v := (1 : Int64)) (by decide) ?_
  refine V_ldc2 C dX11_days_8 (v := (40 : Int64)) (TB_in 1263 (by decide +kernel) (by decide +kernel)) ?_
  obtain ⟨q2, hq2, hF⟩ := bnd hF
  refine cs_X11_63 C (ct_X11_in hq2) rfl ⟨by decide, by decide⟩ (Nat.le_of_ble_eq_true rfl) dX11_days_11 ⟨Nat.le_refl 0, Nat.le_refl 0⟩ ?_
  refine V_if_ne C 20 dX11_days_14 (by decide) hF (fun hF => ?_) (fun hF => ?_)
  · refine V_aload_n C 0 dX11_days_20 rfl ?_
    refine gf_X11_60 C dX11_days_21 ?_
    refine V_if_eq C 34 dX11_days_24 (by decide) hF (fun hF => ?_) (fun hF => ?_)
    · refine V_iconst C dX11_days_34 (v := (0 : Int32)) (by decide) ?_
      cases hF
      exact V_iret C hr hlk rfl rfl dX11_days_35
    · refine V_aload_n C 0 dX11_days_27 rfl ?_
      refine gf_X11_67 C dX11_days_28 ?_
      refine V_if_ne C 36 dX11_days_31 (by decide) hF (fun hF => ?_) (fun hF => ?_)
      · refine V_aload_n C 0 dX11_days_36 rfl ?_
        obtain ⟨σ3, hs3, hF⟩ := bnd hF
        refine cs_X11_173 C (ct_X11_begin hs3) rfl ⟨by decide, by decide⟩ (Nat.le_of_ble_eq_true rfl) dX11_days_37 ⟨Nat.le_refl 0, Nat.le_refl 0⟩ ?_
        refine V_iconst C dX11_days_40 (v := (0 : Int32)) (by decide) ?_
        refine V_istore_n C (lv' := [(2, .int (0 : Int32)), (0, .ref (ad 11)), (1, .int a1)]) dX11_days_41 rfl (by decide) rfl ?_
        refine V_lv (ks := [1, 2, 0]) rfl ?_
        exact w_X11_days_b42 C hr hlk 4000 a1 (0 : Int32) σ3 hF
      · refine V_iconst C dX11_days_34 (v := (0 : Int32)) (by decide) ?_
        cases hF
        exact V_iret C hr hlk rfl rfl dX11_days_35
  · refine V_bipush C dX11_days_17 (v := (-2 : Int32)) (by decide) ?_
    cases hF
    exact V_iret C hr hlk rfl rfl dX11_days_19

def F_X11_keep_b26  : Nat → Int32 → Int32 → Mem → Option (Int32 × Mem)
  | 0, _, _, _ => none
  | n + 1, x1, x2, σ =>
    if (21 : Int32) ≤ x2 then
      Option.bind (F_X11_takenOf 58 σ) fun q4 =>
      Option.bind (F_X11_many q4 σ) fun q5 =>
      some (q5, σ)
    else
      Option.bind (rdA σ 58 x2) fun v6 =>
      Option.bind (wrA σ 60 (((21 : Int32) * x1) + x2) v6) fun σ7 =>
      (F_X11_keep_b26 n) x1 (x2 + 1) σ7
def F_X11_keep (a1 : Int32) (σ : Mem) : Option (Int32 × Mem) :=
  Option.bind (stI σ 20 (0 : Int32)) fun σ1 =>
  Option.bind (F_X11_in ((a1).toInt64) (0 : Int64) (1 : Int64) σ1) fun q2 =>
  if q2 = 0 then
    some ((-1 : Int32), σ1)
  else
    Option.bind (wrA σ1 67 a1 (1 : Int32)) fun σ3 =>
    F_X11_keep_b26 4000 a1 (0 : Int32) σ3
set_option maxHeartbeats 4000000 in
set_option maxRecDepth 20000 in
theorem w_X11_keep_b26 {p : Program} {l : Launch} {e : Env} {s : State} {m : MethodId} {args : Array Value} {below : List Frame} {meth : Method} {c : Code} {D : va_G} {T : Nat → ClassId} {ad zz : Nat → Nat} (C : Cx p s m c cX11_keep 3 RX11 (fA ad) D T ad zz) (hr : meth.sig.returnType = (some .int)) (hlk : meth.locks = false) {r : (Int32 × Mem)}  : ∀ (n : Nat), ∀ (x1 : Int32) (x2 : Int32) (σ : Mem), F_X11_keep_b26  n x1 x2 σ = some r → V p l e { frames := 1, cells := 0, slots := 0, locals := 25 } s m args below meth c 0 0 (MQ below (qC (some (.int r.1)) r.2 D T ad) args s 0 0 (fA ad)) 3 (fA ad) D T ad σ 26 [(0, .ref (ad 11)), (1, .int x1), (2, .int x2)] [] := by
  intro n
  induction n with
  | zero =>
    intro x1 x2 σ hF
    cases (show (none : Option (Int32 × Mem)) = some r from hF)
  | succ n ih =>
    intro x1 x2 σ hF
    rw [F_X11_keep_b26] at hF
    refine V_iload_n C 2 dX11_keep_26 rfl ?_
    refine V_bipush C dX11_keep_27 (v := (21 : Int32)) (by decide) ?_
    refine V_icmp_ge C 55 dX11_keep_29 (by decide) hF (fun hF => ?_) (fun hF => ?_)
    · refine V_aload_n C 0 dX11_keep_55 rfl ?_
      refine V_aload_n C 0 dX11_keep_56 rfl ?_
      refine gf_X11_25 C dX11_keep_57 ?_
      obtain ⟨q4, hq4, hF⟩ := bnd hF
      refine cs_X11_139 C (ct_X11_takenOf (by decide) hq4) rfl ⟨by decide, by decide⟩ (Nat.le_of_ble_eq_true rfl) dX11_keep_60 ⟨Nat.le_refl 0, Nat.le_refl 0⟩ ?_
      obtain ⟨q5, hq5, hF⟩ := bnd hF
      refine cs_X11_113 C (ct_X11_many hq5) rfl ⟨by decide, by decide⟩ (Nat.le_of_ble_eq_true rfl) dX11_keep_63 ⟨Nat.le_refl 0, Nat.le_refl 0⟩ ?_
      cases hF
      exact V_iret C hr hlk rfl rfl dX11_keep_66
    · refine V_aload_n C 0 dX11_keep_32 rfl ?_
      refine gf_X11_31 C dX11_keep_33 ?_
      refine V_bipush C dX11_keep_36 (v := (21 : Int32)) (by decide) ?_
      refine V_iload_n C 1 dX11_keep_38 rfl ?_
      refine V_imul C dX11_keep_39 ?_
      refine V_iload_n C 2 dX11_keep_40 rfl ?_
      refine V_iadd C dX11_keep_41 ?_
      refine V_aload_n C 0 dX11_keep_42 rfl ?_
      refine gf_X11_25 C dX11_keep_43 ?_
      refine V_iload_n C 2 dX11_keep_46 rfl ?_
      obtain ⟨v6, hv6, hF⟩ := bnd hF
      refine V_iald C (by decide) hv6 dX11_keep_47 ?_
      obtain ⟨σ7, hs7, hF⟩ := bnd hF
      refine V_iast C (by decide) hs7 dX11_keep_48 ?_
      refine V_iinc C (v := (x2 + 1)) (lv' := [(2, .int (x2 + 1)), (0, .ref (ad 11)), (1, .int x1)]) 2 dX11_keep_49 rfl rfl (by decide) rfl ?_
      refine V_goto C 26 dX11_keep_52 (by decide) ?_
      refine V_lv (ks := [1, 2, 0]) rfl ?_
      exact ih x1 (x2 + 1) σ7 hF
set_option maxHeartbeats 4000000 in
set_option maxRecDepth 20000 in
theorem ct_X11_keep {a1 : Int32} {σ : Mem} {r : (Int32 × Mem)} (hF : F_X11_keep a1 σ = some r) : Ct yX11_keep cX11_keep 3 (some .int) 1 25 (fun ad zz => [.ref (ad 11), .int a1]) σ (fun ad => (some (.int r.1))) r.2 := by
  refine Ct_of (by decide +kernel) (lv := fun ad zz => [(0, .ref (ad 11)), (1, .int a1)]) (fun _ _ => rfl) (fun _ _ => Nat.le_of_ble_eq_true rfl) (fun p l e s m args below meth c D T ad zz C hr hlk => ?_)
  rw [F_X11_keep] at hF
  refine V_aload_n C 0 dX11_keep_0 rfl ?_
  refine V_iconst C dX11_keep_1 (v := (0 : Int32)) (by decide) ?_
  obtain ⟨σ1, hs1, hF⟩ := bnd hF
  refine pf_X11_56 C hs1 dX11_keep_2 ?_
  refine V_iload_n C 1 dX11_keep_5 rfl ?_
  refine V_i2l C dX11_keep_6 ?_
  refine V_lconst C dX11_keep_7 (v := (0 : Int64)) (by decide) ?_
  refine V_lconst C dX11_keep_8 (v := (1 : Int64)) (by decide) ?_
  obtain ⟨q2, hq2, hF⟩ := bnd hF
  refine cs_X11_63 C (ct_X11_in hq2) rfl ⟨by decide, by decide⟩ (Nat.le_of_ble_eq_true rfl) dX11_keep_9 ⟨Nat.le_refl 0, Nat.le_refl 0⟩ ?_
  refine V_if_ne C 17 dX11_keep_12 (by decide) hF (fun hF => ?_) (fun hF => ?_)
  · refine V_aload_n C 0 dX11_keep_17 rfl ?_
    refine gf_X11_34 C dX11_keep_18 ?_
    refine V_iload_n C 1 dX11_keep_21 rfl ?_
    refine V_iconst C dX11_keep_22 (v := (1 : Int32)) (by decide) ?_
    obtain ⟨σ3, hs3, hF⟩ := bnd hF
    refine V_zast C hs3 (by decide) dX11_keep_23 ?_
    refine V_iconst C dX11_keep_24 (v := (0 : Int32)) (by decide) ?_
    refine V_istore_n C (lv' := [(2, .int (0 : Int32)), (0, .ref (ad 11)), (1, .int a1)]) dX11_keep_25 rfl (by decide) rfl ?_
    refine V_lv (ks := [1, 2, 0]) rfl ?_
    exact w_X11_keep_b26 C hr hlk 4000 a1 (0 : Int32) σ3 hF
  · refine V_iconst C dX11_keep_15 (v := (-1 : Int32)) (by decide) ?_
    cases hF
    exact V_iret C hr hlk rfl rfl dX11_keep_16

def F_X11_again_b31  : Nat → Int32 → Int32 → Mem → Option (Int32 × Mem)
  | 0, _, _, _ => none
  | n + 1, x1, x2, σ =>
    if (21 : Int32) ≤ x2 then
      Option.bind (stI σ 27 (0 : Int32)) fun σ4 =>
      Option.bind (F_X11_takenOf 58 σ4) fun q5 =>
      Option.bind (F_X11_many q5 σ4) fun q6 =>
      some (q6, σ4)
    else
      Option.bind (rdA σ 60 (((21 : Int32) * x1) + x2)) fun v7 =>
      Option.bind (wrA σ 58 x2 v7) fun σ8 =>
      (F_X11_again_b31 n) x1 (x2 + 1) σ8
def F_X11_again (a1 : Int32) (σ : Mem) : Option (Int32 × Mem) :=
  Option.bind (stI σ 20 (0 : Int32)) fun σ1 =>
  Option.bind (F_X11_in ((a1).toInt64) (0 : Int64) (1 : Int64) σ1) fun q2 =>
  if q2 = 0 then
    some ((-1 : Int32), σ1)
  else
    Option.bind (rdA σ1 67 a1) fun v3 =>
    if v3 = 0 then
      some ((-3 : Int32), σ1)
    else
      F_X11_again_b31 4000 a1 (0 : Int32) σ1
set_option maxHeartbeats 4000000 in
set_option maxRecDepth 20000 in
theorem w_X11_again_b31 {p : Program} {l : Launch} {e : Env} {s : State} {m : MethodId} {args : Array Value} {below : List Frame} {meth : Method} {c : Code} {D : va_G} {T : Nat → ClassId} {ad zz : Nat → Nat} (C : Cx p s m c cX11_again 3 RX11 (fA ad) D T ad zz) (hr : meth.sig.returnType = (some .int)) (hlk : meth.locks = false) {r : (Int32 × Mem)}  : ∀ (n : Nat), ∀ (x1 : Int32) (x2 : Int32) (σ : Mem), F_X11_again_b31  n x1 x2 σ = some r → V p l e { frames := 1, cells := 0, slots := 0, locals := 25 } s m args below meth c 0 0 (MQ below (qC (some (.int r.1)) r.2 D T ad) args s 0 0 (fA ad)) 3 (fA ad) D T ad σ 31 [(0, .ref (ad 11)), (1, .int x1), (2, .int x2)] [] := by
  intro n
  induction n with
  | zero =>
    intro x1 x2 σ hF
    cases (show (none : Option (Int32 × Mem)) = some r from hF)
  | succ n ih =>
    intro x1 x2 σ hF
    rw [F_X11_again_b31] at hF
    refine V_iload_n C 2 dX11_again_31 rfl ?_
    refine V_bipush C dX11_again_32 (v := (21 : Int32)) (by decide) ?_
    refine V_icmp_ge C 60 dX11_again_34 (by decide) hF (fun hF => ?_) (fun hF => ?_)
    · refine V_aload_n C 0 dX11_again_60 rfl ?_
      refine V_iconst C dX11_again_61 (v := (0 : Int32)) (by decide) ?_
      obtain ⟨σ4, hs4, hF⟩ := bnd hF
      refine pf_X11_100 C hs4 dX11_again_62 ?_
      refine V_aload_n C 0 dX11_again_65 rfl ?_
      refine V_aload_n C 0 dX11_again_66 rfl ?_
      refine gf_X11_25 C dX11_again_67 ?_
      obtain ⟨q5, hq5, hF⟩ := bnd hF
      refine cs_X11_139 C (ct_X11_takenOf (by decide) hq5) rfl ⟨by decide, by decide⟩ (Nat.le_of_ble_eq_true rfl) dX11_again_70 ⟨Nat.le_refl 0, Nat.le_refl 0⟩ ?_
      obtain ⟨q6, hq6, hF⟩ := bnd hF
      refine cs_X11_113 C (ct_X11_many hq6) rfl ⟨by decide, by decide⟩ (Nat.le_of_ble_eq_true rfl) dX11_again_73 ⟨Nat.le_refl 0, Nat.le_refl 0⟩ ?_
      cases hF
      exact V_iret C hr hlk rfl rfl dX11_again_76
    · refine V_aload_n C 0 dX11_again_37 rfl ?_
      refine gf_X11_25 C dX11_again_38 ?_
      refine V_iload_n C 2 dX11_again_41 rfl ?_
      refine V_aload_n C 0 dX11_again_42 rfl ?_
      refine gf_X11_31 C dX11_again_43 ?_
      refine V_bipush C dX11_again_46 (v := (21 : Int32)) (by decide) ?_
      refine V_iload_n C 1 dX11_again_48 rfl ?_
      refine V_imul C dX11_again_49 ?_
      refine V_iload_n C 2 dX11_again_50 rfl ?_
      refine V_iadd C dX11_again_51 ?_
      obtain ⟨v7, hv7, hF⟩ := bnd hF
      refine V_iald C (by decide) hv7 dX11_again_52 ?_
      obtain ⟨σ8, hs8, hF⟩ := bnd hF
      refine V_iast C (by decide) hs8 dX11_again_53 ?_
      refine V_iinc C (v := (x2 + 1)) (lv' := [(2, .int (x2 + 1)), (0, .ref (ad 11)), (1, .int x1)]) 2 dX11_again_54 rfl rfl (by decide) rfl ?_
      refine V_goto C 31 dX11_again_57 (by decide) ?_
      refine V_lv (ks := [1, 2, 0]) rfl ?_
      exact ih x1 (x2 + 1) σ8 hF
set_option maxHeartbeats 4000000 in
set_option maxRecDepth 20000 in
theorem ct_X11_again {a1 : Int32} {σ : Mem} {r : (Int32 × Mem)} (hF : F_X11_again a1 σ = some r) : Ct yX11_again cX11_again 3 (some .int) 1 25 (fun ad zz => [.ref (ad 11), .int a1]) σ (fun ad => (some (.int r.1))) r.2 := by
  refine Ct_of (by decide +kernel) (lv := fun ad zz => [(0, .ref (ad 11)), (1, .int a1)]) (fun _ _ => rfl) (fun _ _ => Nat.le_of_ble_eq_true rfl) (fun p l e s m args below meth c D T ad zz C hr hlk => ?_)
  rw [F_X11_again] at hF
  refine V_aload_n C 0 dX11_again_0 rfl ?_
  refine V_iconst C dX11_again_1 (v := (0 : Int32)) (by decide) ?_
  obtain ⟨σ1, hs1, hF⟩ := bnd hF
  refine pf_X11_56 C hs1 dX11_again_2 ?_
  refine V_iload_n C 1 dX11_again_5 rfl ?_
  refine V_i2l C dX11_again_6 ?_
  refine V_lconst C dX11_again_7 (v := (0 : Int64)) (by decide) ?_
  refine V_lconst C dX11_again_8 (v := (1 : Int64)) (by decide) ?_
  obtain ⟨q2, hq2, hF⟩ := bnd hF
  refine cs_X11_63 C (ct_X11_in hq2) rfl ⟨by decide, by decide⟩ (Nat.le_of_ble_eq_true rfl) dX11_again_9 ⟨Nat.le_refl 0, Nat.le_refl 0⟩ ?_
  refine V_if_ne C 17 dX11_again_12 (by decide) hF (fun hF => ?_) (fun hF => ?_)
  · refine V_aload_n C 0 dX11_again_17 rfl ?_
    refine gf_X11_34 C dX11_again_18 ?_
    refine V_iload_n C 1 dX11_again_21 rfl ?_
    obtain ⟨v3, hv3, hF⟩ := bnd hF
    refine V_zald C hv3 dX11_again_22 ?_
    refine V_if_ne C 29 dX11_again_23 (by decide) hF (fun hF => ?_) (fun hF => ?_)
    · refine V_iconst C dX11_again_29 (v := (0 : Int32)) (by decide) ?_
      refine V_istore_n C (lv' := [(2, .int (0 : Int32)), (0, .ref (ad 11)), (1, .int a1)]) dX11_again_30 rfl (by decide) rfl ?_
      refine V_lv (ks := [1, 2, 0]) rfl ?_
      exact w_X11_again_b31 C hr hlk 4000 a1 (0 : Int32) σ1 hF
    · refine V_bipush C dX11_again_26 (v := (-3 : Int32)) (by decide) ?_
      cases hF
      exact V_iret C hr hlk rfl rfl dX11_again_28
  · refine V_iconst C dX11_again_15 (v := (-1 : Int32)) (by decide) ?_
    cases hF
    exact V_iret C hr hlk rfl rfl dX11_again_16
