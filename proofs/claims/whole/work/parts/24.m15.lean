-- walks: X11_oats
def F_X11_oats_b186 (kL76 : Int32 → Int32 → Int32 → Int32 → Int32 → Int32 → Int32 → Int32 → Mem → Option (Int32 × Mem)) (kL86 : Int32 → Int32 → Int32 → Int32 → Int32 → Int32 → Int32 → Int32 → Int32 → Mem → Option (Int32 × Mem)) (kL99 : Int32 → Int32 → Int32 → Int32 → Int32 → Int32 → Int32 → Int32 → Int32 → Int32 → Int32 → Mem → Option (Int32 × Mem)) (x2 : Int32) (x3 : Int32) (x4 : Int32) (x5 : Int32) (x6 : Int32) (x7 : Int32) (x8 : Int32) (x9 : Int32) (x10 : Int32) (x12 : Int32) (y0 : Int32) (y1 : Int32) (y2 : Int32) (y3 : Int32) (y4 : Int32) (σ : Mem) : Option (Int32 × Mem) :=
  Option.bind (F_X11_gain y4 y3 y2 y1 y0 σ) fun q8 =>
  if x2 ≤ x3 then
    Option.bind (F_X11_gain x6 x10 x5 x9 (0 : Int32) σ) fun q9 =>
    if q9 < q8 then
      kL99 x2 x3 x4 x5 x6 x7 x8 x9 x10 (0 : Int32) (x12 + 1) σ
    else
      kL99 x2 x3 x4 x5 x6 x7 x8 x9 x10 (1 : Int32) (x12 + 1) σ
  else
    Option.bind (F_X11_gain x6 x10 x5 x9 (1 : Int32) σ) fun q10 =>
    if q10 < q8 then
      kL99 x2 x3 x4 x5 x6 x7 x8 x9 x10 (0 : Int32) (x12 + 1) σ
    else
      kL99 x2 x3 x4 x5 x6 x7 x8 x9 x10 (1 : Int32) (x12 + 1) σ
def F_X11_oats_b150 (kL76 : Int32 → Int32 → Int32 → Int32 → Int32 → Int32 → Int32 → Int32 → Mem → Option (Int32 × Mem)) (kL86 : Int32 → Int32 → Int32 → Int32 → Int32 → Int32 → Int32 → Int32 → Int32 → Mem → Option (Int32 × Mem)) (kL99 : Int32 → Int32 → Int32 → Int32 → Int32 → Int32 → Int32 → Int32 → Int32 → Int32 → Int32 → Mem → Option (Int32 × Mem)) (x2 : Int32) (x3 : Int32) (x4 : Int32) (x5 : Int32) (x6 : Int32) (x7 : Int32) (x8 : Int32) (x9 : Int32) (x10 : Int32) (x12 : Int32) (y0 : Int32) (y1 : Int32) (y2 : Int32) (y3 : Int32) (y4 : Int32) (y5 : Int32) (σ : Mem) : Option (Int32 × Mem) :=
  Option.bind (F_X11_gain y4 y3 y2 y1 y0 σ) fun q12 =>
  if q12 < y5 then
    if (0 : Int32) = 0 then
      kL99 x2 x3 x4 x5 x6 x7 x8 x9 x10 (0 : Int32) (x12 + 1) σ
    else
      if x2 ≤ x3 then
        F_X11_oats_b186 kL76 kL86 kL99 x2 x3 x4 x5 x6 x7 x8 x9 x10 x12 (0 : Int32) x9 x5 x12 x6 σ
      else
        F_X11_oats_b186 kL76 kL86 kL99 x2 x3 x4 x5 x6 x7 x8 x9 x10 x12 (1 : Int32) x9 x5 x12 x6 σ
  else
    if (1 : Int32) = 0 then
      kL99 x2 x3 x4 x5 x6 x7 x8 x9 x10 (0 : Int32) (x12 + 1) σ
    else
      if x2 ≤ x3 then
        F_X11_oats_b186 kL76 kL86 kL99 x2 x3 x4 x5 x6 x7 x8 x9 x10 x12 (0 : Int32) x9 x5 x12 x6 σ
      else
        F_X11_oats_b186 kL76 kL86 kL99 x2 x3 x4 x5 x6 x7 x8 x9 x10 x12 (1 : Int32) x9 x5 x12 x6 σ
def F_X11_oats_b99 (kL76 : Int32 → Int32 → Int32 → Int32 → Int32 → Int32 → Int32 → Int32 → Mem → Option (Int32 × Mem)) (kL86 : Int32 → Int32 → Int32 → Int32 → Int32 → Int32 → Int32 → Int32 → Int32 → Mem → Option (Int32 × Mem)) : Nat → Int32 → Int32 → Int32 → Int32 → Int32 → Int32 → Int32 → Int32 → Int32 → Int32 → Int32 → Mem → Option (Int32 × Mem)
  | 0, _, _, _, _, _, _, _, _, _, _, _, _ => none
  | n + 1, x2, x3, x4, x5, x6, x7, x8, x9, x10, x11, x12, σ =>
    if (6 : Int32) ≤ x12 then
      if x11 = 0 then
        if x11 = 0 then
          kL86 x2 x3 x4 x5 x6 (x7 + (0 : Int32)) x8 x9 (x10 + 1) σ
        else
          kL86 x2 x3 x4 x5 x6 (x7 + (1 : Int32)) x8 x9 (x10 + 1) σ
      else
        if x7 = 0 then
          if x11 = 0 then
            kL86 x2 x3 x4 x5 x6 (x7 + (0 : Int32)) (((10 : Int32) * x9) + x10) x9 (x10 + 1) σ
          else
            kL86 x2 x3 x4 x5 x6 (x7 + (1 : Int32)) (((10 : Int32) * x9) + x10) x9 (x10 + 1) σ
        else
          if x11 = 0 then
            kL86 x2 x3 x4 x5 x6 (x7 + (0 : Int32)) x8 x9 (x10 + 1) σ
          else
            kL86 x2 x3 x4 x5 x6 (x7 + (1 : Int32)) x8 x9 (x10 + 1) σ
    else
      if x11 = 0 then
        if (0 : Int32) = 0 then
          (F_X11_oats_b99 kL76 kL86 n) x2 x3 x4 x5 x6 x7 x8 x9 x10 (0 : Int32) (x12 + 1) σ
        else
          if x2 ≤ x3 then
            F_X11_oats_b186 kL76 kL86 (F_X11_oats_b99 kL76 kL86 n) x2 x3 x4 x5 x6 x7 x8 x9 x10 x12 (0 : Int32) x9 x5 x12 x6 σ
          else
            F_X11_oats_b186 kL76 kL86 (F_X11_oats_b99 kL76 kL86 n) x2 x3 x4 x5 x6 x7 x8 x9 x10 x12 (1 : Int32) x9 x5 x12 x6 σ
      else
        if x3 ≤ x2 then
          Option.bind (F_X11_gain x5 x12 x6 x10 (0 : Int32) σ) fun q11 =>
          if x3 ≤ x2 then
            F_X11_oats_b150 kL76 kL86 (F_X11_oats_b99 kL76 kL86 n) x2 x3 x4 x5 x6 x7 x8 x9 x10 x12 (0 : Int32) x10 x6 x9 x5 q11 σ
          else
            F_X11_oats_b150 kL76 kL86 (F_X11_oats_b99 kL76 kL86 n) x2 x3 x4 x5 x6 x7 x8 x9 x10 x12 (1 : Int32) x10 x6 x9 x5 q11 σ
        else
          Option.bind (F_X11_gain x5 x12 x6 x10 (1 : Int32) σ) fun q13 =>
          if x3 ≤ x2 then
            F_X11_oats_b150 kL76 kL86 (F_X11_oats_b99 kL76 kL86 n) x2 x3 x4 x5 x6 x7 x8 x9 x10 x12 (0 : Int32) x10 x6 x9 x5 q13 σ
          else
            F_X11_oats_b150 kL76 kL86 (F_X11_oats_b99 kL76 kL86 n) x2 x3 x4 x5 x6 x7 x8 x9 x10 x12 (1 : Int32) x10 x6 x9 x5 q13 σ
def F_X11_oats_b86 (kL76 : Int32 → Int32 → Int32 → Int32 → Int32 → Int32 → Int32 → Int32 → Mem → Option (Int32 × Mem)) : Nat → Int32 → Int32 → Int32 → Int32 → Int32 → Int32 → Int32 → Int32 → Int32 → Mem → Option (Int32 × Mem)
  | 0, _, _, _, _, _, _, _, _, _, _ => none
  | n + 1, x2, x3, x4, x5, x6, x7, x8, x9, x10, σ =>
    if (6 : Int32) ≤ x10 then
      kL76 x2 x3 x4 x5 x6 x7 x8 (x9 + 1) σ
    else
      F_X11_oats_b99 kL76 (F_X11_oats_b86 kL76 n) 4000 x2 x3 x4 x5 x6 x7 x8 x9 x10 (1 : Int32) (0 : Int32) σ
def F_X11_oats_b76  : Nat → Int32 → Int32 → Int32 → Int32 → Int32 → Int32 → Int32 → Int32 → Mem → Option (Int32 × Mem)
  | 0, _, _, _, _, _, _, _, _, _ => none
  | n + 1, x2, x3, x4, x5, x6, x7, x8, x9, σ =>
    if (6 : Int32) ≤ x9 then
      if x4 = 0 then
        some (x7, σ)
      else
        some (x8, σ)
    else
      F_X11_oats_b86 (F_X11_oats_b76 n) 4000 x2 x3 x4 x5 x6 x7 x8 x9 (0 : Int32) σ
def F_X11_oats (a1 : Int32) (a2 : Int32) (a3 : Int32) (a4 : Int32) (σ : Mem) : Option (Int32 × Mem) :=
  Option.bind (stI σ 20 (0 : Int32)) fun σ1 =>
  Option.bind (F_X11_noHorse a1 σ1) fun q2 =>
  if q2 = 0 then
    Option.bind (F_X11_noRider a2 σ1) fun q3 =>
    if q3 = 0 then
      Option.bind (F_X11_noRider a3 σ1) fun q4 =>
      if q4 = 0 then
        if a2 = a3 then
          some ((-2 : Int32), σ1)
        else
          Option.bind (F_X11_in ((a4).toInt64) (0 : Int64) (1 : Int64) σ1) fun q5 =>
          if q5 = 0 then
            some ((-2 : Int32), σ1)
          else
            Option.bind (F_X11_worthOf a1 a2 σ1) fun q6 =>
            Option.bind (F_X11_worthOf a1 a3 σ1) fun q7 =>
            F_X11_oats_b76 4000 a2 a3 a4 q6 q7 (0 : Int32) (-9 : Int32) (0 : Int32) σ1
      else
        some ((-1 : Int32), σ1)
    else
      some ((-1 : Int32), σ1)
  else
    some ((-1 : Int32), σ1)
set_option maxHeartbeats 4000000 in
set_option maxRecDepth 20000 in
theorem w_X11_oats_b186 {p : Program} {l : Launch} {e : Env} {s : State} {m : MethodId} {args : Array Value} {below : List Frame} {meth : Method} {c : Code} {D : va_G} {T : Nat → ClassId} {ad zz : Nat → Nat} (C : Cx p s m c cX11_oats 13 RX11 (fA ad) D T ad zz) (hr : meth.sig.returnType = (some .int)) (hlk : meth.locks = false) {r : (Int32 × Mem)} (kL76 : Int32 → Int32 → Int32 → Int32 → Int32 → Int32 → Int32 → Int32 → Mem → Option (Int32 × Mem)) (kL86 : Int32 → Int32 → Int32 → Int32 → Int32 → Int32 → Int32 → Int32 → Int32 → Mem → Option (Int32 × Mem)) (kL99 : Int32 → Int32 → Int32 → Int32 → Int32 → Int32 → Int32 → Int32 → Int32 → Int32 → Int32 → Mem → Option (Int32 × Mem)) (hL76 : ∀ (x2 : Int32) (x3 : Int32) (x4 : Int32) (x5 : Int32) (x6 : Int32) (x7 : Int32) (x8 : Int32) (x9 : Int32) (σ : Mem), kL76 x2 x3 x4 x5 x6 x7 x8 x9 σ = some r → V p l e { frames := 2, cells := 0, slots := 0, locals := 47 } s m args below meth c 0 0 (MQ below (qC (some (.int r.1)) r.2 D T ad) args s 0 0 (fA ad)) 13 (fA ad) D T ad σ 76 [(2, .int x2), (3, .int x3), (4, .int x4), (5, .int x5), (6, .int x6), (7, .int x7), (8, .int x8), (9, .int x9)] []) (hL86 : ∀ (x2 : Int32) (x3 : Int32) (x4 : Int32) (x5 : Int32) (x6 : Int32) (x7 : Int32) (x8 : Int32) (x9 : Int32) (x10 : Int32) (σ : Mem), kL86 x2 x3 x4 x5 x6 x7 x8 x9 x10 σ = some r → V p l e { frames := 2, cells := 0, slots := 0, locals := 47 } s m args below meth c 0 0 (MQ below (qC (some (.int r.1)) r.2 D T ad) args s 0 0 (fA ad)) 13 (fA ad) D T ad σ 86 [(2, .int x2), (3, .int x3), (4, .int x4), (5, .int x5), (6, .int x6), (7, .int x7), (8, .int x8), (9, .int x9), (10, .int x10)] []) (hL99 : ∀ (x2 : Int32) (x3 : Int32) (x4 : Int32) (x5 : Int32) (x6 : Int32) (x7 : Int32) (x8 : Int32) (x9 : Int32) (x10 : Int32) (x11 : Int32) (x12 : Int32) (σ : Mem), kL99 x2 x3 x4 x5 x6 x7 x8 x9 x10 x11 x12 σ = some r → V p l e { frames := 2, cells := 0, slots := 0, locals := 47 } s m args below meth c 0 0 (MQ below (qC (some (.int r.1)) r.2 D T ad) args s 0 0 (fA ad)) 13 (fA ad) D T ad σ 99 [(2, .int x2), (3, .int x3), (4, .int x4), (5, .int x5), (6, .int x6), (7, .int x7), (8, .int x8), (9, .int x9), (10, .int x10), (11, .int x11), (12, .int x12)] []) (x2 : Int32) (x3 : Int32) (x4 : Int32) (x5 : Int32) (x6 : Int32) (x7 : Int32) (x8 : Int32) (x9 : Int32) (x10 : Int32) (x12 : Int32) (y0 : Int32) (y1 : Int32) (y2 : Int32) (y3 : Int32) (y4 : Int32) (σ : Mem) (hF : F_X11_oats_b186 kL76 kL86 kL99 x2 x3 x4 x5 x6 x7 x8 x9 x10 x12 y0 y1 y2 y3 y4 σ = some r) : V p l e { frames := 2, cells := 0, slots := 0, locals := 47 } s m args below meth c 0 0 (MQ below (qC (some (.int r.1)) r.2 D T ad) args s 0 0 (fA ad)) 13 (fA ad) D T ad σ 186 [(2, .int x2), (3, .int x3), (4, .int x4), (5, .int x5), (6, .int x6), (7, .int x7), (8, .int x8), (9, .int x9), (10, .int x10), (12, .int x12)] [.int y0, .int y1, .int y2, .int y3, .int y4] := by
  rw [F_X11_oats_b186] at hF
  obtain ⟨q8, hq8, hF⟩ := bnd hF
  refine cs_X11_219 C (ct_X11_gain hq8) rfl ⟨by decide, by decide⟩ (Nat.le_of_ble_eq_true rfl) dX11_oats_186 ⟨Nat.le_refl 0, Nat.le_refl 0⟩ ?_
  refine V_iload C 4 dX11_oats_189 rfl ?_
  refine V_iload C 8 dX11_oats_191 rfl ?_
  refine V_iload C 3 dX11_oats_193 rfl ?_
  refine V_iload C 7 dX11_oats_195 rfl ?_
  refine V_iload_n C 1 dX11_oats_197 rfl ?_
  refine V_iload_n C 0 dX11_oats_198 rfl ?_
  refine V_icmp_ge C 206 dX11_oats_199 (by decide) hF (fun hF => ?_) (fun hF => ?_)
  · refine V_iconst C dX11_oats_206 (v := (0 : Int32)) (by decide) ?_
    obtain ⟨q9, hq9, hF⟩ := bnd hF
    refine cs_X11_219 C (ct_X11_gain hq9) rfl ⟨by decide, by decide⟩ (Nat.le_of_ble_eq_true rfl) dX11_oats_207 ⟨Nat.le_refl 0, Nat.le_refl 0⟩ ?_
    refine V_icmp_gt C 217 dX11_oats_210 (by decide) hF (fun hF => ?_) (fun hF => ?_)
    · refine V_iconst C dX11_oats_217 (v := (0 : Int32)) (by decide) ?_
      refine V_istore C (lv' := [(11, .int (0 : Int32)), (2, .int x2), (3, .int x3), (4, .int x4), (5, .int x5), (6, .int x6), (7, .int x7), (8, .int x8), (9, .int x9), (10, .int x10), (12, .int x12)]) dX11_oats_218 (by decide) rfl ?_
      refine V_iinc C (v := (x12 + 1)) (lv' := [(12, .int (x12 + 1)), (11, .int (0 : Int32)), (2, .int x2), (3, .int x3), (4, .int x4), (5, .int x5), (6, .int x6), (7, .int x7), (8, .int x8), (9, .int x9), (10, .int x10)]) 10 dX11_oats_220 rfl rfl (by decide) rfl ?_
      refine V_goto C 99 dX11_oats_223 (by decide) ?_
      refine V_lv (ks := [2, 3, 4, 5, 6, 7, 8, 9, 10, 1, 0]) rfl ?_
      exact hL99 x2 x3 x4 x5 x6 x7 x8 x9 x10 (0 : Int32) (x12 + 1) σ hF
    · refine V_iconst C dX11_oats_213 (v := (1 : Int32)) (by decide) ?_
      refine V_goto C 218 dX11_oats_214 (by decide) ?_
      refine V_istore C (lv' := [(11, .int (1 : Int32)), (2, .int x2), (3, .int x3), (4, .int x4), (5, .int x5), (6, .int x6), (7, .int x7), (8, .int x8), (9, .int x9), (10, .int x10), (12, .int x12)]) dX11_oats_218 (by decide) rfl ?_
      refine V_iinc C (v := (x12 + 1)) (lv' := [(12, .int (x12 + 1)), (11, .int (1 : Int32)), (2, .int x2), (3, .int x3), (4, .int x4), (5, .int x5), (6, .int x6), (7, .int x7), (8, .int x8), (9, .int x9), (10, .int x10)]) 10 dX11_oats_220 rfl rfl (by decide) rfl ?_
      refine V_goto C 99 dX11_oats_223 (by decide) ?_
      refine V_lv (ks := [2, 3, 4, 5, 6, 7, 8, 9, 10, 1, 0]) rfl ?_
      exact hL99 x2 x3 x4 x5 x6 x7 x8 x9 x10 (1 : Int32) (x12 + 1) σ hF
  · refine V_iconst C dX11_oats_202 (v := (1 : Int32)) (by decide) ?_
    refine V_goto C 207 dX11_oats_203 (by decide) ?_
    obtain ⟨q10, hq10, hF⟩ := bnd hF
    refine cs_X11_219 C (ct_X11_gain hq10) rfl ⟨by decide, by decide⟩ (Nat.le_of_ble_eq_true rfl) dX11_oats_207 ⟨Nat.le_refl 0, Nat.le_refl 0⟩ ?_
    refine V_icmp_gt C 217 dX11_oats_210 (by decide) hF (fun hF => ?_) (fun hF => ?_)
    · refine V_iconst C dX11_oats_217 (v := (0 : Int32)) (by decide) ?_
      refine V_istore C (lv' := [(11, .int (0 : Int32)), (2, .int x2), (3, .int x3), (4, .int x4), (5, .int x5), (6, .int x6), (7, .int x7), (8, .int x8), (9, .int x9), (10, .int x10), (12, .int x12)]) dX11_oats_218 (by decide) rfl ?_
      refine V_iinc C (v := (x12 + 1)) (lv' := [(12, .int (x12 + 1)), (11, .int (0 : Int32)), (2, .int x2), (3, .int x3), (4, .int x4), (5, .int x5), (6, .int x6), (7, .int x7), (8, .int x8), (9, .int x9), (10, .int x10)]) 10 dX11_oats_220 rfl rfl (by decide) rfl ?_
      refine V_goto C 99 dX11_oats_223 (by decide) ?_
      refine V_lv (ks := [2, 3, 4, 5, 6, 7, 8, 9, 10, 1, 0]) rfl ?_
      exact hL99 x2 x3 x4 x5 x6 x7 x8 x9 x10 (0 : Int32) (x12 + 1) σ hF
    · refine V_iconst C dX11_oats_213 (v := (1 : Int32)) (by decide) ?_
      refine V_goto C 218 dX11_oats_214 (by decide) ?_
      refine V_istore C (lv' := [(11, .int (1 : Int32)), (2, .int x2), (3, .int x3), (4, .int x4), (5, .int x5), (6, .int x6), (7, .int x7), (8, .int x8), (9, .int x9), (10, .int x10), (12, .int x12)]) dX11_oats_218 (by decide) rfl ?_
      refine V_iinc C (v := (x12 + 1)) (lv' := [(12, .int (x12 + 1)), (11, .int (1 : Int32)), (2, .int x2), (3, .int x3), (4, .int x4), (5, .int x5), (6, .int x6), (7, .int x7), (8, .int x8), (9, .int x9), (10, .int x10)]) 10 dX11_oats_220 rfl rfl (by decide) rfl ?_
      refine V_goto C 99 dX11_oats_223 (by decide) ?_
      refine V_lv (ks := [2, 3, 4, 5, 6, 7, 8, 9, 10, 1, 0]) rfl ?_
      exact hL99 x2 x3 x4 x5 x6 x7 x8 x9 x10 (1 : Int32) (x12 + 1) σ hF
set_option maxHeartbeats 4000000 in
set_option maxRecDepth 20000 in
theorem w_X11_oats_b150 {p : Program} {l : Launch} {e : Env} {s : State} {m : MethodId} {args : Array Value} {below : List Frame} {meth : Method} {c : Code} {D : va_G} {T : Nat → ClassId} {ad zz : Nat → Nat} (C : Cx p s m c cX11_oats 13 RX11 (fA ad) D T ad zz) (hr : meth.sig.returnType = (some .int)) (hlk : meth.locks = false) {r : (Int32 × Mem)} (kL76 : Int32 → Int32 → Int32 → Int32 → Int32 → Int32 → Int32 → Int32 → Mem → Option (Int32 × Mem)) (kL86 : Int32 → Int32 → Int32 → Int32 → Int32 → Int32 → Int32 → Int32 → Int32 → Mem → Option (Int32 × Mem)) (kL99 : Int32 → Int32 → Int32 → Int32 → Int32 → Int32 → Int32 → Int32 → Int32 → Int32 → Int32 → Mem → Option (Int32 × Mem)) (hL76 : ∀ (x2 : Int32) (x3 : Int32) (x4 : Int32) (x5 : Int32) (x6 : Int32) (x7 : Int32) (x8 : Int32) (x9 : Int32) (σ : Mem), kL76 x2 x3 x4 x5 x6 x7 x8 x9 σ = some r → V p l e { frames := 2, cells := 0, slots := 0, locals := 47 } s m args below meth c 0 0 (MQ below (qC (some (.int r.1)) r.2 D T ad) args s 0 0 (fA ad)) 13 (fA ad) D T ad σ 76 [(2, .int x2), (3, .int x3), (4, .int x4), (5, .int x5), (6, .int x6), (7, .int x7), (8, .int x8), (9, .int x9)] []) (hL86 : ∀ (x2 : Int32) (x3 : Int32) (x4 : Int32) (x5 : Int32) (x6 : Int32) (x7 : Int32) (x8 : Int32) (x9 : Int32) (x10 : Int32) (σ : Mem), kL86 x2 x3 x4 x5 x6 x7 x8 x9 x10 σ = some r → V p l e { frames := 2, cells := 0, slots := 0, locals := 47 } s m args below meth c 0 0 (MQ below (qC (some (.int r.1)) r.2 D T ad) args s 0 0 (fA ad)) 13 (fA ad) D T ad σ 86 [(2, .int x2), (3, .int x3), (4, .int x4), (5, .int x5), (6, .int x6), (7, .int x7), (8, .int x8), (9, .int x9), (10, .int x10)] []) (hL99 : ∀ (x2 : Int32) (x3 : Int32) (x4 : Int32) (x5 : Int32) (x6 : Int32) (x7 : Int32) (x8 : Int32) (x9 : Int32) (x10 : Int32) (x11 : Int32) (x12 : Int32) (σ : Mem), kL99 x2 x3 x4 x5 x6 x7 x8 x9 x10 x11 x12 σ = some r → V p l e { frames := 2, cells := 0, slots := 0, locals := 47 } s m args below meth c 0 0 (MQ below (qC (some (.int r.1)) r.2 D T ad) args s 0 0 (fA ad)) 13 (fA ad) D T ad σ 99 [(2, .int x2), (3, .int x3), (4, .int x4), (5, .int x5), (6, .int x6), (7, .int x7), (8, .int x8), (9, .int x9), (10, .int x10), (11, .int x11), (12, .int x12)] []) (x2 : Int32) (x3 : Int32) (x4 : Int32) (x5 : Int32) (x6 : Int32) (x7 : Int32) (x8 : Int32) (x9 : Int32) (x10 : Int32) (x12 : Int32) (y0 : Int32) (y1 : Int32) (y2 : Int32) (y3 : Int32) (y4 : Int32) (y5 : Int32) (σ : Mem) (hF : F_X11_oats_b150 kL76 kL86 kL99 x2 x3 x4 x5 x6 x7 x8 x9 x10 x12 y0 y1 y2 y3 y4 y5 σ = some r) : V p l e { frames := 2, cells := 0, slots := 0, locals := 47 } s m args below meth c 0 0 (MQ below (qC (some (.int r.1)) r.2 D T ad) args s 0 0 (fA ad)) 13 (fA ad) D T ad σ 150 [(2, .int x2), (3, .int x3), (4, .int x4), (5, .int x5), (6, .int x6), (7, .int x7), (8, .int x8), (9, .int x9), (10, .int x10), (12, .int x12)] [.int y0, .int y1, .int y2, .int y3, .int y4, .int y5] := by
  rw [F_X11_oats_b150] at hF
  obtain ⟨q12, hq12, hF⟩ := bnd hF
  refine cs_X11_219 C (ct_X11_gain hq12) rfl ⟨by decide, by decide⟩ (Nat.le_of_ble_eq_true rfl) dX11_oats_150 ⟨Nat.le_refl 0, Nat.le_refl 0⟩ ?_
  refine V_icmp_gt C 160 dX11_oats_153 (by decide) hF (fun hF => ?_) (fun hF => ?_)
  · refine V_iconst C dX11_oats_160 (v := (0 : Int32)) (by decide) ?_
    refine V_istore C (lv' := [(11, .int (0 : Int32)), (2, .int x2), (3, .int x3), (4, .int x4), (5, .int x5), (6, .int x6), (7, .int x7), (8, .int x8), (9, .int x9), (10, .int x10), (12, .int x12)]) dX11_oats_161 (by decide) rfl ?_
    refine V_iload C 0 dX11_oats_163 rfl ?_
    refine V_if_eq C 217 dX11_oats_165 (by decide) hF (fun hF => ?_) (fun hF => ?_)
    · refine V_iconst C dX11_oats_217 (v := (0 : Int32)) (by decide) ?_
      refine V_istore C (lv' := [(11, .int (0 : Int32)), (2, .int x2), (3, .int x3), (4, .int x4), (5, .int x5), (6, .int x6), (7, .int x7), (8, .int x8), (9, .int x9), (10, .int x10), (12, .int x12)]) dX11_oats_218 (by decide) rfl ?_
      refine V_iinc C (v := (x12 + 1)) (lv' := [(12, .int (x12 + 1)), (11, .int (0 : Int32)), (2, .int x2), (3, .int x3), (4, .int x4), (5, .int x5), (6, .int x6), (7, .int x7), (8, .int x8), (9, .int x9), (10, .int x10)]) 10 dX11_oats_220 rfl rfl (by decide) rfl ?_
      refine V_goto C 99 dX11_oats_223 (by decide) ?_
      refine V_lv (ks := [2, 3, 4, 5, 6, 7, 8, 9, 10, 1, 0]) rfl ?_
      exact hL99 x2 x3 x4 x5 x6 x7 x8 x9 x10 (0 : Int32) (x12 + 1) σ hF
    · refine V_iload C 5 dX11_oats_168 rfl ?_
      refine V_iload C 10 dX11_oats_170 rfl ?_
      refine V_iload C 4 dX11_oats_172 rfl ?_
      refine V_iload C 8 dX11_oats_174 rfl ?_
      refine V_iload_n C 2 dX11_oats_176 rfl ?_
      refine V_iload_n C 1 dX11_oats_177 rfl ?_
      refine V_icmp_ge C 185 dX11_oats_178 (by decide) hF (fun hF => ?_) (fun hF => ?_)
      · refine V_iconst C dX11_oats_185 (v := (0 : Int32)) (by decide) ?_
        refine V_lv (ks := [1, 2, 3, 4, 5, 6, 7, 8, 9, 10]) rfl ?_
        exact w_X11_oats_b186 C hr hlk kL76 kL86 kL99 hL76 hL86 hL99 x2 x3 x4 x5 x6 x7 x8 x9 x10 x12 (0 : Int32) x9 x5 x12 x6 σ hF
      · refine V_iconst C dX11_oats_181 (v := (1 : Int32)) (by decide) ?_
        refine V_goto C 186 dX11_oats_182 (by decide) ?_
        refine V_lv (ks := [1, 2, 3, 4, 5, 6, 7, 8, 9, 10]) rfl ?_
        exact w_X11_oats_b186 C hr hlk kL76 kL86 kL99 hL76 hL86 hL99 x2 x3 x4 x5 x6 x7 x8 x9 x10 x12 (1 : Int32) x9 x5 x12 x6 σ hF
  · refine V_iconst C dX11_oats_156 (v := (1 : Int32)) (by decide) ?_
    refine V_goto C 161 dX11_oats_157 (by decide) ?_
    refine V_istore C (lv' := [(11, .int (1 : Int32)), (2, .int x2), (3, .int x3), (4, .int x4), (5, .int x5), (6, .int x6), (7, .int x7), (8, .int x8), (9, .int x9), (10, .int x10), (12, .int x12)]) dX11_oats_161 (by decide) rfl ?_
    refine V_iload C 0 dX11_oats_163 rfl ?_
    refine V_if_eq C 217 dX11_oats_165 (by decide) hF (fun hF => ?_) (fun hF => ?_)
    · refine V_iconst C dX11_oats_217 (v := (0 : Int32)) (by decide) ?_
      refine V_istore C (lv' := [(11, .int (0 : Int32)), (2, .int x2), (3, .int x3), (4, .int x4), (5, .int x5), (6, .int x6), (7, .int x7), (8, .int x8), (9, .int x9), (10, .int x10), (12, .int x12)]) dX11_oats_218 (by decide) rfl ?_
      refine V_iinc C (v := (x12 + 1)) (lv' := [(12, .int (x12 + 1)), (11, .int (0 : Int32)), (2, .int x2), (3, .int x3), (4, .int x4), (5, .int x5), (6, .int x6), (7, .int x7), (8, .int x8), (9, .int x9), (10, .int x10)]) 10 dX11_oats_220 rfl rfl (by decide) rfl ?_
      refine V_goto C 99 dX11_oats_223 (by decide) ?_
      refine V_lv (ks := [2, 3, 4, 5, 6, 7, 8, 9, 10, 1, 0]) rfl ?_
      exact hL99 x2 x3 x4 x5 x6 x7 x8 x9 x10 (0 : Int32) (x12 + 1) σ hF
    · refine V_iload C 5 dX11_oats_168 rfl ?_
      refine V_iload C 10 dX11_oats_170 rfl ?_
      refine V_iload C 4 dX11_oats_172 rfl ?_
      refine V_iload C 8 dX11_oats_174 rfl ?_
      refine V_iload_n C 2 dX11_oats_176 rfl ?_
      refine V_iload_n C 1 dX11_oats_177 rfl ?_
      refine V_icmp_ge C 185 dX11_oats_178 (by decide) hF (fun hF => ?_) (fun hF => ?_)
      · refine V_iconst C dX11_oats_185 (v := (0 : Int32)) (by decide) ?_
        refine V_lv (ks := [1, 2, 3, 4, 5, 6, 7, 8, 9, 10]) rfl ?_
        exact w_X11_oats_b186 C hr hlk kL76 kL86 kL99 hL76 hL86 hL99 x2 x3 x4 x5 x6 x7 x8 x9 x10 x12 (0 : Int32) x9 x5 x12 x6 σ hF
      · refine V_iconst C dX11_oats_181 (v := (1 : Int32)) (by decide) ?_
        refine V_goto C 186 dX11_oats_182 (by decide) ?_
        refine V_lv (ks := [1, 2, 3, 4, 5, 6, 7, 8, 9, 10]) rfl ?_
        exact w_X11_oats_b186 C hr hlk kL76 kL86 kL99 hL76 hL86 hL99 x2 x3 x4 x5 x6 x7 x8 x9 x10 x12 (1 : Int32) x9 x5 x12 x6 σ hF
set_option maxHeartbeats 4000000 in
set_option maxRecDepth 20000 in
theorem w_X11_oats_b99 {p : Program} {l : Launch} {e : Env} {s : State} {m : MethodId} {args : Array Value} {below : List Frame} {meth : Method} {c : Code} {D : va_G} {T : Nat → ClassId} {ad zz : Nat → Nat} (C : Cx p s m c cX11_oats 13 RX11 (fA ad) D T ad zz) (hr : meth.sig.returnType = (some .int)) (hlk : meth.locks = false) {r : (Int32 × Mem)} (kL76 : Int32 → Int32 → Int32 → Int32 → Int32 → Int32 → Int32 → Int32 → Mem → Option (Int32 × Mem)) (kL86 : Int32 → Int32 → Int32 → Int32 → Int32 → Int32 → Int32 → Int32 → Int32 → Mem → Option (Int32 × Mem)) (hL76 : ∀ (x2 : Int32) (x3 : Int32) (x4 : Int32) (x5 : Int32) (x6 : Int32) (x7 : Int32) (x8 : Int32) (x9 : Int32) (σ : Mem), kL76 x2 x3 x4 x5 x6 x7 x8 x9 σ = some r → V p l e { frames := 2, cells := 0, slots := 0, locals := 47 } s m args below meth c 0 0 (MQ below (qC (some (.int r.1)) r.2 D T ad) args s 0 0 (fA ad)) 13 (fA ad) D T ad σ 76 [(2, .int x2), (3, .int x3), (4, .int x4), (5, .int x5), (6, .int x6), (7, .int x7), (8, .int x8), (9, .int x9)] []) (hL86 : ∀ (x2 : Int32) (x3 : Int32) (x4 : Int32) (x5 : Int32) (x6 : Int32) (x7 : Int32) (x8 : Int32) (x9 : Int32) (x10 : Int32) (σ : Mem), kL86 x2 x3 x4 x5 x6 x7 x8 x9 x10 σ = some r → V p l e { frames := 2, cells := 0, slots := 0, locals := 47 } s m args below meth c 0 0 (MQ below (qC (some (.int r.1)) r.2 D T ad) args s 0 0 (fA ad)) 13 (fA ad) D T ad σ 86 [(2, .int x2), (3, .int x3), (4, .int x4), (5, .int x5), (6, .int x6), (7, .int x7), (8, .int x8), (9, .int x9), (10, .int x10)] []) : ∀ (n : Nat), ∀ (x2 : Int32) (x3 : Int32) (x4 : Int32) (x5 : Int32) (x6 : Int32) (x7 : Int32) (x8 : Int32) (x9 : Int32) (x10 : Int32) (x11 : Int32) (x12 : Int32) (σ : Mem), F_X11_oats_b99 kL76 kL86 n x2 x3 x4 x5 x6 x7 x8 x9 x10 x11 x12 σ = some r → V p l e { frames := 2, cells := 0, slots := 0, locals := 47 } s m args below meth c 0 0 (MQ below (qC (some (.int r.1)) r.2 D T ad) args s 0 0 (fA ad)) 13 (fA ad) D T ad σ 99 [(2, .int x2), (3, .int x3), (4, .int x4), (5, .int x5), (6, .int x6), (7, .int x7), (8, .int x8), (9, .int x9), (10, .int x10), (11, .int x11), (12, .int x12)] [] := by
  intro n
  induction n with
  | zero =>
    intro x2 x3 x4 x5 x6 x7 x8 x9 x10 x11 x12 σ hF
    cases (show (none : Option (Int32 × Mem)) = some r from hF)
  | succ n ih =>
    intro x2 x3 x4 x5 x6 x7 x8 x9 x10 x11 x12 σ hF
    rw [F_X11_oats_b99] at hF
    refine V_iload C 10 dX11_oats_99 rfl ?_
    refine V_bipush C dX11_oats_101 (v := (6 : Int32)) (by decide) ?_
    refine V_icmp_ge C 226 dX11_oats_103 (by decide) hF (fun hF => ?_) (fun hF => ?_)
    · refine V_iload C 9 dX11_oats_226 rfl ?_
      refine V_if_eq C 247 dX11_oats_228 (by decide) hF (fun hF => ?_) (fun hF => ?_)
      · refine V_iload C 6 dX11_oats_247 rfl ?_
        refine V_istore C (lv' := [(8, .int x8), (2, .int x2), (3, .int x3), (4, .int x4), (5, .int x5), (6, .int x6), (7, .int x7), (9, .int x9), (10, .int x10), (11, .int x11), (12, .int x12)]) dX11_oats_249 (by decide) rfl ?_
        refine V_iload C 6 dX11_oats_251 rfl ?_
        refine V_iload C 9 dX11_oats_253 rfl ?_
        refine V_if_eq C 262 dX11_oats_255 (by decide) hF (fun hF => ?_) (fun hF => ?_)
        · refine V_iconst C dX11_oats_262 (v := (0 : Int32)) (by decide) ?_
          refine V_iadd C dX11_oats_263 ?_
          refine V_istore C (lv' := [(7, .int (x7 + (0 : Int32))), (8, .int x8), (2, .int x2), (3, .int x3), (4, .int x4), (5, .int x5), (6, .int x6), (9, .int x9), (10, .int x10), (11, .int x11), (12, .int x12)]) dX11_oats_264 (by decide) rfl ?_
          refine V_iinc C (v := (x10 + 1)) (lv' := [(10, .int (x10 + 1)), (7, .int (x7 + (0 : Int32))), (8, .int x8), (2, .int x2), (3, .int x3), (4, .int x4), (5, .int x5), (6, .int x6), (9, .int x9), (11, .int x11), (12, .int x12)]) 8 dX11_oats_266 rfl rfl (by decide) rfl ?_
          refine V_goto C 86 dX11_oats_269 (by decide) ?_
          refine V_lv (ks := [3, 4, 5, 6, 7, 1, 2, 8, 0]) rfl ?_
          exact hL86 x2 x3 x4 x5 x6 (x7 + (0 : Int32)) x8 x9 (x10 + 1) σ hF
        · refine V_iconst C dX11_oats_258 (v := (1 : Int32)) (by decide) ?_
          refine V_goto C 263 dX11_oats_259 (by decide) ?_
          refine V_iadd C dX11_oats_263 ?_
          refine V_istore C (lv' := [(7, .int (x7 + (1 : Int32))), (8, .int x8), (2, .int x2), (3, .int x3), (4, .int x4), (5, .int x5), (6, .int x6), (9, .int x9), (10, .int x10), (11, .int x11), (12, .int x12)]) dX11_oats_264 (by decide) rfl ?_
          refine V_iinc C (v := (x10 + 1)) (lv' := [(10, .int (x10 + 1)), (7, .int (x7 + (1 : Int32))), (8, .int x8), (2, .int x2), (3, .int x3), (4, .int x4), (5, .int x5), (6, .int x6), (9, .int x9), (11, .int x11), (12, .int x12)]) 8 dX11_oats_266 rfl rfl (by decide) rfl ?_
          refine V_goto C 86 dX11_oats_269 (by decide) ?_
          refine V_lv (ks := [3, 4, 5, 6, 7, 1, 2, 8, 0]) rfl ?_
          exact hL86 x2 x3 x4 x5 x6 (x7 + (1 : Int32)) x8 x9 (x10 + 1) σ hF
      · refine V_iload C 5 dX11_oats_231 rfl ?_
        refine V_if_ne C 247 dX11_oats_233 (by decide) hF (fun hF => ?_) (fun hF => ?_)
        · refine V_iload C 6 dX11_oats_247 rfl ?_
          refine V_istore C (lv' := [(8, .int x8), (2, .int x2), (3, .int x3), (4, .int x4), (5, .int x5), (6, .int x6), (7, .int x7), (9, .int x9), (10, .int x10), (11, .int x11), (12, .int x12)]) dX11_oats_249 (by decide) rfl ?_
          refine V_iload C 6 dX11_oats_251 rfl ?_
          refine V_iload C 9 dX11_oats_253 rfl ?_
          refine V_if_eq C 262 dX11_oats_255 (by decide) hF (fun hF => ?_) (fun hF => ?_)
          · refine V_iconst C dX11_oats_262 (v := (0 : Int32)) (by decide) ?_
            refine V_iadd C dX11_oats_263 ?_
            refine V_istore C (lv' := [(7, .int (x7 + (0 : Int32))), (8, .int x8), (2, .int x2), (3, .int x3), (4, .int x4), (5, .int x5), (6, .int x6), (9, .int x9), (10, .int x10), (11, .int x11), (12, .int x12)]) dX11_oats_264 (by decide) rfl ?_
            refine V_iinc C (v := (x10 + 1)) (lv' := [(10, .int (x10 + 1)), (7, .int (x7 + (0 : Int32))), (8, .int x8), (2, .int x2), (3, .int x3), (4, .int x4), (5, .int x5), (6, .int x6), (9, .int x9), (11, .int x11), (12, .int x12)]) 8 dX11_oats_266 rfl rfl (by decide) rfl ?_
            refine V_goto C 86 dX11_oats_269 (by decide) ?_
            refine V_lv (ks := [3, 4, 5, 6, 7, 1, 2, 8, 0]) rfl ?_
            exact hL86 x2 x3 x4 x5 x6 (x7 + (0 : Int32)) x8 x9 (x10 + 1) σ hF
          · refine V_iconst C dX11_oats_258 (v := (1 : Int32)) (by decide) ?_
            refine V_goto C 263 dX11_oats_259 (by decide) ?_
            refine V_iadd C dX11_oats_263 ?_
            refine V_istore C (lv' := [(7, .int (x7 + (1 : Int32))), (8, .int x8), (2, .int x2), (3, .int x3), (4, .int x4), (5, .int x5), (6, .int x6), (9, .int x9), (10, .int x10), (11, .int x11), (12, .int x12)]) dX11_oats_264 (by decide) rfl ?_
            refine V_iinc C (v := (x10 + 1)) (lv' := [(10, .int (x10 + 1)), (7, .int (x7 + (1 : Int32))), (8, .int x8), (2, .int x2), (3, .int x3), (4, .int x4), (5, .int x5), (6, .int x6), (9, .int x9), (11, .int x11), (12, .int x12)]) 8 dX11_oats_266 rfl rfl (by decide) rfl ?_
            refine V_goto C 86 dX11_oats_269 (by decide) ?_
            refine V_lv (ks := [3, 4, 5, 6, 7, 1, 2, 8, 0]) rfl ?_
            exact hL86 x2 x3 x4 x5 x6 (x7 + (1 : Int32)) x8 x9 (x10 + 1) σ hF
        · refine V_bipush C dX11_oats_236 (v := (10 : Int32)) (by decide) ?_
          refine V_iload C 7 dX11_oats_238 rfl ?_
          refine V_imul C dX11_oats_240 ?_
          refine V_iload C 8 dX11_oats_241 rfl ?_
          refine V_iadd C dX11_oats_243 ?_
          refine V_goto C 249 dX11_oats_244 (by decide) ?_
          refine V_istore C (lv' := [(8, .int (((10 : Int32) * x9) + x10)), (2, .int x2), (3, .int x3), (4, .int x4), (5, .int x5), (6, .int x6), (7, .int x7), (9, .int x9), (10, .int x10), (11, .int x11), (12, .int x12)]) dX11_oats_249 (by decide) rfl ?_
          refine V_iload C 6 dX11_oats_251 rfl ?_
          refine V_iload C 9 dX11_oats_253 rfl ?_
          refine V_if_eq C 262 dX11_oats_255 (by decide) hF (fun hF => ?_) (fun hF => ?_)
          · refine V_iconst C dX11_oats_262 (v := (0 : Int32)) (by decide) ?_
            refine V_iadd C dX11_oats_263 ?_
            refine V_istore C (lv' := [(7, .int (x7 + (0 : Int32))), (8, .int (((10 : Int32) * x9) + x10)), (2, .int x2), (3, .int x3), (4, .int x4), (5, .int x5), (6, .int x6), (9, .int x9), (10, .int x10), (11, .int x11), (12, .int x12)]) dX11_oats_264 (by decide) rfl ?_
            refine V_iinc C (v := (x10 + 1)) (lv' := [(10, .int (x10 + 1)), (7, .int (x7 + (0 : Int32))), (8, .int (((10 : Int32) * x9) + x10)), (2, .int x2), (3, .int x3), (4, .int x4), (5, .int x5), (6, .int x6), (9, .int x9), (11, .int x11), (12, .int x12)]) 8 dX11_oats_266 rfl rfl (by decide) rfl ?_
            refine V_goto C 86 dX11_oats_269 (by decide) ?_
            refine V_lv (ks := [3, 4, 5, 6, 7, 1, 2, 8, 0]) rfl ?_
            exact hL86 x2 x3 x4 x5 x6 (x7 + (0 : Int32)) (((10 : Int32) * x9) + x10) x9 (x10 + 1) σ hF
          · refine V_iconst C dX11_oats_258 (v := (1 : Int32)) (by decide) ?_
            refine V_goto C 263 dX11_oats_259 (by decide) ?_
            refine V_iadd C dX11_oats_263 ?_
            refine V_istore C (lv' := [(7, .int (x7 + (1 : Int32))), (8, .int (((10 : Int32) * x9) + x10)), (2, .int x2), (3, .int x3), (4, .int x4), (5, .int x5), (6, .int x6), (9, .int x9), (10, .int x10), (11, .int x11), (12, .int x12)]) dX11_oats_264 (by decide) rfl ?_
            refine V_iinc C (v := (x10 + 1)) (lv' := [(10, .int (x10 + 1)), (7, .int (x7 + (1 : Int32))), (8, .int (((10 : Int32) * x9) + x10)), (2, .int x2), (3, .int x3), (4, .int x4), (5, .int x5), (6, .int x6), (9, .int x9), (11, .int x11), (12, .int x12)]) 8 dX11_oats_266 rfl rfl (by decide) rfl ?_
            refine V_goto C 86 dX11_oats_269 (by decide) ?_
            refine V_lv (ks := [3, 4, 5, 6, 7, 1, 2, 8, 0]) rfl ?_
            exact hL86 x2 x3 x4 x5 x6 (x7 + (1 : Int32)) (((10 : Int32) * x9) + x10) x9 (x10 + 1) σ hF
    · refine V_iload C 9 dX11_oats_106 rfl ?_
      refine V_if_eq C 160 dX11_oats_108 (by decide) hF (fun hF => ?_) (fun hF => ?_)
      · refine V_iconst C dX11_oats_160 (v := (0 : Int32)) (by decide) ?_
        refine V_istore C (lv' := [(11, .int (0 : Int32)), (2, .int x2), (3, .int x3), (4, .int x4), (5, .int x5), (6, .int x6), (7, .int x7), (8, .int x8), (9, .int x9), (10, .int x10), (12, .int x12)]) dX11_oats_161 (by decide) rfl ?_
        refine V_iload C 0 dX11_oats_163 rfl ?_
        refine V_if_eq C 217 dX11_oats_165 (by decide) hF (fun hF => ?_) (fun hF => ?_)
        · refine V_iconst C dX11_oats_217 (v := (0 : Int32)) (by decide) ?_
          refine V_istore C (lv' := [(11, .int (0 : Int32)), (2, .int x2), (3, .int x3), (4, .int x4), (5, .int x5), (6, .int x6), (7, .int x7), (8, .int x8), (9, .int x9), (10, .int x10), (12, .int x12)]) dX11_oats_218 (by decide) rfl ?_
          refine V_iinc C (v := (x12 + 1)) (lv' := [(12, .int (x12 + 1)), (11, .int (0 : Int32)), (2, .int x2), (3, .int x3), (4, .int x4), (5, .int x5), (6, .int x6), (7, .int x7), (8, .int x8), (9, .int x9), (10, .int x10)]) 10 dX11_oats_220 rfl rfl (by decide) rfl ?_
          refine V_goto C 99 dX11_oats_223 (by decide) ?_
          refine V_lv (ks := [2, 3, 4, 5, 6, 7, 8, 9, 10, 1, 0]) rfl ?_
          exact ih x2 x3 x4 x5 x6 x7 x8 x9 x10 (0 : Int32) (x12 + 1) σ hF
        · refine V_iload C 5 dX11_oats_168 rfl ?_
          refine V_iload C 10 dX11_oats_170 rfl ?_
          refine V_iload C 4 dX11_oats_172 rfl ?_
          refine V_iload C 8 dX11_oats_174 rfl ?_
          refine V_iload_n C 2 dX11_oats_176 rfl ?_
          refine V_iload_n C 1 dX11_oats_177 rfl ?_
          refine V_icmp_ge C 185 dX11_oats_178 (by decide) hF (fun hF => ?_) (fun hF => ?_)
          · refine V_iconst C dX11_oats_185 (v := (0 : Int32)) (by decide) ?_
            refine V_lv (ks := [1, 2, 3, 4, 5, 6, 7, 8, 9, 10]) rfl ?_
            exact w_X11_oats_b186 C hr hlk kL76 kL86 (F_X11_oats_b99 kL76 kL86 n) hL76 hL86 ih x2 x3 x4 x5 x6 x7 x8 x9 x10 x12 (0 : Int32) x9 x5 x12 x6 σ hF
          · refine V_iconst C dX11_oats_181 (v := (1 : Int32)) (by decide) ?_
            refine V_goto C 186 dX11_oats_182 (by decide) ?_
            refine V_lv (ks := [1, 2, 3, 4, 5, 6, 7, 8, 9, 10]) rfl ?_
            exact w_X11_oats_b186 C hr hlk kL76 kL86 (F_X11_oats_b99 kL76 kL86 n) hL76 hL86 ih x2 x3 x4 x5 x6 x7 x8 x9 x10 x12 (1 : Int32) x9 x5 x12 x6 σ hF
      · refine V_iload C 3 dX11_oats_111 rfl ?_
        refine V_iload C 10 dX11_oats_113 rfl ?_
        refine V_iload C 4 dX11_oats_115 rfl ?_
        refine V_iload C 8 dX11_oats_117 rfl ?_
        refine V_iload_n C 0 dX11_oats_119 rfl ?_
        refine V_iload_n C 1 dX11_oats_120 rfl ?_
        refine V_icmp_ge C 128 dX11_oats_121 (by decide) hF (fun hF => ?_) (fun hF => ?_)
        · refine V_iconst C dX11_oats_128 (v := (0 : Int32)) (by decide) ?_
          obtain ⟨q11, hq11, hF⟩ := bnd hF
          refine cs_X11_219 C (ct_X11_gain hq11) rfl ⟨by decide, by decide⟩ (Nat.le_of_ble_eq_true rfl) dX11_oats_129 ⟨Nat.le_refl 0, Nat.le_refl 0⟩ ?_
          refine V_iload C 3 dX11_oats_132 rfl ?_
          refine V_iload C 7 dX11_oats_134 rfl ?_
          refine V_iload C 4 dX11_oats_136 rfl ?_
          refine V_iload C 8 dX11_oats_138 rfl ?_
          refine V_iload_n C 0 dX11_oats_140 rfl ?_
          refine V_iload_n C 1 dX11_oats_141 rfl ?_
          refine V_icmp_ge C 149 dX11_oats_142 (by decide) hF (fun hF => ?_) (fun hF => ?_)
          · refine V_iconst C dX11_oats_149 (v := (0 : Int32)) (by decide) ?_
            refine V_lv (ks := [0, 1, 2, 3, 4, 5, 6, 7, 8, 10]) rfl ?_
            exact w_X11_oats_b150 C hr hlk kL76 kL86 (F_X11_oats_b99 kL76 kL86 n) hL76 hL86 ih x2 x3 x4 x5 x6 x7 x8 x9 x10 x12 (0 : Int32) x10 x6 x9 x5 q11 σ hF
          · refine V_iconst C dX11_oats_145 (v := (1 : Int32)) (by decide) ?_
            refine V_goto C 150 dX11_oats_146 (by decide) ?_
            refine V_lv (ks := [0, 1, 2, 3, 4, 5, 6, 7, 8, 10]) rfl ?_
            exact w_X11_oats_b150 C hr hlk kL76 kL86 (F_X11_oats_b99 kL76 kL86 n) hL76 hL86 ih x2 x3 x4 x5 x6 x7 x8 x9 x10 x12 (1 : Int32) x10 x6 x9 x5 q11 σ hF
        · refine V_iconst C dX11_oats_124 (v := (1 : Int32)) (by decide) ?_
          refine V_goto C 129 dX11_oats_125 (by decide) ?_
          obtain ⟨q13, hq13, hF⟩ := bnd hF
          refine cs_X11_219 C (ct_X11_gain hq13) rfl ⟨by decide, by decide⟩ (Nat.le_of_ble_eq_true rfl) dX11_oats_129 ⟨Nat.le_refl 0, Nat.le_refl 0⟩ ?_
          refine V_iload C 3 dX11_oats_132 rfl ?_
          refine V_iload C 7 dX11_oats_134 rfl ?_
          refine V_iload C 4 dX11_oats_136 rfl ?_
          refine V_iload C 8 dX11_oats_138 rfl ?_
          refine V_iload_n C 0 dX11_oats_140 rfl ?_
          refine V_iload_n C 1 dX11_oats_141 rfl ?_
          refine V_icmp_ge C 149 dX11_oats_142 (by decide) hF (fun hF => ?_) (fun hF => ?_)
          · refine V_iconst C dX11_oats_149 (v := (0 : Int32)) (by decide) ?_
            refine V_lv (ks := [0, 1, 2, 3, 4, 5, 6, 7, 8, 10]) rfl ?_
            exact w_X11_oats_b150 C hr hlk kL76 kL86 (F_X11_oats_b99 kL76 kL86 n) hL76 hL86 ih x2 x3 x4 x5 x6 x7 x8 x9 x10 x12 (0 : Int32) x10 x6 x9 x5 q13 σ hF
          · refine V_iconst C dX11_oats_145 (v := (1 : Int32)) (by decide) ?_
            refine V_goto C 150 dX11_oats_146 (by decide) ?_
            refine V_lv (ks := [0, 1, 2, 3, 4, 5, 6, 7, 8, 10]) rfl ?_
            exact w_X11_oats_b150 C hr hlk kL76 kL86 (F_X11_oats_b99 kL76 kL86 n) hL76 hL86 ih x2 x3 x4 x5 x6 x7 x8 x9 x10 x12 (1 : Int32) x10 x6 x9 x5 q13 σ hF
set_option maxHeartbeats 4000000 in
set_option maxRecDepth 20000 in
theorem w_X11_oats_b86 {p : Program} {l : Launch} {e : Env} {s : State} {m : MethodId} {args : Array Value} {below : List Frame} {meth : Method} {c : Code} {D : va_G} {T : Nat → ClassId} {ad zz : Nat → Nat} (C : Cx p s m c cX11_oats 13 RX11 (fA ad) D T ad zz) (hr : meth.sig.returnType = (some .int)) (hlk : meth.locks = false) {r : (Int32 × Mem)} (kL76 : Int32 → Int32 → Int32 → Int32 → Int32 → Int32 → Int32 → Int32 → Mem → Option (Int32 × Mem)) (hL76 : ∀ (x2 : Int32) (x3 : Int32) (x4 : Int32) (x5 : Int32) (x6 : Int32) (x7 : Int32) (x8 : Int32) (x9 : Int32) (σ : Mem), kL76 x2 x3 x4 x5 x6 x7 x8 x9 σ = some r → V p l e { frames := 2, cells := 0, slots := 0, locals := 47 } s m args below meth c 0 0 (MQ below (qC (some (.int r.1)) r.2 D T ad) args s 0 0 (fA ad)) 13 (fA ad) D T ad σ 76 [(2, .int x2), (3, .int x3), (4, .int x4), (5, .int x5), (6, .int x6), (7, .int x7), (8, .int x8), (9, .int x9)] []) : ∀ (n : Nat), ∀ (x2 : Int32) (x3 : Int32) (x4 : Int32) (x5 : Int32) (x6 : Int32) (x7 : Int32) (x8 : Int32) (x9 : Int32) (x10 : Int32) (σ : Mem), F_X11_oats_b86 kL76 n x2 x3 x4 x5 x6 x7 x8 x9 x10 σ = some r → V p l e { frames := 2, cells := 0, slots := 0, locals := 47 } s m args below meth c 0 0 (MQ below (qC (some (.int r.1)) r.2 D T ad) args s 0 0 (fA ad)) 13 (fA ad) D T ad σ 86 [(2, .int x2), (3, .int x3), (4, .int x4), (5, .int x5), (6, .int x6), (7, .int x7), (8, .int x8), (9, .int x9), (10, .int x10)] [] := by
  intro n
  induction n with
  | zero =>
    intro x2 x3 x4 x5 x6 x7 x8 x9 x10 σ hF
    cases (show (none : Option (Int32 × Mem)) = some r from hF)
  | succ n ih =>
    intro x2 x3 x4 x5 x6 x7 x8 x9 x10 σ hF
    rw [F_X11_oats_b86] at hF
    refine V_iload C 8 dX11_oats_86 rfl ?_
    refine V_bipush C dX11_oats_88 (v := (6 : Int32)) (by decide) ?_
    refine V_icmp_ge C 272 dX11_oats_90 (by decide) hF (fun hF => ?_) (fun hF => ?_)
    · refine V_iinc C (v := (x9 + 1)) (lv' := [(9, .int (x9 + 1)), (2, .int x2), (3, .int x3), (4, .int x4), (5, .int x5), (6, .int x6), (7, .int x7), (8, .int x8), (10, .int x10)]) 7 dX11_oats_272 rfl rfl (by decide) rfl ?_
      refine V_goto C 76 dX11_oats_275 (by decide) ?_
      refine V_lv (ks := [1, 2, 3, 4, 5, 6, 7, 0]) rfl ?_
      exact hL76 x2 x3 x4 x5 x6 x7 x8 (x9 + 1) σ hF
    · refine V_iconst C dX11_oats_93 (v := (1 : Int32)) (by decide) ?_
      refine V_istore C (lv' := [(11, .int (1 : Int32)), (2, .int x2), (3, .int x3), (4, .int x4), (5, .int x5), (6, .int x6), (7, .int x7), (8, .int x8), (9, .int x9), (10, .int x10)]) dX11_oats_94 (by decide) rfl ?_
      refine V_iconst C dX11_oats_96 (v := (0 : Int32)) (by decide) ?_
      refine V_istore C (lv' := [(12, .int (0 : Int32)), (11, .int (1 : Int32)), (2, .int x2), (3, .int x3), (4, .int x4), (5, .int x5), (6, .int x6), (7, .int x7), (8, .int x8), (9, .int x9), (10, .int x10)]) dX11_oats_97 (by decide) rfl ?_
      refine V_lv (ks := [2, 3, 4, 5, 6, 7, 8, 9, 10, 1, 0]) rfl ?_
      exact w_X11_oats_b99 C hr hlk kL76 (F_X11_oats_b86 kL76 n) hL76 ih 4000 x2 x3 x4 x5 x6 x7 x8 x9 x10 (1 : Int32) (0 : Int32) σ hF
set_option maxHeartbeats 4000000 in
set_option maxRecDepth 20000 in
theorem w_X11_oats_b76 {p : Program} {l : Launch} {e : Env} {s : State} {m : MethodId} {args : Array Value} {below : List Frame} {meth : Method} {c : Code} {D : va_G} {T : Nat → ClassId} {ad zz : Nat → Nat} (C : Cx p s m c cX11_oats 13 RX11 (fA ad) D T ad zz) (hr : meth.sig.returnType = (some .int)) (hlk : meth.locks = false) {r : (Int32 × Mem)}  : ∀ (n : Nat), ∀ (x2 : Int32) (x3 : Int32) (x4 : Int32) (x5 : Int32) (x6 : Int32) (x7 : Int32) (x8 : Int32) (x9 : Int32) (σ : Mem), F_X11_oats_b76  n x2 x3 x4 x5 x6 x7 x8 x9 σ = some r → V p l e { frames := 2, cells := 0, slots := 0, locals := 47 } s m args below meth c 0 0 (MQ below (qC (some (.int r.1)) r.2 D T ad) args s 0 0 (fA ad)) 13 (fA ad) D T ad σ 76 [(2, .int x2), (3, .int x3), (4, .int x4), (5, .int x5), (6, .int x6), (7, .int x7), (8, .int x8), (9, .int x9)] [] := by
  intro n
  induction n with
  | zero =>
    intro x2 x3 x4 x5 x6 x7 x8 x9 σ hF
    cases (show (none : Option (Int32 × Mem)) = some r from hF)
  | succ n ih =>
    intro x2 x3 x4 x5 x6 x7 x8 x9 σ hF
    rw [F_X11_oats_b76] at hF
    refine V_iload C 7 dX11_oats_76 rfl ?_
    refine V_bipush C dX11_oats_78 (v := (6 : Int32)) (by decide) ?_
    refine V_icmp_ge C 278 dX11_oats_80 (by decide) hF (fun hF => ?_) (fun hF => ?_)
    · refine V_iload C 2 dX11_oats_278 rfl ?_
      refine V_if_ne C 288 dX11_oats_280 (by decide) hF (fun hF => ?_) (fun hF => ?_)
      · refine V_iload C 6 dX11_oats_288 rfl ?_
        cases hF
        exact V_iret C hr hlk rfl rfl dX11_oats_290
      · refine V_iload C 5 dX11_oats_283 rfl ?_
        refine V_goto C 290 dX11_oats_285 (by decide) ?_
        cases hF
        exact V_iret C hr hlk rfl rfl dX11_oats_290
    · refine V_iconst C dX11_oats_83 (v := (0 : Int32)) (by decide) ?_
      refine V_istore C (lv' := [(10, .int (0 : Int32)), (2, .int x2), (3, .int x3), (4, .int x4), (5, .int x5), (6, .int x6), (7, .int x7), (8, .int x8), (9, .int x9)]) dX11_oats_84 (by decide) rfl ?_
      refine V_lv (ks := [1, 2, 3, 4, 5, 6, 7, 8, 0]) rfl ?_
      exact w_X11_oats_b86 C hr hlk (F_X11_oats_b76 n) ih 4000 x2 x3 x4 x5 x6 x7 x8 x9 (0 : Int32) σ hF
set_option maxHeartbeats 4000000 in
set_option maxRecDepth 20000 in
theorem ct_X11_oats {a1 : Int32} {a2 : Int32} {a3 : Int32} {a4 : Int32} {σ : Mem} {r : (Int32 × Mem)} (hF : F_X11_oats a1 a2 a3 a4 σ = some r) : Ct yX11_oats cX11_oats 13 (some .int) 2 47 (fun ad zz => [.ref (ad 11), .int a1, .int a2, .int a3, .int a4]) σ (fun ad => (some (.int r.1))) r.2 := by
  refine Ct_of (by decide +kernel) (lv := fun ad zz => [(0, .ref (ad 11)), (1, .int a1), (2, .int a2), (3, .int a3), (4, .int a4)]) (fun _ _ => rfl) (fun _ _ => Nat.le_of_ble_eq_true rfl) (fun p l e s m args below meth c D T ad zz C hr hlk => ?_)
  rw [F_X11_oats] at hF
  refine V_aload_n C 0 dX11_oats_0 rfl ?_
  refine V_iconst C dX11_oats_1 (v := (0 : Int32)) (by decide) ?_
  obtain ⟨σ1, hs1, hF⟩ := bnd hF
  refine pf_X11_56 C hs1 dX11_oats_2 ?_
  refine V_aload_n C 0 dX11_oats_5 rfl ?_
  refine V_iload_n C 1 dX11_oats_6 rfl ?_
  obtain ⟨q2, hq2, hF⟩ := bnd hF
  refine cs_X11_149 C (ct_X11_noHorse hq2) rfl ⟨by decide, by decide⟩ (Nat.le_of_ble_eq_true rfl) dX11_oats_7 ⟨Nat.le_refl 0, Nat.le_refl 0⟩ ?_
  refine V_if_ne C 29 dX11_oats_10 (by decide) hF (fun hF => ?_) (fun hF => ?_)
  · refine V_iconst C dX11_oats_29 (v := (-1 : Int32)) (by decide) ?_
    cases hF
    exact V_iret C hr hlk rfl rfl dX11_oats_30
  · refine V_aload_n C 0 dX11_oats_13 rfl ?_
    refine V_iload_n C 2 dX11_oats_14 rfl ?_
    obtain ⟨q3, hq3, hF⟩ := bnd hF
    refine cs_X11_153 C (ct_X11_noRider hq3) rfl ⟨by decide, by decide⟩ (Nat.le_of_ble_eq_true rfl) dX11_oats_15 ⟨Nat.le_refl 0, Nat.le_refl 0⟩ ?_
    refine V_if_ne C 29 dX11_oats_18 (by decide) hF (fun hF => ?_) (fun hF => ?_)
    · refine V_iconst C dX11_oats_29 (v := (-1 : Int32)) (by decide) ?_
      cases hF
      exact V_iret C hr hlk rfl rfl dX11_oats_30
    · refine V_aload_n C 0 dX11_oats_21 rfl ?_
      refine V_iload_n C 3 dX11_oats_22 rfl ?_
      obtain ⟨q4, hq4, hF⟩ := bnd hF
      refine cs_X11_153 C (ct_X11_noRider hq4) rfl ⟨by decide, by decide⟩ (Nat.le_of_ble_eq_true rfl) dX11_oats_23 ⟨Nat.le_refl 0, Nat.le_refl 0⟩ ?_
      refine V_if_eq C 31 dX11_oats_26 (by decide) hF (fun hF => ?_) (fun hF => ?_)
      · refine V_iload_n C 2 dX11_oats_31 rfl ?_
        refine V_iload_n C 3 dX11_oats_32 rfl ?_
        refine V_icmp_eq C 47 dX11_oats_33 (by decide) hF (fun hF => ?_) (fun hF => ?_)
        · refine V_bipush C dX11_oats_47 (v := (-2 : Int32)) (by decide) ?_
          cases hF
          exact V_iret C hr hlk rfl rfl dX11_oats_49
        · refine V_iload C 4 dX11_oats_36 rfl ?_
          refine V_i2l C dX11_oats_38 ?_
          refine V_lconst C dX11_oats_39 (v := (0 : Int64)) (by decide) ?_
          refine V_lconst C dX11_oats_40 (v := (1 : Int64)) (by decide) ?_
          obtain ⟨q5, hq5, hF⟩ := bnd hF
          refine cs_X11_63 C (ct_X11_in hq5) rfl ⟨by decide, by decide⟩ (Nat.le_of_ble_eq_true rfl) dX11_oats_41 ⟨Nat.le_refl 0, Nat.le_refl 0⟩ ?_
          refine V_if_ne C 50 dX11_oats_44 (by decide) hF (fun hF => ?_) (fun hF => ?_)
          · refine V_aload_n C 0 dX11_oats_50 rfl ?_
            refine V_iload_n C 1 dX11_oats_51 rfl ?_
            refine V_iload_n C 2 dX11_oats_52 rfl ?_
            obtain ⟨q6, hq6, hF⟩ := bnd hF
            refine cs_X11_106 C (ct_X11_worthOf hq6) rfl ⟨by decide, by decide⟩ (Nat.le_of_ble_eq_true rfl) dX11_oats_53 ⟨Nat.le_refl 0, Nat.le_refl 0⟩ ?_
            refine V_istore C (lv' := [(5, .int q6), (0, .ref (ad 11)), (1, .int a1), (2, .int a2), (3, .int a3), (4, .int a4)]) dX11_oats_56 (by decide) rfl ?_
            refine V_aload_n C 1 dX11_oats_58 rfl ?_
            refine V_iload_n C 2 dX11_oats_59 rfl ?_
            refine V_iload_n C 4 dX11_oats_60 rfl ?_
            obtain ⟨q7, hq7, hF⟩ := bnd hF
            refine cs_X11_106 C (ct_X11_worthOf hq7) rfl ⟨by decide, by decide⟩ (Nat.le_of_ble_eq_true rfl) dX11_oats_61 ⟨Nat.le_refl 0, Nat.le_refl 0⟩ ?_
            refine V_istore C (lv' := [(6, .int q7), (5, .int q6), (0, .ref (ad 11)), (1, .int a1), (2, .int a2), (3, .int a3), (4, .int a4)]) dX11_oats_64 (by decide) rfl ?_
            refine V_iconst C dX11_oats_66 (v := (0 : Int32)) (by decide) ?_
            refine V_istore C (lv' := [(7, .int (0 : Int32)), (6, .int q7), (5, .int q6), (0, .ref (ad 11)), (1, .int a1), (2, .int a2), (3, .int a3), (4, .int a4)]) dX11_oats_67 (by decide) rfl ?_
            refine V_bipush C dX11_oats_69 (v := (-9 : Int32)) (by decide) ?_
            refine V_istore C (lv' := [(8, .int (-9 : Int32)), (7, .int (0 : Int32)), (6, .int q7), (5, .int q6), (0, .ref (ad 11)), (1, .int a1), (2, .int a2), (3, .int a3), (4, .int a4)]) dX11_oats_71 (by decide) rfl ?_
            refine V_iconst C dX11_oats_73 (v := (0 : Int32)) (by decide) ?_
            refine V_istore C (lv' := [(9, .int (0 : Int32)), (8, .int (-9 : Int32)), (7, .int (0 : Int32)), (6, .int q7), (5, .int q6), (0, .ref (ad 11)), (1, .int a1), (2, .int a2), (3, .int a3), (4, .int a4)]) dX11_oats_74 (by decide) rfl ?_
            refine V_lv (ks := [7, 8, 9, 4, 3, 2, 1, 0]) rfl ?_
            exact w_X11_oats_b76 C hr hlk 4000 a2 a3 a4 q6 q7 (0 : Int32) (-9 : Int32) (0 : Int32) σ1 hF
          · refine V_bipush C dX11_oats_47 (v := (-2 : Int32)) (by decide) ?_
            cases hF
            exact V_iret C hr hlk rfl rfl dX11_oats_49
      · refine V_iconst C dX11_oats_29 (v := (-1 : Int32)) (by decide) ?_
        cases hF
        exact V_iret C hr hlk rfl rfl dX11_oats_30
