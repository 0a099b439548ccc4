def wF5 : Nat → Int32 := fun j => if j < 5 then -9 else 0
def wZ : Nat → Int32 := fun _ => 0
def wWay (T : Nat → ClassId) (a b : Nat) : va_W := [(a, .inr (7, [.ref b])), (b, .inl (T 0, 5, .inl wF5))]
def wSt (T : Nat → ClassId) (a b c d : Nat) : va_W := [(a, .inr (5, [.ref b, .ref d, .int 0, .int 0])), (b, .inr (7, [.ref c])), (c, .inl (T 0, 5, .inl wF5)), (d, .inl (T 0, 15, .inl wZ))]
def flatS (T : Nat → ClassId) (g : Nat → Nat × Nat × Nat × Nat) : Nat → va_W
  | 0 => []
  | n + 1 => flatS T g n ++ wSt T (g n).1 (g n).2.1 (g n).2.2.1 (g n).2.2.2
def refsS (g : Nat → Nat × Nat × Nat × Nat) (i : Nat) : Nat → Option Nat := fun j => if j < i then some (g j).1 else none
theorem flatS_up (T : Nat → ClassId) (g : Nat → Nat × Nat × Nat × Nat) (i : Nat) (x : Nat × Nat × Nat × Nat) : ∀ n, n ≤ i → flatS T (va_up g i x) n = flatS T g n
  | 0, _ => rfl
  | n + 1, h => by
    have e : va_up g i x n = g n := va_up_ne g x (by omega)
    rw [flatS, flatS, flatS_up T g i x n (by omega), e]
theorem flatS_new (T : Nat → ClassId) (g : Nat → Nat × Nat × Nat × Nat) (i q b c d : Nat) : flatS T g i ++ wSt T q b c d = flatS T (va_up g i (q, b, c, d)) (i + 1) := by
  rw [flatS, flatS_up T g i _ i (Nat.le_refl _), va_up_self]
theorem refsS_up (g : Nat → Nat × Nat × Nat × Nat) (i q b c d : Nat) : va_up (refsS g i) i (some q) = refsS (va_up g i (q, b, c, d)) (i + 1) := by
  funext j
  by_cases h : j = i
  · subst h
    simp [va_up, refsS]
  · rw [va_up_ne _ _ h]
    unfold refsS
    rw [va_up_ne _ _ h]
    by_cases h2 : j < i
    · rw [if_pos h2, if_pos (by omega)]
    · rw [if_neg h2, if_neg (by omega)]
theorem refsS_0 (g : Nat → Nat × Nat × Nat × Nat) : (fun _ => none : Nat → Option Nat) = refsS g 0 := by
  funext j
  simp [refsS]
theorem get_mid {x y z : Nat × va_E} {A B : va_W} : (x :: y :: (A ++ (z :: B)))[A.length + 2]? = some z := by
  simp
theorem wF5_end : (fun j => if j < 5 then (-9 : Int32) else (fun _ => 0 : Nat → Int32) j) = wF5 := rfl
theorem pg_0 : (fun _ => 0 : Nat → Int32) = (fun j => if j < 0 then (-9 : Int32) else 0) := by
  funext j
  simp
theorem pg_up (i : Nat) (v : Int32) (f : Nat → Int32) : upd (fun j => if j < i then v else f j) i v = (fun j => if j < i + 1 then v else f j) := by
  funext j
  unfold upd
  by_cases h : j = i
  · subst h
    simp
  · rw [if_neg h]
    show (if j < i then v else f j) = _
    by_cases h2 : j < i
    · rw [if_pos h2, if_pos (by omega)]
    · rw [if_neg h2, if_neg (by omega)]
theorem cal_X0_init : Cal yX0_init cX0_init 2 none 0 := ⟨(TB_in 211 (by decide +kernel) (by decide +kernel)), (TB_in 74 (by decide +kernel) (by decide +kernel)), ⟨by decide +kernel, by decide +kernel⟩, by decide +kernel⟩
theorem cal_X1_init : Cal yX1_init cX1_init 1 none 0 := ⟨(TB_in 321 (by decide +kernel) (by decide +kernel)), (TB_in 79 (by decide +kernel) (by decide +kernel)), ⟨by decide +kernel, by decide +kernel⟩, by decide +kernel⟩
theorem cal_X2_init : Cal yX2_init cX2_init 1 none 0 := ⟨(TB_in 231 (by decide +kernel) (by decide +kernel)), (TB_in 75 (by decide +kernel) (by decide +kernel)), ⟨by decide +kernel, by decide +kernel⟩, by decide +kernel⟩
theorem cal_X3_init : Cal yX3_init cX3_init 1 none 0 := ⟨(TB_in 113 (by decide +kernel) (by decide +kernel)), (TB_in 70 (by decide +kernel) (by decide +kernel)), ⟨by decide +kernel, by decide +kernel⟩, by decide +kernel⟩
theorem cal_X4_init : Cal yX4_init cX4_init 3 none 2 := ⟨(TB_in 262 (by decide +kernel) (by decide +kernel)), (TB_in 77 (by decide +kernel) (by decide +kernel)), ⟨by decide +kernel, by decide +kernel⟩, by decide +kernel⟩
theorem cal_X5_init : Cal yX5_init cX5_init 1 none 0 := ⟨(TB_in 175 (by decide +kernel) (by decide +kernel)), (TB_in 71 (by decide +kernel) (by decide +kernel)), ⟨by decide +kernel, by decide +kernel⟩, by decide +kernel⟩
theorem cal_X6_init : Cal yX6_init cX6_init 1 none 0 := ⟨(TB_in 97 (by decide +kernel) (by decide +kernel)), (TB_in 69 (by decide +kernel) (by decide +kernel)), ⟨by decide +kernel, by decide +kernel⟩, by decide +kernel⟩
theorem cal_X7_init : Cal yX7_init cX7_init 1 none 0 := ⟨(TB_in 181 (by decide +kernel) (by decide +kernel)), (TB_in 72 (by decide +kernel) (by decide +kernel)), ⟨by decide +kernel, by decide +kernel⟩, by decide +kernel⟩
theorem cal_X8_init : Cal yX8_init cX8_init 3 none 2 := ⟨(TB_in 287 (by decide +kernel) (by decide +kernel)), (TB_in 78 (by decide +kernel) (by decide +kernel)), ⟨by decide +kernel, by decide +kernel⟩, by decide +kernel⟩
theorem cal_X9_init : Cal yX9_init cX9_init 2 none 1 := ⟨(TB_in 248 (by decide +kernel) (by decide +kernel)), (TB_in 76 (by decide +kernel) (by decide +kernel)), ⟨by decide +kernel, by decide +kernel⟩, by decide +kernel⟩
theorem cal_X10_init : Cal yX10_init cX10_init 2 none 0 := ⟨(TB_in 89 (by decide +kernel) (by decide +kernel)), (TB_in 68 (by decide +kernel) (by decide +kernel)), ⟨by decide +kernel, by decide +kernel⟩, by decide +kernel⟩
theorem cal_X11_init : Cal yX11_init cX11_init 2 none 0 := ⟨(TB_in 896 (by decide +kernel) (by decide +kernel)), (TB_in 80 (by decide +kernel) (by decide +kernel)), ⟨by decide +kernel, by decide +kernel⟩, by decide +kernel⟩
set_option maxHeartbeats 4000000 in
set_option maxRecDepth 20000 in
theorem ctN_fill (D : va_G) (T : Nat → ClassId) (a n : Nat) (f : Nat → Int32) (v : Int32) (hn : n < 2147483648) : CtN yJ7_fill_53178 cJ7_fill_53178 4 0 0 0 0 [.ref a, .int v] [(a, .inl (T 0, n, .inl f))] (fun w1 => w1 = [(a, .inl (T 0, n, .inl (fun j => if j < n then v else f j)))]) D T := by
  refine CtN_of (by decide +kernel) (lv := [(0, .ref a), (1, .int v)]) rfl (Nat.le_of_ble_eq_true rfl) (fun p l e s m args below meth c A hA C hr hlk hnm => ?_)
  refine U_iconst C dJ7_fill_53178_0 (v := (0 : Int32)) (by decide) ?_
  refine U_istore_n C (lv' := [(2, .int (0 : Int32)), (0, .ref a), (1, .int v)]) dJ7_fill_53178_1 rfl (by decide) rfl ?_
  refine U_aload_n C 1 dJ7_fill_53178_2 rfl ?_
  refine U_alen C (q0 := 0) (t0 := 0) rfl rfl (v := nI n) rfl dJ7_fill_53178_3 ?_
  refine U_istore_n C (lv' := [(3, .int (nI n)), (2, .int (0 : Int32)), (0, .ref a), (1, .int v)]) dJ7_fill_53178_4 rfl (by decide) rfl ?_
  have key : ∀ (k i : Nat), i + k = n → Uj p l e { frames := 0, cells := 0, slots := 0, locals := 0 } s m args below meth c (MQ below (qN (fun w1 => w1 = [(a, .inl (T 0, n, .inl (fun j => if j < n then v else f j)))]) [(a, .inl (T 0, n, .inl f))] D T s.heap.size) args s 0 0 A) 4 A D 0 0 [(a, .inl (T 0, n, .inl (fun j => if j < i then v else f j)))] 5 [(0, .ref a), (1, .int v), (2, .int (nI i)), (3, .int (nI n))] [] := by
    intro k
    induction k with
    | zero =>
      intro i hi
      have e : i = n := by omega
      subst e
      refine U_iload_n C 2 dJ7_fill_53178_5 rfl ?_
      refine U_iload_n C 3 dJ7_fill_53178_6 rfl ?_
      refine U_icmp_ge C 20 dJ7_fill_53178_7 (by decide) (fun h => ?_) (fun h => absurd (nI_le (Nat.le_refl i) hn) h)
      exact U_vret C hA hr hlk rfl dJ7_fill_53178_20
    | succ k ih =>
      intro i hi
      refine U_iload_n C 2 dJ7_fill_53178_5 rfl ?_
      refine U_iload_n C 3 dJ7_fill_53178_6 rfl ?_
      refine U_icmp_ge C 20 dJ7_fill_53178_7 (by decide) (fun h => absurd h (nI_ge (by omega) hn)) (fun h => ?_)
      refine U_aload_n C 0 dJ7_fill_53178_10 rfl ?_
      refine U_iload_n C 2 dJ7_fill_53178_11 rfl ?_
      refine U_iload_n C 1 dJ7_fill_53178_12 rfl ?_
      refine U_iast C (q0 := 0) rfl (vp_in_nI (by omega) hn) dJ7_fill_53178_13 ?_
      refine U_iinc C (v := nI (i + 1)) (lv' := [(2, .int (nI (i + 1))), (0, .ref a), (1, .int v), (3, .int (nI n))]) 2 dJ7_fill_53178_14 rfl (nI_1 i) (by decide) rfl ?_
      refine U_goto C 5 dJ7_fill_53178_17 (by decide) ?_
      refine U_lv (ks := [1, 2, 0, 3]) rfl ?_
      refine U_ws (ws' := [(a, .inl (T 0, n, .inl (fun j => if j < i + 1 then v else f j)))]) ?_ (ih (i + 1) (by omega))
      rw [nI_clamp (by omega)]
      show [(a, Sum.inl (T 0, n, Sum.inl (upd (fun j => if j < i then v else f j) i v)))] = _
      rw [pg_up]
  refine U_lv (ks := [2, 3, 1, 0]) rfl ?_
  refine U_ws (ws' := [(a, .inl (T 0, n, .inl (fun j => if j < 0 then v else f j)))]) ?_ (key n 0 (by omega))
  have e : f = (fun j => if j < 0 then v else f j) := by
    funext j
    simp
  rw [← e]
set_option maxHeartbeats 4000000 in
set_option maxRecDepth 20000 in
theorem ctN_X7 (D : va_G) (T : Nat → ClassId) (h0 : Nat) : CtN yX7_init cX7_init 1 1 40 1 5 [.ref h0] [(h0, .inr (7, [.null]))] (fun w1 => ∃ (b : Nat), w1 = wWay T h0 b) D T := by
  refine CtN_of (by decide +kernel) (lv := [(0, .ref h0)]) rfl (Nat.le_of_ble_eq_true rfl) (fun p l e s m args below meth c A hA C hr hlk hnm => ?_)
  have hm := hnm rfl
  refine U_aload_n C 0 dX7_init_0 rfl ?_
  refine U_obj C (TB_in 182 (by decide +kernel) (by decide +kernel)) (TB_in 91 (by decide +kernel) (by decide +kernel)) (TB_in 92 (by decide +kernel) (by decide +kernel)) ⟨by decide, Nat.le_of_ble_eq_true rfl⟩ dX7_init_1 ?_
  refine U_ws (ws' := ((h0, .inr (7, [.null])) :: ([]) : va_W)) rfl ?_
  refine U_aload_n C 0 dX7_init_4 rfl ?_
  refine U_iconst C dX7_init_5 (v := (5 : Int32)) (by decide) ?_
  refine U_newI C (N := 5) (by decide) (by decide) (Nat.le_of_ble_eq_true rfl) (Nat.le_of_ble_eq_true rfl) (Nat.le_of_ble_eq_true rfl) dX7_init_6 (fun q1 => ?_)
  refine U_ws (ws' := ((h0, .inr (7, [.null])) :: ([(q1, .inl (T 0, 5, .inl wZ))]) : va_W)) rfl ?_
  refine U_putF C (Cn := RX7) (ref := RX7) (Tt := TX7) (N := 1) (ci := 7) (kf := 0) rfl inX7 tyX7 tyX7_ok nmX7 (by decide) (TB_in 186 (by decide +kernel) (by decide +kernel)) rfl rfl hm rfl (tyX7_ok 0 (by decide)) rfl rfl (Nat.le_of_ble_eq_true rfl) dX7_init_8 ?_
  refine U_ws (ws' := ((h0, .inr (7, [.ref q1])) :: ([(q1, .inl (T 0, 5, .inl wZ))]) : va_W)) rfl ?_
  refine U_aload_n C 0 dX7_init_11 rfl ?_
  refine U_get C (Cn := RX7) (ref := RX7) (Tt := TX7) (N := 1) (ci := 7) (kf := 0) (v := .ref q1) rfl inX7 (by decide) (TB_in 186 (by decide +kernel) (by decide +kernel)) rfl rfl dX7_init_12 ?_
  refine U_bipush C dX7_init_15 (v := (-9 : Int32)) (by decide) ?_
  refine U_ws (ws' := [(h0, .inr (7, [.ref q1]))] ++ [(q1, .inl (T 0, 5, .inl wZ))]) rfl ?_
  refine U_callS C (rest := []) [.ref q1, .int (-9 : Int32)] (ctN_fill D T q1 5 wZ (-9) (by decide)) cal_J7_fill_53178 (TB_in 183 (by decide +kernel) (by decide +kernel)) (TB_in 184 (by decide +kernel) (by decide +kernel)) ⟨by decide, by decide⟩ rfl (Nat.le_of_ble_eq_true rfl) dX7_init_17 ⟨Nat.le_of_ble_eq_true rfl, Nat.le_of_ble_eq_true rfl⟩ (fun w2 hB3 => ?_)
  subst hB3
  refine U_ws (ws' := ((h0, .inr (7, [.ref q1])) :: ([(q1, .inl (T 0, 5, .inl wF5))]) : va_W)) rfl ?_
  exact U_vret C hA hr hlk ⟨q1, rfl⟩ dX7_init_20
set_option maxHeartbeats 4000000 in
set_option maxRecDepth 20000 in
theorem ctN_X5 (D : va_G) (T : Nat → ClassId) (h0 : Nat) : CtN yX5_init cX5_init 1 2 70 3 21 [.ref h0] [(h0, .inr (5, [.null, .null, .int 0, .int 0]))] (fun w1 => ∃ (b : Nat) (c : Nat) (d : Nat), w1 = wSt T h0 b c d) D T := by
  refine CtN_of (by decide +kernel) (lv := [(0, .ref h0)]) rfl (Nat.le_of_ble_eq_true rfl) (fun p l e s m args below meth c A hA C hr hlk hnm => ?_)
  have hm := hnm rfl
  refine U_aload_n C 0 dX5_init_0 rfl ?_
  refine U_obj C (TB_in 176 (by decide +kernel) (by decide +kernel)) (TB_in 91 (by decide +kernel) (by decide +kernel)) (TB_in 92 (by decide +kernel) (by decide +kernel)) ⟨by decide, Nat.le_of_ble_eq_true rfl⟩ dX5_init_1 ?_
  refine U_ws (ws' := ((h0, .inr (5, [.null, .null, .int 0, .int 0])) :: ([]) : va_W)) rfl ?_
  refine U_aload_n C 0 dX5_init_4 rfl ?_
  refine U_new C (ci := 7) (Cn := RX7) (Tt := TX7) (N := 1) (fs := [.null]) rfl inX7 tyX7 tyX7_ok (TB_in 177 (by decide +kernel) (by decide +kernel)) (TB_in 178 (by decide +kernel) (by decide +kernel)) (TB_in 72 (by decide +kernel) (by decide +kernel)) (fun j hj => by rcases (show j = 0 by omega) with rfl <;> rfl) (Nat.le_of_ble_eq_true rfl) (Nat.le_of_ble_eq_true rfl) dX5_init_5 (fun q1 => ?_)
  refine U_dup C dX5_init_8 rfl ?_
  refine U_ws (ws' := ((h0, .inr (5, [.null, .null, .int 0, .int 0])) :: ([])) ++ [(q1, .inr (7, [.null]))]) rfl ?_
  refine U_callI C (rest := [.ref q1, .ref h0]) [] (ctN_X7 D T q1) cal_X7_init (TB_in 179 (by decide +kernel) (by decide +kernel)) (TB_in 180 (by decide +kernel) (by decide +kernel)) rfl ⟨by decide, by decide⟩ rfl (Nat.le_of_ble_eq_true rfl) dX5_init_9 ⟨Nat.le_of_ble_eq_true rfl, Nat.le_of_ble_eq_true rfl⟩ (fun w2 hB3 => ?_)
  obtain ⟨b4, rfl⟩ := hB3
  refine U_ws (ws' := ((h0, .inr (5, [.null, .null, .int 0, .int 0])) :: ((wWay T q1 b4)) : va_W)) rfl ?_
  refine U_putF C (Cn := RX5) (ref := RX5) (Tt := TX5) (N := 4) (ci := 5) (kf := 0) rfl inX5 tyX5 tyX5_ok nmX5 (by decide) (TB_in 190 (by decide +kernel) (by decide +kernel)) rfl rfl hm rfl (tyX5_ok 0 (by decide)) rfl rfl (Nat.le_of_ble_eq_true rfl) dX5_init_12 ?_
  refine U_ws (ws' := ((h0, .inr (5, [.ref q1, .null, .int 0, .int 0])) :: ((wWay T q1 b4)) : va_W)) rfl ?_
  refine U_aload_n C 0 dX5_init_15 rfl ?_
  refine U_bipush C dX5_init_16 (v := (15 : Int32)) (by decide) ?_
  refine U_newI C (N := 15) (by decide) (by decide) (Nat.le_of_ble_eq_true rfl) (Nat.le_of_ble_eq_true rfl) (Nat.le_of_ble_eq_true rfl) dX5_init_18 (fun q5 => ?_)
  refine U_ws (ws' := ((h0, .inr (5, [.ref q1, .null, .int 0, .int 0])) :: ((wWay T q1 b4) ++ [(q5, .inl (T 0, 15, .inl wZ))]) : va_W)) rfl ?_
  refine U_putF C (Cn := RX5) (ref := RX5) (Tt := TX5) (N := 4) (ci := 5) (kf := 1) rfl inX5 tyX5 tyX5_ok nmX5 (by decide) (TB_in 192 (by decide +kernel) (by decide +kernel)) rfl rfl hm rfl (tyX5_ok 1 (by decide)) rfl rfl (Nat.le_of_ble_eq_true rfl) dX5_init_20 ?_
  refine U_ws (ws' := ((h0, .inr (5, [.ref q1, .ref q5, .int 0, .int 0])) :: ((wWay T q1 b4) ++ [(q5, .inl (T 0, 15, .inl wZ))]) : va_W)) rfl ?_
  exact U_vret C hA hr hlk ⟨q1, b4, q5, rfl⟩ dX5_init_23
set_option maxHeartbeats 4000000 in
set_option maxRecDepth 20000 in
theorem ctN_X6 (D : va_G) (T : Nat → ClassId) (h0 : Nat) : CtN yX6_init cX6_init 1 1 30 1 64 [.ref h0] [(h0, .inr (6, [.null, .int 0]))] (fun w1 => ∃ (b : Nat), w1 = [(h0, .inr (6, [.ref b, .int 0])), (b, .inl (T 0, 64, .inl wZ))]) D T := by
  refine CtN_of (by decide +kernel) (lv := [(0, .ref h0)]) rfl (Nat.le_of_ble_eq_true rfl) (fun p l e s m args below meth c A hA C hr hlk hnm => ?_)
  have hm := hnm rfl
  refine U_aload_n C 0 dX6_init_0 rfl ?_
  refine U_obj C (TB_in 98 (by decide +kernel) (by decide +kernel)) (TB_in 91 (by decide +kernel) (by decide +kernel)) (TB_in 92 (by decide +kernel) (by decide +kernel)) ⟨by decide, Nat.le_of_ble_eq_true rfl⟩ dX6_init_1 ?_
  refine U_ws (ws' := ((h0, .inr (6, [.null, .int 0])) :: ([]) : va_W)) rfl ?_
  refine U_aload_n C 0 dX6_init_4 rfl ?_
  refine U_bipush C dX6_init_5 (v := (64 : Int32)) (by decide) ?_
  refine U_newI C (N := 64) (by decide) (by decide) (Nat.le_of_ble_eq_true rfl) (Nat.le_of_ble_eq_true rfl) (Nat.le_of_ble_eq_true rfl) dX6_init_7 (fun q1 => ?_)
  refine U_ws (ws' := ((h0, .inr (6, [.null, .int 0])) :: ([(q1, .inl (T 0, 64, .inl wZ))]) : va_W)) rfl ?_
  refine U_putF C (Cn := RX6) (ref := RX6) (Tt := TX6) (N := 2) (ci := 6) (kf := 0) rfl inX6 tyX6 tyX6_ok nmX6 (by decide) (TB_in 99 (by decide +kernel) (by decide +kernel)) rfl rfl hm rfl (tyX6_ok 0 (by decide)) rfl rfl (Nat.le_of_ble_eq_true rfl) dX6_init_9 ?_
  refine U_ws (ws' := ((h0, .inr (6, [.ref q1, .int 0])) :: ([(q1, .inl (T 0, 64, .inl wZ))]) : va_W)) rfl ?_
  exact U_vret C hA hr hlk ⟨q1, rfl⟩ dX6_init_12
set_option maxHeartbeats 4000000 in
set_option maxRecDepth 20000 in
theorem ctN_X3 (D : va_G) (T : Nat → ClassId) (h0 : Nat) : CtN yX3_init cX3_init 1 1 30 9 88 [.ref h0] [(h0, .inr (3, [.int 0, .int 0, .null, .null, .null, .null, .null, .null, .null, .null, .null]))] (fun w1 => ∃ (b1 : Nat) (b2 : Nat) (b3 : Nat) (b4 : Nat) (b5 : Nat) (b6 : Nat) (b7 : Nat) (b8 : Nat) (b9 : Nat), w1 = [(h0, .inr (3, [.int 0, .int 0, .ref b1, .ref b2, .ref b3, .ref b4, .ref b5, .ref b6, .ref b7, .ref b8, .ref b9])), (b1, .inl (T 0, 4, .inl wZ)), (b2, .inl (T 0, 12, .inl wZ)), (b3, .inl (T 0, 4, .inl wZ)), (b4, .inl (T 0, 4, .inl wZ)), (b5, .inl (T 0, 4, .inl wZ)), (b6, .inl (T 0, 15, .inl wZ)), (b7, .inl (T 0, 5, .inl wZ)), (b8, .inl (T 0, 20, .inl wZ)), (b9, .inl (T 0, 20, .inl wZ))]) D T := by
  refine CtN_of (by decide +kernel) (lv := [(0, .ref h0)]) rfl (Nat.le_of_ble_eq_true rfl) (fun p l e s m args below meth c A hA C hr hlk hnm => ?_)
  have hm := hnm rfl
  refine U_aload_n C 0 dX3_init_0 rfl ?_
  refine U_obj C (TB_in 114 (by decide +kernel) (by decide +kernel)) (TB_in 91 (by decide +kernel) (by decide +kernel)) (TB_in 92 (by decide +kernel) (by decide +kernel)) ⟨by decide, Nat.le_of_ble_eq_true rfl⟩ dX3_init_1 ?_
  refine U_ws (ws' := ((h0, .inr (3, [.int 0, .int 0, .null, .null, .null, .null, .null, .null, .null, .null, .null])) :: ([]) : va_W)) rfl ?_
  refine U_aload_n C 0 dX3_init_4 rfl ?_
  refine U_iconst C dX3_init_5 (v := (4 : Int32)) (by decide) ?_
  refine U_newI C (N := 4) (by decide) (by decide) (Nat.le_of_ble_eq_true rfl) (Nat.le_of_ble_eq_true rfl) (Nat.le_of_ble_eq_true rfl) dX3_init_6 (fun q1 => ?_)
  refine U_ws (ws' := ((h0, .inr (3, [.int 0, .int 0, .null, .null, .null, .null, .null, .null, .null, .null, .null])) :: ([(q1, .inl (T 0, 4, .inl wZ))]) : va_W)) rfl ?_
  refine U_putF C (Cn := RX3) (ref := RX3) (Tt := TX3) (N := 11) (ci := 3) (kf := 2) rfl inX3 tyX3 tyX3_ok nmX3 (by decide) (TB_in 125 (by decide +kernel) (by decide +kernel)) rfl rfl hm rfl (tyX3_ok 2 (by decide)) rfl rfl (Nat.le_of_ble_eq_true rfl) dX3_init_8 ?_
  refine U_ws (ws' := ((h0, .inr (3, [.int 0, .int 0, .ref q1, .null, .null, .null, .null, .null, .null, .null, .null])) :: ([(q1, .inl (T 0, 4, .inl wZ))]) : va_W)) rfl ?_
  refine U_aload_n C 0 dX3_init_11 rfl ?_
  refine U_bipush C dX3_init_12 (v := (12 : Int32)) (by decide) ?_
  refine U_newI C (N := 12) (by decide) (by decide) (Nat.le_of_ble_eq_true rfl) (Nat.le_of_ble_eq_true rfl) (Nat.le_of_ble_eq_true rfl) dX3_init_14 (fun q2 => ?_)
  refine U_ws (ws' := ((h0, .inr (3, [.int 0, .int 0, .ref q1, .null, .null, .null, .null, .null, .null, .null, .null])) :: ([(q1, .inl (T 0, 4, .inl wZ))] ++ [(q2, .inl (T 0, 12, .inl wZ))]) : va_W)) rfl ?_
  refine U_putF C (Cn := RX3) (ref := RX3) (Tt := TX3) (N := 11) (ci := 3) (kf := 3) rfl inX3 tyX3 tyX3_ok nmX3 (by decide) (TB_in 130 (by decide +kernel) (by decide +kernel)) rfl rfl hm rfl (tyX3_ok 3 (by decide)) rfl rfl (Nat.le_of_ble_eq_true rfl) dX3_init_16 ?_
  refine U_ws (ws' := ((h0, .inr (3, [.int 0, .int 0, .ref q1, .ref q2, .null, .null, .null, .null, .null, .null, .null])) :: ([(q1, .inl (T 0, 4, .inl wZ))] ++ [(q2, .inl (T 0, 12, .inl wZ))]) : va_W)) rfl ?_
  refine U_aload_n C 0 dX3_init_19 rfl ?_
  refine U_iconst C dX3_init_20 (v := (4 : Int32)) (by decide) ?_
  refine U_newI C (N := 4) (by decide) (by decide) (Nat.le_of_ble_eq_true rfl) (Nat.le_of_ble_eq_true rfl) (Nat.le_of_ble_eq_true rfl) dX3_init_21 (fun q3 => ?_)
  refine U_ws (ws' := ((h0, .inr (3, [.int 0, .int 0, .ref q1, .ref q2, .null, .null, .null, .null, .null, .null, .null])) :: ([(q1, .inl (T 0, 4, .inl wZ))] ++ [(q2, .inl (T 0, 12, .inl wZ))] ++ [(q3, .inl (T 0, 4, .inl wZ))]) : va_W)) rfl ?_
  refine U_putF C (Cn := RX3) (ref := RX3) (Tt := TX3) (N := 11) (ci := 3) (kf := 4) rfl inX3 tyX3 tyX3_ok nmX3 (by decide) (TB_in 133 (by decide +kernel) (by decide +kernel)) rfl rfl hm rfl (tyX3_ok 4 (by decide)) rfl rfl (Nat.le_of_ble_eq_true rfl) dX3_init_23 ?_
  refine U_ws (ws' := ((h0, .inr (3, [.int 0, .int 0, .ref q1, .ref q2, .ref q3, .null, .null, .null, .null, .null, .null])) :: ([(q1, .inl (T 0, 4, .inl wZ))] ++ [(q2, .inl (T 0, 12, .inl wZ))] ++ [(q3, .inl (T 0, 4, .inl wZ))]) : va_W)) rfl ?_
  refine U_aload_n C 0 dX3_init_26 rfl ?_
  refine U_iconst C dX3_init_27 (v := (4 : Int32)) (by decide) ?_
  refine U_newI C (N := 4) (by decide) (by decide) (Nat.le_of_ble_eq_true rfl) (Nat.le_of_ble_eq_true rfl) (Nat.le_of_ble_eq_true rfl) dX3_init_28 (fun q4 => ?_)
  refine U_ws (ws' := ((h0, .inr (3, [.int 0, .int 0, .ref q1, .ref q2, .ref q3, .null, .null, .null, .null, .null, .null])) :: ([(q1, .inl (T 0, 4, .inl wZ))] ++ [(q2, .inl (T 0, 12, .inl wZ))] ++ [(q3, .inl (T 0, 4, .inl wZ))] ++ [(q4, .inl (T 0, 4, .inl wZ))]) : va_W)) rfl ?_
  refine U_putF C (Cn := RX3) (ref := RX3) (Tt := TX3) (N := 11) (ci := 3) (kf := 5) rfl inX3 tyX3 tyX3_ok nmX3 (by decide) (TB_in 136 (by decide +kernel) (by decide +kernel)) rfl rfl hm rfl (tyX3_ok 5 (by decide)) rfl rfl (Nat.le_of_ble_eq_true rfl) dX3_init_30 ?_
  refine U_ws (ws' := ((h0, .inr (3, [.int 0, .int 0, .ref q1, .ref q2, .ref q3, .ref q4, .null, .null, .null, .null, .null])) :: ([(q1, .inl (T 0, 4, .inl wZ))] ++ [(q2, .inl (T 0, 12, .inl wZ))] ++ [(q3, .inl (T 0, 4, .inl wZ))] ++ [(q4, .inl (T 0, 4, .inl wZ))]) : va_W)) rfl ?_
  refine U_aload_n C 0 dX3_init_33 rfl ?_
  refine U_iconst C dX3_init_34 (v := (4 : Int32)) (by decide) ?_
  refine U_newI C (N := 4) (by decide) (by decide) (Nat.le_of_ble_eq_true rfl) (Nat.le_of_ble_eq_true rfl) (Nat.le_of_ble_eq_true rfl) dX3_init_35 (fun q5 => ?_)
  refine U_ws (ws' := ((h0, .inr (3, [.int 0, .int 0, .ref q1, .ref q2, .ref q3, .ref q4, .null, .null, .null, .null, .null])) :: ([(q1, .inl (T 0, 4, .inl wZ))] ++ [(q2, .inl (T 0, 12, .inl wZ))] ++ [(q3, .inl (T 0, 4, .inl wZ))] ++ [(q4, .inl (T 0, 4, .inl wZ))] ++ [(q5, .inl (T 0, 4, .inl wZ))]) : va_W)) rfl ?_
  refine U_putF C (Cn := RX3) (ref := RX3) (Tt := TX3) (N := 11) (ci := 3) (kf := 6) rfl inX3 tyX3 tyX3_ok nmX3 (by decide) (TB_in 138 (by decide +kernel) (by decide +kernel)) rfl rfl hm rfl (tyX3_ok 6 (by decide)) rfl rfl (Nat.le_of_ble_eq_true rfl) dX3_init_37 ?_
  refine U_ws (ws' := ((h0, .inr (3, [.int 0, .int 0, .ref q1, .ref q2, .ref q3, .ref q4, .ref q5, .null, .null, .null, .null])) :: ([(q1, .inl (T 0, 4, .inl wZ))] ++ [(q2, .inl (T 0, 12, .inl wZ))] ++ [(q3, .inl (T 0, 4, .inl wZ))] ++ [(q4, .inl (T 0, 4, .inl wZ))] ++ [(q5, .inl (T 0, 4, .inl wZ))]) : va_W)) rfl ?_
  refine U_aload_n C 0 dX3_init_40 rfl ?_
  refine U_bipush C dX3_init_41 (v := (15 : Int32)) (by decide) ?_
  refine U_newI C (N := 15) (by decide) (by decide) (Nat.le_of_ble_eq_true rfl) (Nat.le_of_ble_eq_true rfl) (Nat.le_of_ble_eq_true rfl) dX3_init_43 (fun q6 => ?_)
  refine U_ws (ws' := ((h0, .inr (3, [.int 0, .int 0, .ref q1, .ref q2, .ref q3, .ref q4, .ref q5, .null, .null, .null, .null])) :: ([(q1, .inl (T 0, 4, .inl wZ))] ++ [(q2, .inl (T 0, 12, .inl wZ))] ++ [(q3, .inl (T 0, 4, .inl wZ))] ++ [(q4, .inl (T 0, 4, .inl wZ))] ++ [(q5, .inl (T 0, 4, .inl wZ))] ++ [(q6, .inl (T 0, 15, .inl wZ))]) : va_W)) rfl ?_
  refine U_putF C (Cn := RX3) (ref := RX3) (Tt := TX3) (N := 11) (ci := 3) (kf := 7) rfl inX3 tyX3 tyX3_ok nmX3 (by decide) (TB_in 141 (by decide +kernel) (by decide +kernel)) rfl rfl hm rfl (tyX3_ok 7 (by decide)) rfl rfl (Nat.le_of_ble_eq_true rfl) dX3_init_45 ?_
  refine U_ws (ws' := ((h0, .inr (3, [.int 0, .int 0, .ref q1, .ref q2, .ref q3, .ref q4, .ref q5, .ref q6, .null, .null, .null])) :: ([(q1, .inl (T 0, 4, .inl wZ))] ++ [(q2, .inl (T 0, 12, .inl wZ))] ++ [(q3, .inl (T 0, 4, .inl wZ))] ++ [(q4, .inl (T 0, 4, .inl wZ))] ++ [(q5, .inl (T 0, 4, .inl wZ))] ++ [(q6, .inl (T 0, 15, .inl wZ))]) : va_W)) rfl ?_
  refine U_aload_n C 0 dX3_init_48 rfl ?_
  refine U_iconst C dX3_init_49 (v := (5 : Int32)) (by decide) ?_
  refine U_newI C (N := 5) (by decide) (by decide) (Nat.le_of_ble_eq_true rfl) (Nat.le_of_ble_eq_true rfl) (Nat.le_of_ble_eq_true rfl) dX3_init_50 (fun q7 => ?_)
  refine U_ws (ws' := ((h0, .inr (3, [.int 0, .int 0, .ref q1, .ref q2, .ref q3, .ref q4, .ref q5, .ref q6, .null, .null, .null])) :: ([(q1, .inl (T 0, 4, .inl wZ))] ++ [(q2, .inl (T 0, 12, .inl wZ))] ++ [(q3, .inl (T 0, 4, .inl wZ))] ++ [(q4, .inl (T 0, 4, .inl wZ))] ++ [(q5, .inl (T 0, 4, .inl wZ))] ++ [(q6, .inl (T 0, 15, .inl wZ))] ++ [(q7, .inl (T 0, 5, .inl wZ))]) : va_W)) rfl ?_
  refine U_putF C (Cn := RX3) (ref := RX3) (Tt := TX3) (N := 11) (ci := 3) (kf := 8) rfl inX3 tyX3 tyX3_ok nmX3 (by decide) (TB_in 144 (by decide +kernel) (by decide +kernel)) rfl rfl hm rfl (tyX3_ok 8 (by decide)) rfl rfl (Nat.le_of_ble_eq_true rfl) dX3_init_52 ?_
  refine U_ws (ws' := ((h0, .inr (3, [.int 0, .int 0, .ref q1, .ref q2, .ref q3, .ref q4, .ref q5, .ref q6, .ref q7, .null, .null])) :: ([(q1, .inl (T 0, 4, .inl wZ))] ++ [(q2, .inl (T 0, 12, .inl wZ))] ++ [(q3, .inl (T 0, 4, .inl wZ))] ++ [(q4, .inl (T 0, 4, .inl wZ))] ++ [(q5, .inl (T 0, 4, .inl wZ))] ++ [(q6, .inl (T 0, 15, .inl wZ))] ++ [(q7, .inl (T 0, 5, .inl wZ))]) : va_W)) rfl ?_
  refine U_aload_n C 0 dX3_init_55 rfl ?_
  refine U_bipush C dX3_init_56 (v := (20 : Int32)) (by decide) ?_
  refine U_newI C (N := 20) (by decide) (by decide) (Nat.le_of_ble_eq_true rfl) (Nat.le_of_ble_eq_true rfl) (Nat.le_of_ble_eq_true rfl) dX3_init_58 (fun q8 => ?_)
  refine U_ws (ws' := ((h0, .inr (3, [.int 0, .int 0, .ref q1, .ref q2, .ref q3, .ref q4, .ref q5, .ref q6, .ref q7, .null, .null])) :: ([(q1, .inl (T 0, 4, .inl wZ))] ++ [(q2, .inl (T 0, 12, .inl wZ))] ++ [(q3, .inl (T 0, 4, .inl wZ))] ++ [(q4, .inl (T 0, 4, .inl wZ))] ++ [(q5, .inl (T 0, 4, .inl wZ))] ++ [(q6, .inl (T 0, 15, .inl wZ))] ++ [(q7, .inl (T 0, 5, .inl wZ))] ++ [(q8, .inl (T 0, 20, .inl wZ))]) : va_W)) rfl ?_
  refine U_putF C (Cn := RX3) (ref := RX3) (Tt := TX3) (N := 11) (ci := 3) (kf := 9) rfl inX3 tyX3 tyX3_ok nmX3 (by decide) (TB_in 146 (by decide +kernel) (by decide +kernel)) rfl rfl hm rfl (tyX3_ok 9 (by decide)) rfl rfl (Nat.le_of_ble_eq_true rfl) dX3_init_60 ?_
  refine U_ws (ws' := ((h0, .inr (3, [.int 0, .int 0, .ref q1, .ref q2, .ref q3, .ref q4, .ref q5, .ref q6, .ref q7, .ref q8, .null])) :: ([(q1, .inl (T 0, 4, .inl wZ))] ++ [(q2, .inl (T 0, 12, .inl wZ))] ++ [(q3, .inl (T 0, 4, .inl wZ))] ++ [(q4, .inl (T 0, 4, .inl wZ))] ++ [(q5, .inl (T 0, 4, .inl wZ))] ++ [(q6, .inl (T 0, 15, .inl wZ))] ++ [(q7, .inl (T 0, 5, .inl wZ))] ++ [(q8, .inl (T 0, 20, .inl wZ))]) : va_W)) rfl ?_
  refine U_aload_n C 0 dX3_init_63 rfl ?_
  refine U_bipush C dX3_init_64 (v := (20 : Int32)) (by decide) ?_
  refine U_newI C (N := 20) (by decide) (by decide) (Nat.le_of_ble_eq_true rfl) (Nat.le_of_ble_eq_true rfl) (Nat.le_of_ble_eq_true rfl) dX3_init_66 (fun q9 => ?_)
  refine U_ws (ws' := ((h0, .inr (3, [.int 0, .int 0, .ref q1, .ref q2, .ref q3, .ref q4, .ref q5, .ref q6, .ref q7, .ref q8, .null])) :: ([(q1, .inl (T 0, 4, .inl wZ))] ++ [(q2, .inl (T 0, 12, .inl wZ))] ++ [(q3, .inl (T 0, 4, .inl wZ))] ++ [(q4, .inl (T 0, 4, .inl wZ))] ++ [(q5, .inl (T 0, 4, .inl wZ))] ++ [(q6, .inl (T 0, 15, .inl wZ))] ++ [(q7, .inl (T 0, 5, .inl wZ))] ++ [(q8, .inl (T 0, 20, .inl wZ))] ++ [(q9, .inl (T 0, 20, .inl wZ))]) : va_W)) rfl ?_
  refine U_putF C (Cn := RX3) (ref := RX3) (Tt := TX3) (N := 11) (ci := 3) (kf := 10) rfl inX3 tyX3 tyX3_ok nmX3 (by decide) (TB_in 147 (by decide +kernel) (by decide +kernel)) rfl rfl hm rfl (tyX3_ok 10 (by decide)) rfl rfl (Nat.le_of_ble_eq_true rfl) dX3_init_68 ?_
  refine U_ws (ws' := ((h0, .inr (3, [.int 0, .int 0, .ref q1, .ref q2, .ref q3, .ref q4, .ref q5, .ref q6, .ref q7, .ref q8, .ref q9])) :: ([(q1, .inl (T 0, 4, .inl wZ))] ++ [(q2, .inl (T 0, 12, .inl wZ))] ++ [(q3, .inl (T 0, 4, .inl wZ))] ++ [(q4, .inl (T 0, 4, .inl wZ))] ++ [(q5, .inl (T 0, 4, .inl wZ))] ++ [(q6, .inl (T 0, 15, .inl wZ))] ++ [(q7, .inl (T 0, 5, .inl wZ))] ++ [(q8, .inl (T 0, 20, .inl wZ))] ++ [(q9, .inl (T 0, 20, .inl wZ))]) : va_W)) rfl ?_
  exact U_vret C hA hr hlk ⟨q1, q2, q3, q4, q5, q6, q7, q8, q9, rfl⟩ dX3_init_71
set_option maxHeartbeats 4000000 in
set_option maxRecDepth 20000 in
theorem ctN_X2 (D : va_G) (T : Nat → ClassId) (h0 : Nat) : CtN yX2_init cX2_init 1 1 30 2 12 [.ref h0] [(h0, .inr (2, [.null, .null, .int 0]))] (fun w1 => ∃ (b : Nat) (b2 : Nat), w1 = [(h0, .inr (2, [.ref b, .ref b2, .int 0])), (b, .inl (T 0, 6, .inl wZ)), (b2, .inl (T 0, 6, .inl wZ))]) D T := by
  refine CtN_of (by decide +kernel) (lv := [(0, .ref h0)]) rfl (Nat.le_of_ble_eq_true rfl) (fun p l e s m args below meth c A hA C hr hlk hnm => ?_)
  have hm := hnm rfl
  refine U_aload_n C 0 dX2_init_0 rfl ?_
  refine U_obj C (TB_in 232 (by decide +kernel) (by decide +kernel)) (TB_in 91 (by decide +kernel) (by decide +kernel)) (TB_in 92 (by decide +kernel) (by decide +kernel)) ⟨by decide, Nat.le_of_ble_eq_true rfl⟩ dX2_init_1 ?_
  refine U_ws (ws' := ((h0, .inr (2, [.null, .null, .int 0])) :: ([]) : va_W)) rfl ?_
  refine U_aload_n C 0 dX2_init_4 rfl ?_
  refine U_bipush C dX2_init_5 (v := (6 : Int32)) (by decide) ?_
  refine U_newI C (N := 6) (by decide) (by decide) (Nat.le_of_ble_eq_true rfl) (Nat.le_of_ble_eq_true rfl) (Nat.le_of_ble_eq_true rfl) dX2_init_7 (fun q1 => ?_)
  refine U_ws (ws' := ((h0, .inr (2, [.null, .null, .int 0])) :: ([(q1, .inl (T 0, 6, .inl wZ))]) : va_W)) rfl ?_
  refine U_putF C (Cn := RX2) (ref := RX2) (Tt := TX2) (N := 3) (ci := 2) (kf := 0) rfl inX2 tyX2 tyX2_ok nmX2 (by decide) (TB_in 233 (by decide +kernel) (by decide +kernel)) rfl rfl hm rfl (tyX2_ok 0 (by decide)) rfl rfl (Nat.le_of_ble_eq_true rfl) dX2_init_9 ?_
  refine U_ws (ws' := ((h0, .inr (2, [.ref q1, .null, .int 0])) :: ([(q1, .inl (T 0, 6, .inl wZ))]) : va_W)) rfl ?_
  refine U_aload_n C 0 dX2_init_12 rfl ?_
  refine U_bipush C dX2_init_13 (v := (6 : Int32)) (by decide) ?_
  refine U_newI C (N := 6) (by decide) (by decide) (Nat.le_of_ble_eq_true rfl) (Nat.le_of_ble_eq_true rfl) (Nat.le_of_ble_eq_true rfl) dX2_init_15 (fun q2 => ?_)
  refine U_ws (ws' := ((h0, .inr (2, [.ref q1, .null, .int 0])) :: ([(q1, .inl (T 0, 6, .inl wZ))] ++ [(q2, .inl (T 0, 6, .inl wZ))]) : va_W)) rfl ?_
  refine U_putF C (Cn := RX2) (ref := RX2) (Tt := TX2) (N := 3) (ci := 2) (kf := 1) rfl inX2 tyX2 tyX2_ok nmX2 (by decide) (TB_in 234 (by decide +kernel) (by decide +kernel)) rfl rfl hm rfl (tyX2_ok 1 (by decide)) rfl rfl (Nat.le_of_ble_eq_true rfl) dX2_init_17 ?_
  refine U_ws (ws' := ((h0, .inr (2, [.ref q1, .ref q2, .int 0])) :: ([(q1, .inl (T 0, 6, .inl wZ))] ++ [(q2, .inl (T 0, 6, .inl wZ))]) : va_W)) rfl ?_
  exact U_vret C hA hr hlk ⟨q1, q2, rfl⟩ dX2_init_20
set_option maxHeartbeats 4000000 in
set_option maxRecDepth 20000 in
theorem ctN_X9 (D : va_G) (T : Nat → ClassId) (h0 p1 : Nat) : CtN yX9_init cX9_init 2 1 30 1 20 [.ref h0, .ref p1] [(h0, .inr (9, [.null, .null]))] (fun w1 => ∃ (b : Nat), w1 = [(h0, .inr (9, [.ref p1, .ref b])), (b, .inl (T 0, 20, .inl wZ))]) D T := by
  refine CtN_of (by decide +kernel) (lv := [(0, .ref h0), (1, .ref p1)]) rfl (Nat.le_of_ble_eq_true rfl) (fun p l e s m args below meth c A hA C hr hlk hnm => ?_)
  have hm := hnm rfl
  refine U_aload_n C 0 dX9_init_0 rfl ?_
  refine U_obj C (TB_in 249 (by decide +kernel) (by decide +kernel)) (TB_in 91 (by decide +kernel) (by decide +kernel)) (TB_in 92 (by decide +kernel) (by decide +kernel)) ⟨by decide, Nat.le_of_ble_eq_true rfl⟩ dX9_init_1 ?_
  refine U_ws (ws' := ((h0, .inr (9, [.null, .null])) :: ([]) : va_W)) rfl ?_
  refine U_aload_n C 0 dX9_init_4 rfl ?_
  refine U_bipush C dX9_init_5 (v := (20 : Int32)) (by decide) ?_
  refine U_newI C (N := 20) (by decide) (by decide) (Nat.le_of_ble_eq_true rfl) (Nat.le_of_ble_eq_true rfl) (Nat.le_of_ble_eq_true rfl) dX9_init_7 (fun q1 => ?_)
  refine U_ws (ws' := ((h0, .inr (9, [.null, .null])) :: ([(q1, .inl (T 0, 20, .inl wZ))]) : va_W)) rfl ?_
  refine U_putF C (Cn := RX9) (ref := RX9) (Tt := TX9) (N := 2) (ci := 9) (kf := 1) rfl inX9 tyX9 tyX9_ok nmX9 (by decide) (TB_in 252 (by decide +kernel) (by decide +kernel)) rfl rfl hm rfl (tyX9_ok 1 (by decide)) rfl rfl (Nat.le_of_ble_eq_true rfl) dX9_init_9 ?_
  refine U_ws (ws' := ((h0, .inr (9, [.null, .ref q1])) :: ([(q1, .inl (T 0, 20, .inl wZ))]) : va_W)) rfl ?_
  refine U_aload_n C 0 dX9_init_12 rfl ?_
  refine U_aload_n C 1 dX9_init_13 rfl ?_
  refine U_putF C (Cn := RX9) (ref := RX9) (Tt := TX9) (N := 2) (ci := 9) (kf := 0) rfl inX9 tyX9 tyX9_ok nmX9 (by decide) (TB_in 250 (by decide +kernel) (by decide +kernel)) rfl rfl hm rfl (tyX9_ok 0 (by decide)) rfl rfl (Nat.le_of_ble_eq_true rfl) dX9_init_14 ?_
  refine U_ws (ws' := ((h0, .inr (9, [.ref p1, .ref q1])) :: ([(q1, .inl (T 0, 20, .inl wZ))]) : va_W)) rfl ?_
  exact U_vret C hA hr hlk ⟨q1, rfl⟩ dX9_init_17
set_option maxHeartbeats 4000000 in
set_option maxRecDepth 20000 in
theorem ctN_X4 (D : va_G) (T : Nat → ClassId) (h0 p1 p2 : Nat) : CtN yX4_init cX4_init 3 2 70 4 15 [.ref h0, .ref p1, .ref p2] [(h0, .inr (4, [.null, .null, .null, .null, .null]))] (fun w1 => ∃ (w : Nat) (b : Nat) (l1 : Nat) (a1 : Nat), w1 = [(h0, .inr (4, [.ref p1, .ref p2, .ref w, .ref l1, .ref a1])), (w, .inr (7, [.ref b])), (b, .inl (T 0, 5, .inl wF5)), (l1, .inl (T 0, 5, .inl wZ)), (a1, .inl (T 0, 4, .inl wZ))]) D T := by
  refine CtN_of (by decide +kernel) (lv := [(0, .ref h0), (1, .ref p1), (2, .ref p2)]) rfl (Nat.le_of_ble_eq_true rfl) (fun p l e s m args below meth c A hA C hr hlk hnm => ?_)
  have hm := hnm rfl
  refine U_aload_n C 0 dX4_init_0 rfl ?_
  refine U_obj C (TB_in 263 (by decide +kernel) (by decide +kernel)) (TB_in 91 (by decide +kernel) (by decide +kernel)) (TB_in 92 (by decide +kernel) (by decide +kernel)) ⟨by decide, Nat.le_of_ble_eq_true rfl⟩ dX4_init_1 ?_
  refine U_ws (ws' := ((h0, .inr (4, [.null, .null, .null, .null, .null])) :: ([]) : va_W)) rfl ?_
  refine U_aload_n C 0 dX4_init_4 rfl ?_
  refine U_new C (ci := 7) (Cn := RX7) (Tt := TX7) (N := 1) (fs := [.null]) rfl inX7 tyX7 tyX7_ok (TB_in 264 (by decide +kernel) (by decide +kernel)) (TB_in 178 (by decide +kernel) (by decide +kernel)) (TB_in 72 (by decide +kernel) (by decide +kernel)) (fun j hj => by rcases (show j = 0 by omega) with rfl <;> rfl) (Nat.le_of_ble_eq_true rfl) (Nat.le_of_ble_eq_true rfl) dX4_init_5 (fun q1 => ?_)
  refine U_dup C dX4_init_8 rfl ?_
  refine U_ws (ws' := ((h0, .inr (4, [.null, .null, .null, .null, .null])) :: ([])) ++ [(q1, .inr (7, [.null]))]) rfl ?_
  refine U_callI C (rest := [.ref q1, .ref h0]) [] (ctN_X7 D T q1) cal_X7_init (TB_in 265 (by decide +kernel) (by decide +kernel)) (TB_in 180 (by decide +kernel) (by decide +kernel)) rfl ⟨by decide, by decide⟩ rfl (Nat.le_of_ble_eq_true rfl) dX4_init_9 ⟨Nat.le_of_ble_eq_true rfl, Nat.le_of_ble_eq_true rfl⟩ (fun w2 hB3 => ?_)
  obtain ⟨b4, rfl⟩ := hB3
  refine U_ws (ws' := ((h0, .inr (4, [.null, .null, .null, .null, .null])) :: ((wWay T q1 b4)) : va_W)) rfl ?_
  refine U_putF C (Cn := RX4) (ref := RX4) (Tt := TX4) (N := 5) (ci := 4) (kf := 2) rfl inX4 tyX4 tyX4_ok nmX4 (by decide) (TB_in 268 (by decide +kernel) (by decide +kernel)) rfl rfl hm rfl (tyX4_ok 2 (by decide)) rfl rfl (Nat.le_of_ble_eq_true rfl) dX4_init_12 ?_
  refine U_ws (ws' := ((h0, .inr (4, [.null, .null, .ref q1, .null, .null])) :: ((wWay T q1 b4)) : va_W)) rfl ?_
  refine U_aload_n C 0 dX4_init_15 rfl ?_
  refine U_iconst C dX4_init_16 (v := (5 : Int32)) (by decide) ?_
  refine U_newI C (N := 5) (by decide) (by decide) (Nat.le_of_ble_eq_true rfl) (Nat.le_of_ble_eq_true rfl) (Nat.le_of_ble_eq_true rfl) dX4_init_17 (fun q5 => ?_)
  refine U_ws (ws' := ((h0, .inr (4, [.null, .null, .ref q1, .null, .null])) :: ((wWay T q1 b4) ++ [(q5, .inl (T 0, 5, .inl wZ))]) : va_W)) rfl ?_
  refine U_putF C (Cn := RX4) (ref := RX4) (Tt := TX4) (N := 5) (ci := 4) (kf := 3) rfl inX4 tyX4 tyX4_ok nmX4 (by decide) (TB_in 270 (by decide +kernel) (by decide +kernel)) rfl rfl hm rfl (tyX4_ok 3 (by decide)) rfl rfl (Nat.le_of_ble_eq_true rfl) dX4_init_19 ?_
  refine U_ws (ws' := ((h0, .inr (4, [.null, .null, .ref q1, .ref q5, .null])) :: ((wWay T q1 b4) ++ [(q5, .inl (T 0, 5, .inl wZ))]) : va_W)) rfl ?_
  refine U_aload_n C 0 dX4_init_22 rfl ?_
  refine U_iconst C dX4_init_23 (v := (4 : Int32)) (by decide) ?_
  refine U_newI C (N := 4) (by decide) (by decide) (Nat.le_of_ble_eq_true rfl) (Nat.le_of_ble_eq_true rfl) (Nat.le_of_ble_eq_true rfl) dX4_init_24 (fun q6 => ?_)
  refine U_ws (ws' := ((h0, .inr (4, [.null, .null, .ref q1, .ref q5, .null])) :: ((wWay T q1 b4) ++ [(q5, .inl (T 0, 5, .inl wZ))] ++ [(q6, .inl (T 0, 4, .inl wZ))]) : va_W)) rfl ?_
  refine U_putF C (Cn := RX4) (ref := RX4) (Tt := TX4) (N := 5) (ci := 4) (kf := 4) rfl inX4 tyX4 tyX4_ok nmX4 (by decide) (TB_in 271 (by decide +kernel) (by decide +kernel)) rfl rfl hm rfl (tyX4_ok 4 (by decide)) rfl rfl (Nat.le_of_ble_eq_true rfl) dX4_init_26 ?_
  refine U_ws (ws' := ((h0, .inr (4, [.null, .null, .ref q1, .ref q5, .ref q6])) :: ((wWay T q1 b4) ++ [(q5, .inl (T 0, 5, .inl wZ))] ++ [(q6, .inl (T 0, 4, .inl wZ))]) : va_W)) rfl ?_
  refine U_aload_n C 0 dX4_init_29 rfl ?_
  refine U_aload_n C 1 dX4_init_30 rfl ?_
  refine U_putF C (Cn := RX4) (ref := RX4) (Tt := TX4) (N := 5) (ci := 4) (kf := 0) rfl inX4 tyX4 tyX4_ok nmX4 (by decide) (TB_in 266 (by decide +kernel) (by decide +kernel)) rfl rfl hm rfl (tyX4_ok 0 (by decide)) rfl rfl (Nat.le_of_ble_eq_true rfl) dX4_init_31 ?_
  refine U_ws (ws' := ((h0, .inr (4, [.ref p1, .null, .ref q1, .ref q5, .ref q6])) :: ((wWay T q1 b4) ++ [(q5, .inl (T 0, 5, .inl wZ))] ++ [(q6, .inl (T 0, 4, .inl wZ))]) : va_W)) rfl ?_
  refine U_aload_n C 0 dX4_init_34 rfl ?_
  refine U_aload_n C 2 dX4_init_35 rfl ?_
  refine U_putF C (Cn := RX4) (ref := RX4) (Tt := TX4) (N := 5) (ci := 4) (kf := 1) rfl inX4 tyX4 tyX4_ok nmX4 (by decide) (TB_in 267 (by decide +kernel) (by decide +kernel)) rfl rfl hm rfl (tyX4_ok 1 (by decide)) rfl rfl (Nat.le_of_ble_eq_true rfl) dX4_init_36 ?_
  refine U_ws (ws' := ((h0, .inr (4, [.ref p1, .ref p2, .ref q1, .ref q5, .ref q6])) :: ((wWay T q1 b4) ++ [(q5, .inl (T 0, 5, .inl wZ))] ++ [(q6, .inl (T 0, 4, .inl wZ))]) : va_W)) rfl ?_
  exact U_vret C hA hr hlk ⟨q1, b4, q5, q6, rfl⟩ dX4_init_39
set_option maxHeartbeats 4000000 in
set_option maxRecDepth 20000 in
theorem ctN_X8 (D : va_G) (T : Nat → ClassId) (h0 p1 p2 : Nat) : CtN yX8_init cX8_init 3 2 70 4 12 [.ref h0, .ref p1, .ref p2] [(h0, .inr (8, [.null, .null, .null, .null, .int 0, .int 0, .int 0]))] (fun w1 => ∃ (w : Nat) (b : Nat) (w2 : Nat) (b2 : Nat), w1 = [(h0, .inr (8, [.ref p1, .ref p2, .ref w, .ref w2, .int 0, .int 0, .int 0])), (w, .inr (7, [.ref b])), (b, .inl (T 0, 5, .inl wF5)), (w2, .inr (7, [.ref b2])), (b2, .inl (T 0, 5, .inl wF5))]) D T := by
  refine CtN_of (by decide +kernel) (lv := [(0, .ref h0), (1, .ref p1), (2, .ref p2)]) rfl (Nat.le_of_ble_eq_true rfl) (fun p l e s m args below meth c A hA C hr hlk hnm => ?_)
  have hm := hnm rfl
  refine U_aload_n C 0 dX8_init_0 rfl ?_
  refine U_obj C (TB_in 288 (by decide +kernel) (by decide +kernel)) (TB_in 91 (by decide +kernel) (by decide +kernel)) (TB_in 92 (by decide +kernel) (by decide +kernel)) ⟨by decide, Nat.le_of_ble_eq_true rfl⟩ dX8_init_1 ?_
  refine U_ws (ws' := ((h0, .inr (8, [.null, .null, .null, .null, .int 0, .int 0, .int 0])) :: ([]) : va_W)) rfl ?_
  refine U_aload_n C 0 dX8_init_4 rfl ?_
  refine U_new C (ci := 7) (Cn := RX7) (Tt := TX7) (N := 1) (fs := [.null]) rfl inX7 tyX7 tyX7_ok (TB_in 289 (by decide +kernel) (by decide +kernel)) (TB_in 178 (by decide +kernel) (by decide +kernel)) (TB_in 72 (by decide +kernel) (by decide +kernel)) (fun j hj => by rcases (show j = 0 by omega) with rfl <;> rfl) (Nat.le_of_ble_eq_true rfl) (Nat.le_of_ble_eq_true rfl) dX8_init_5 (fun q1 => ?_)
  refine U_dup C dX8_init_8 rfl ?_
  refine U_ws (ws' := ((h0, .inr (8, [.null, .null, .null, .null, .int 0, .int 0, .int 0])) :: ([])) ++ [(q1, .inr (7, [.null]))]) rfl ?_
  refine U_callI C (rest := [.ref q1, .ref h0]) [] (ctN_X7 D T q1) cal_X7_init (TB_in 290 (by decide +kernel) (by decide +kernel)) (TB_in 180 (by decide +kernel) (by decide +kernel)) rfl ⟨by decide, by decide⟩ rfl (Nat.le_of_ble_eq_true rfl) dX8_init_9 ⟨Nat.le_of_ble_eq_true rfl, Nat.le_of_ble_eq_true rfl⟩ (fun w2 hB3 => ?_)
  obtain ⟨b4, rfl⟩ := hB3
  refine U_ws (ws' := ((h0, .inr (8, [.null, .null, .null, .null, .int 0, .int 0, .int 0])) :: ((wWay T q1 b4)) : va_W)) rfl ?_
  refine U_putF C (Cn := RX8) (ref := RX8) (Tt := TX8) (N := 7) (ci := 8) (kf := 2) rfl inX8 tyX8 tyX8_ok nmX8 (by decide) (TB_in 293 (by decide +kernel) (by decide +kernel)) rfl rfl hm rfl (tyX8_ok 2 (by decide)) rfl rfl (Nat.le_of_ble_eq_true rfl) dX8_init_12 ?_
  refine U_ws (ws' := ((h0, .inr (8, [.null, .null, .ref q1, .null, .int 0, .int 0, .int 0])) :: ((wWay T q1 b4)) : va_W)) rfl ?_
  refine U_aload_n C 0 dX8_init_15 rfl ?_
  refine U_new C (ci := 7) (Cn := RX7) (Tt := TX7) (N := 1) (fs := [.null]) rfl inX7 tyX7 tyX7_ok (TB_in 289 (by decide +kernel) (by decide +kernel)) (TB_in 178 (by decide +kernel) (by decide +kernel)) (TB_in 72 (by decide +kernel) (by decide +kernel)) (fun j hj => by rcases (show j = 0 by omega) with rfl <;> rfl) (Nat.le_of_ble_eq_true rfl) (Nat.le_of_ble_eq_true rfl) dX8_init_16 (fun q5 => ?_)
  refine U_dup C dX8_init_19 rfl ?_
  refine U_ws (ws' := ((h0, .inr (8, [.null, .null, .ref q1, .null, .int 0, .int 0, .int 0])) :: ((wWay T q1 b4))) ++ [(q5, .inr (7, [.null]))]) rfl ?_
  refine U_callI C (rest := [.ref q5, .ref h0]) [] (ctN_X7 D T q5) cal_X7_init (TB_in 290 (by decide +kernel) (by decide +kernel)) (TB_in 180 (by decide +kernel) (by decide +kernel)) rfl ⟨by decide, by decide⟩ rfl (Nat.le_of_ble_eq_true rfl) dX8_init_20 ⟨Nat.le_of_ble_eq_true rfl, Nat.le_of_ble_eq_true rfl⟩ (fun w6 hB7 => ?_)
  obtain ⟨b8, rfl⟩ := hB7
  refine U_ws (ws' := ((h0, .inr (8, [.null, .null, .ref q1, .null, .int 0, .int 0, .int 0])) :: ((wWay T q1 b4) ++ (wWay T q5 b8)) : va_W)) rfl ?_
  refine U_putF C (Cn := RX8) (ref := RX8) (Tt := TX8) (N := 7) (ci := 8) (kf := 3) rfl inX8 tyX8 tyX8_ok nmX8 (by decide) (TB_in 294 (by decide +kernel) (by decide +kernel)) rfl rfl hm rfl (tyX8_ok 3 (by decide)) rfl rfl (Nat.le_of_ble_eq_true rfl) dX8_init_23 ?_
  refine U_ws (ws' := ((h0, .inr (8, [.null, .null, .ref q1, .ref q5, .int 0, .int 0, .int 0])) :: ((wWay T q1 b4) ++ (wWay T q5 b8)) : va_W)) rfl ?_
  refine U_aload_n C 0 dX8_init_26 rfl ?_
  refine U_aload_n C 1 dX8_init_27 rfl ?_
  refine U_putF C (Cn := RX8) (ref := RX8) (Tt := TX8) (N := 7) (ci := 8) (kf := 0) rfl inX8 tyX8 tyX8_ok nmX8 (by decide) (TB_in 291 (by decide +kernel) (by decide +kernel)) rfl rfl hm rfl (tyX8_ok 0 (by decide)) rfl rfl (Nat.le_of_ble_eq_true rfl) dX8_init_28 ?_
  refine U_ws (ws' := ((h0, .inr (8, [.ref p1, .null, .ref q1, .ref q5, .int 0, .int 0, .int 0])) :: ((wWay T q1 b4) ++ (wWay T q5 b8)) : va_W)) rfl ?_
  refine U_aload_n C 0 dX8_init_31 rfl ?_
  refine U_aload_n C 2 dX8_init_32 rfl ?_
  refine U_putF C (Cn := RX8) (ref := RX8) (Tt := TX8) (N := 7) (ci := 8) (kf := 1) rfl inX8 tyX8 tyX8_ok nmX8 (by decide) (TB_in 292 (by decide +kernel) (by decide +kernel)) rfl rfl hm rfl (tyX8_ok 1 (by decide)) rfl rfl (Nat.le_of_ble_eq_true rfl) dX8_init_33 ?_
  refine U_ws (ws' := ((h0, .inr (8, [.ref p1, .ref p2, .ref q1, .ref q5, .int 0, .int 0, .int 0])) :: ((wWay T q1 b4) ++ (wWay T q5 b8)) : va_W)) rfl ?_
  exact U_vret C hA hr hlk ⟨q1, b4, q5, b8, rfl⟩ dX8_init_36
set_option maxHeartbeats 4000000 in
set_option maxRecDepth 20000 in
theorem ctN_X1 (D : va_G) (T : Nat → ClassId) (h0 : Nat) : CtN yX1_init cX1_init 1 1 30 0 0 [.ref h0] [(h0, .inr (1, [.int 0, .int 0, .int 0, .int 0, .int 0]))] (fun w1 => w1 = [(h0, .inr (1, [.int 0, .int 0, .int 0, .int 0, .int 0]))]) D T := by
  refine CtN_of (by decide +kernel) (lv := [(0, .ref h0)]) rfl (Nat.le_of_ble_eq_true rfl) (fun p l e s m args below meth c A hA C hr hlk hnm => ?_)
  have hm := hnm rfl
  refine U_aload_n C 0 dX1_init_0 rfl ?_
  refine U_obj C (TB_in 322 (by decide +kernel) (by decide +kernel)) (TB_in 91 (by decide +kernel) (by decide +kernel)) (TB_in 92 (by decide +kernel) (by decide +kernel)) ⟨by decide, Nat.le_of_ble_eq_true rfl⟩ dX1_init_1 ?_
  refine U_ws (ws' := ((h0, .inr (1, [.int 0, .int 0, .int 0, .int 0, .int 0])) :: ([]) : va_W)) rfl ?_
  exact U_vret C hA hr hlk rfl dX1_init_4
set_option maxHeartbeats 4000000 in
set_option maxRecDepth 20000 in
theorem ctN_X0 (D : va_G) (T : Nat → ClassId) (h0 : Nat) : CtN yX0_init cX0_init 2 3 100 57 364 [.ref h0] [(h0, .inr (0, [.null, .int 0, .int 0]))] (fun w1 => ∃ (qa : Nat) (g : Nat → Nat × Nat × Nat × Nat), w1 = (h0, .inr (0, [.ref qa, .int 0, .int 0])) :: (qa, .inl (T 2, 14, .inr (.inr (.inr (.inr (refsS g 14)))))) :: flatS T g 14) D T := by
  refine CtN_of (by decide +kernel) (lv := [(0, .ref h0)]) rfl (Nat.le_of_ble_eq_true rfl) (fun p l e s m args below meth c A hA C hr hlk hnm => ?_)
  have hm := hnm rfl
  refine U_aload_n C 0 dX0_init_0 rfl ?_
  refine U_obj C (TB_in 212 (by decide +kernel) (by decide +kernel)) (TB_in 91 (by decide +kernel) (by decide +kernel)) (TB_in 92 (by decide +kernel) (by decide +kernel)) ⟨by decide, Nat.le_of_ble_eq_true rfl⟩ dX0_init_1 ?_
  refine U_ws (ws' := ((h0, .inr (0, [.null, .int 0, .int 0])) :: ([]) : va_W)) rfl ?_
  refine U_aload_n C 0 dX0_init_4 rfl ?_
  refine U_bipush C dX0_init_5 (v := (14 : Int32)) (by decide) ?_
  refine U_newS C (N := 14) (TB_in 213 (by decide +kernel) (by decide +kernel)) (by decide) (by decide) (Nat.le_of_ble_eq_true rfl) (Nat.le_of_ble_eq_true rfl) (Nat.le_of_ble_eq_true rfl) dX0_init_7 (fun qa => ?_)
  refine U_ws (ws' := ((h0, .inr (0, [.null, .int 0, .int 0])) :: ([(qa, .inl (T 2, 14, .inr (.inr (.inr (.inr (fun _ => none))))))]) : va_W)) rfl ?_
  refine U_putF C (Cn := RX0) (ref := RX0) (Tt := TX0) (N := 3) (ci := 0) (kf := 0) rfl inX0 tyX0 tyX0_ok nmX0 (by decide) (TB_in 216 (by decide +kernel) (by decide +kernel)) rfl rfl hm rfl (tyX0_ok 0 (by decide)) rfl rfl (Nat.le_of_ble_eq_true rfl) dX0_init_10 ?_
  refine U_ws (ws' := ((h0, .inr (0, [.ref qa, .int 0, .int 0])) :: ([(qa, .inl (T 2, 14, .inr (.inr (.inr (.inr (fun _ => none))))))]) : va_W)) rfl ?_
  refine U_iconst C dX0_init_13 (v := (0 : Int32)) (by decide) ?_
  refine U_istore_n C (lv' := [(1, .int (0 : Int32)), (0, .ref h0)]) dX0_init_14 rfl (by decide) rfl ?_
  have key : ∀ (k i : Nat), i + k = 14 → ∀ (g : Nat → Nat × Nat × Nat × Nat), Uj p l e { frames := 3, cells := 57, slots := 364, locals := 100 } s m args below meth c (MQ below (qN (fun w1 => ∃ (qa : Nat) (g : Nat → Nat × Nat × Nat × Nat), w1 = (h0, .inr (0, [.ref qa, .int 0, .int 0])) :: (qa, .inl (T 2, 14, .inr (.inr (.inr (.inr (refsS g 14)))))) :: flatS T g 14) [(h0, .inr (0, [.null, .int 0, .int 0]))] D T s.heap.size) args s 57 364 A) 2 A D (1 + 4 * i) (14 + 25 * i) ((h0, .inr (0, [.ref qa, .int 0, .int 0])) :: (qa, .inl (T 2, 14, .inr (.inr (.inr (.inr (refsS g (i))))))) :: (([] : va_W) ++ flatS T g (i)) : va_W) 15 [(0, .ref h0), (1, .int (nI i))] [] := by
    intro k
    induction k with
    | zero =>
      intro i hi g
      have e : i = 14 := by omega
      subst e
      refine U_iload_n C 1 dX0_init_15 rfl ?_
      refine U_aload_n C 0 dX0_init_16 rfl ?_
      refine U_get C (Cn := RX0) (ref := RX0) (Tt := TX0) (N := 3) (ci := 0) (kf := 0) (v := .ref qa) rfl inX0 (by decide) (TB_in 216 (by decide +kernel) (by decide +kernel)) rfl rfl dX0_init_17 ?_
      refine U_alen C (q0 := 1) (t0 := 2) rfl rfl (v := nI 14) rfl dX0_init_20 ?_
      refine U_icmp_ge C 43 dX0_init_21 (by decide) (fun h => ?_) (fun h => absurd (nI_le (Nat.le_refl 14) (by decide)) h)
      exact (U_vret C hA hr hlk ⟨qa, g, by rw [List.nil_append]⟩ dX0_init_43)
    | succ k ih =>
      intro i hi g
      refine U_iload_n C 1 dX0_init_15 rfl ?_
      refine U_aload_n C 0 dX0_init_16 rfl ?_
      refine U_get C (Cn := RX0) (ref := RX0) (Tt := TX0) (N := 3) (ci := 0) (kf := 0) (v := .ref qa) rfl inX0 (by decide) (TB_in 216 (by decide +kernel) (by decide +kernel)) rfl rfl dX0_init_17 ?_
      refine U_alen C (q0 := 1) (t0 := 2) rfl rfl (v := nI 14) rfl dX0_init_20 ?_
      refine U_icmp_ge C 43 dX0_init_21 (by decide) (fun h => absurd h (nI_ge (by omega) (by decide))) (fun h => ?_)
      refine U_aload_n C 0 dX0_init_24 rfl ?_
      refine U_get C (Cn := RX0) (ref := RX0) (Tt := TX0) (N := 3) (ci := 0) (kf := 0) (v := .ref qa) rfl inX0 (by decide) (TB_in 216 (by decide +kernel) (by decide +kernel)) rfl rfl dX0_init_25 ?_
      refine U_iload_n C 1 dX0_init_28 rfl ?_
      refine U_new C (ci := 5) (Cn := RX5) (Tt := TX5) (N := 4) (fs := [.null, .null, .int 0, .int 0]) rfl inX5 tyX5 tyX5_ok (TB_in 213 (by decide +kernel) (by decide +kernel)) (TB_in 172 (by decide +kernel) (by decide +kernel)) (TB_in 71 (by decide +kernel) (by decide +kernel)) (fun j hj => by rcases (show j = 0 ∨ j = 1 ∨ j = 2 ∨ j = 3 by omega) with rfl | rfl | rfl | rfl <;> rfl) (show 1 + 4 * i + 1 ≤ 57 by omega) (show 14 + 25 * i + 4 ≤ 364 by omega) dX0_init_29 (fun q => ?_)
      refine U_dup C dX0_init_32 rfl ?_
      refine U_callIN C (host := "HorsesChoose") (rest := [.ref q, .int (nI i), .ref qa]) [] (ctN_X5 D T q) cal_X5_init (TB_in 215 (by decide +kernel) (by decide +kernel)) (TB_in 174 (by decide +kernel) (by decide +kernel)) rfl ⟨by decide, by decide⟩ rfl (Nat.le_of_ble_eq_true rfl) dX0_init_33 ⟨show 1 + 4 * i + 1 + 3 ≤ 57 by omega, show 14 + 25 * i + 4 + 21 ≤ 364 by omega⟩ (fun w hB => ?_)
      obtain ⟨b, c9, d9, rfl⟩ := hB
      refine U_ws (ws' := ((h0, .inr (0, [.ref qa, .int 0, .int 0])) :: (qa, .inl (T 2, 14, .inr (.inr (.inr (.inr (refsS g i)))))) :: ((([] : va_W) ++ flatS T g i) ++ ((q, .inr (5, [.ref b, .ref d9, .int 0, .int 0])) :: [(b, .inr (7, [.ref c9])), (c9, .inl (T 0, 5, .inl wF5)), (d9, .inl (T 0, 15, .inl wZ))])) : va_W)) rfl ?_
      refine U_ast C (q0 := 1) (qk := ((([] : va_W) ++ flatS T g i : va_W)).length + 2) (v := q) (vs := [.ref b, .ref d9, .int 0, .int 0]) rfl get_mid (vp_in_nI (show i < 14 by omega) (by decide)) dX0_init_36 ?_
      refine U_iinc C (v := nI (i + 1)) (lv' := [(1, .int (nI (i + 1))), (0, .ref h0)]) 1 dX0_init_37 rfl (nI_1 i) (by decide) rfl ?_
      refine U_goto C 15 dX0_init_40 (by decide) ?_
      refine U_lv (ks := [1, 0]) rfl ?_
      refine U_ws (ws' := ((h0, .inr (0, [.ref qa, .int 0, .int 0])) :: (qa, .inl (T 2, 14, .inr (.inr (.inr (.inr (refsS (va_up g i (q, b, c9, d9)) (i + 1))))))) :: (([] : va_W) ++ flatS T (va_up g i (q, b, c9, d9)) (i + 1)) : va_W)) ?_ (U_wide (by omega) (by omega) (ih (i + 1) (by omega) (va_up g i (q, b, c9, d9))))
      rw [nI_clamp (by omega), ← flatS_new, ← refsS_up, List.append_assoc]
      rfl
  refine U_lv (ks := [1, 0]) rfl ?_
  refine U_ws (ws' := ((h0, .inr (0, [.ref qa, .int 0, .int 0])) :: (qa, .inl (T 2, 14, .inr (.inr (.inr (.inr (refsS (fun _ => (0, 0, 0, 0)) (0))))))) :: (([] : va_W) ++ flatS T (fun _ => (0, 0, 0, 0)) (0)) : va_W)) ?_ (key 14 0 rfl (fun _ => (0, 0, 0, 0)))
  rw [← refsS_0]
  rfl
