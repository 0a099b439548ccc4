-- how many bits a long has
variable {g : FD} {P : PD} {σ σ' : Mem}
theorem M5 : (6148914691236517205 : Int64) = lN (mk 85 8) := by decide +kernel
theorem M3 : (3689348814741910323 : Int64) = lN (mk 51 8) := by decide +kernel
theorem M0f : (1085102592571150095 : Int64) = lN (mk 15 8) := by decide +kernel
theorem mk85 : mk 85 8 = 6148914691236517205 := by decide +kernel
theorem mk51 : mk 51 8 = 3689348814741910323 := by decide +kernel
theorem mk15 : mk 15 8 = 1085102592571150095 := by decide +kernel
theorem shJ {n k : Nat} {K : Int32} (hK : K = nI k) (hn : n < 2 ^ 64) (hk : k < 64) : ((lN n).toUInt64 >>> ((K).toInt64.toUInt64 &&& Int64.toUInt64 63)).toInt64 = lN (n / 2 ^ k) := by
  subst hK; exact wb_shr hn hk
theorem jA {n : Nat} (hn : n < 2 ^ 64) : lN n - (((lN n).toUInt64 >>> (((1 : Int32)).toInt64.toUInt64 &&& Int64.toUInt64 63)).toInt64 &&& (6148914691236517205 : Int64)) = lN (q1 8 n) := by
  rw [shJ (k := 1) (K := (1 : Int32)) rfl hn (by omega), M5, wb_and (by omega) (by rw [mk85]; omega), lN_sub (Nat.le_trans Nat.and_le_left (by omega))]
  rfl
theorem jB {n : Nat} (hn : n < 2 ^ 64) : (lN n &&& (3689348814741910323 : Int64)) + (((lN n).toUInt64 >>> (((2 : Int32)).toInt64.toUInt64 &&& Int64.toUInt64 63)).toInt64 &&& (3689348814741910323 : Int64)) = lN (q2 8 n) := by
  rw [shJ (k := 2) (K := (2 : Int32)) rfl hn (by omega), M3, wb_and hn (by rw [mk51]; omega), wb_and (by omega) (by rw [mk51]; omega), lN_add]
  rfl
theorem jC {n : Nat} (hn : n < 2 ^ 63) : (lN n + ((lN n).toUInt64 >>> (((4 : Int32)).toInt64.toUInt64 &&& Int64.toUInt64 63)).toInt64) &&& (1085102592571150095 : Int64) = lN (q3 8 n) := by
  rw [shJ (n := n) (k := 4) (K := (4 : Int32)) rfl (by omega) (by omega), M0f, lN_add, wb_and (by omega) (by rw [mk15]; omega)]
  rfl
theorem jD {n k : Nat} {K : Int32} (hK : K = nI k) (hn : n < 2 ^ 63) (hk : k < 64) : lN n + ((lN n).toUInt64 >>> ((K).toInt64.toUInt64 &&& Int64.toUInt64 63)).toInt64 = lN (n + n / 2 ^ k) := by
  rw [shJ hK (by omega) hk, lN_add]
theorem jE (n : Nat) : (lN n).toInt32 &&& (127 : Int32) = nI (n % 128) := by
  rw [lN_i, pk_and (nI n) 7 rfl]
  congr 1
  show (BitVec.ofNat 32 n).toNat % 2 ^ 7 = n % 128
  rw [BitVec.toNat_ofNat]; omega
theorem d8 {a b : Nat} (h : a < 256) : (a + 256 * b) / 2 ^ 8 = b := by omega
theorem d16 {a b c : Nat} (ha : a < 256) (hb : b < 256) : (a + 256 * (b + 256 * c)) / 2 ^ 16 = c := by omega
theorem d32 {a b c d e : Nat} (ha : a < 256) (hb : b < 256) (hc : c < 256) (hd : d < 256) : (a + 256 * (b + 256 * (c + 256 * (d + 256 * e)))) / 2 ^ 32 = e := by omega
theorem m128 {a b : Nat} (h : a < 128) : (a + 256 * b) % 128 = a := by omega
theorem ad2 (a b x y : Nat) : (a + 256 * x) + (b + 256 * y) = (a + b) + 256 * (x + y) := by omega
theorem fold8 {c0 c1 c2 c3 c4 c5 c6 c7 C : Nat} (h0 : c0 ≤ 8) (h1 : c1 ≤ 8) (h2 : c2 ≤ 8) (h3 : c3 ≤ 8) (h4 : c4 ≤ 8) (h5 : c5 ≤ 8) (h6 : c6 ≤ 8) (h7 : c7 ≤ 8) (hC : C = c0 + 256 * (c1 + 256 * (c2 + 256 * (c3 + 256 * (c4 + 256 * (c5 + 256 * (c6 + 256 * c7))))))) : (((C + C / 2 ^ 8) + (C + C / 2 ^ 8) / 2 ^ 16) + ((C + C / 2 ^ 8) + (C + C / 2 ^ 8) / 2 ^ 16) / 2 ^ 32) % 128 = c0 + (c1 + (c2 + (c3 + (c4 + (c5 + (c6 + c7)))))) := by
  have eD : C + C / 2 ^ 8 = (c0 + c1) + 256 * ((c1 + c2) + 256 * ((c2 + c3) + 256 * ((c3 + c4) + 256 * ((c4 + c5) + 256 * ((c5 + c6) + 256 * ((c6 + c7) + 256 * c7)))))) := by
    rw [hC, d8 (by omega)]
    simp only [ad2]
    omega
  have eE : (C + C / 2 ^ 8) + (C + C / 2 ^ 8) / 2 ^ 16 = (c0 + c1 + (c2 + c3)) + 256 * ((c1 + c2 + (c3 + c4)) + 256 * ((c2 + c3 + (c4 + c5)) + 256 * ((c3 + c4 + (c5 + c6)) + 256 * ((c4 + c5 + (c6 + c7)) + 256 * ((c5 + c6 + c7) + 256 * ((c6 + c7) + 256 * c7)))))) := by
    rw [eD, d16 (by omega) (by omega)]
    simp only [ad2]
    omega
  rw [eE, d32 (by omega) (by omega) (by omega) (by omega), ad2, m128 (by omega)]
  omega
theorem bJ_ok {n : Nat} (hn : n < 2 ^ 64) : F_J13_bitCount_95d88 (lN n) σ = some (nI (cntN n.testBit 64)) := by
  have b1 : q1 8 n ≤ n := Nat.sub_le _ _
  have b2 : q2 8 (q1 8 n) ≤ mk 51 8 + mk 51 8 := Nat.add_le_add Nat.and_le_right Nat.and_le_right
  have b3 : q3 8 (q2 8 (q1 8 n)) ≤ mk 15 8 := Nat.and_le_right
  have hq := q_all 8 n (by omega)
  rw [mk51] at b2
  rw [mk15] at b3
  unfold F_J13_bitCount_95d88
  rw [jA hn, jB (by omega), jC (by omega)]
  generalize q3 8 (q2 8 (q1 8 n)) = C at *
  rw [jD (k := 8) (K := (8 : Int32)) rfl (by omega) (by omega), jD (k := 16) (K := (16 : Int32)) rfl (by omega) (by omega), jD (k := 32) (K := (32 : Int32)) rfl (by omega) (by omega), jE]
  have hs := cnt_sd 8 n
  rw [show 8 * 8 = 64 from rfl] at hs
  rw [hs]
  congr 2
  simp only [sm] at hq
  simp only [sd]
  have hc : ∀ m : Nat, cntN m.testBit 8 ≤ 8 := fun m => cntN_le _ 8
  exact fold8 (hc _) (hc _) (hc _) (hc _) (hc _) (hc _) (hc _) (hc _) (by rw [hq])
