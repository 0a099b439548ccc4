-- how many of 64 bits
theorem two8 (a m : Nat) (ha : a < 256) (j : Nat) : (a + 256 * m).testBit j = if j < 8 then a.testBit j else m.testBit (j - 8) := by
  have h := Nat.testBit_two_pow_mul_add m (b := a) (i := 8) ha j
  rw [show 2 ^ 8 * m + a = a + 256 * m by omega] at h
  exact h
theorem and8 {a b : Nat} (x y : Nat) (ha : a < 256) (hb : b < 256) : (a + 256 * x) &&& (b + 256 * y) = (a &&& b) + 256 * (x &&& y) := by
  have hab : a &&& b < 256 := Nat.and_lt_two_pow (n := 8) a hb
  apply Nat.eq_of_testBit_eq
  intro j
  rw [Nat.testBit_and, two8 _ _ ha, two8 _ _ hb, two8 _ _ hab]
  split
  · rw [Nat.testBit_and]
  · rw [Nat.testBit_and]
def mk (c : Nat) : Nat → Nat
  | 0 => 0
  | k + 1 => c + 256 * mk c k
def q1 (k n : Nat) : Nat := n - ((n / 2) &&& mk 85 k)
def q2 (k n : Nat) : Nat := (n &&& mk 51 k) + ((n / 4) &&& mk 51 k)
def q3 (k n : Nat) : Nat := (n + n / 16) &&& mk 15 k
theorem t1 : ∀ a, a < 256 → ∀ b, b < 2 → (a / 2 + 128 * b) &&& 85 = (a / 2) &&& 85 := by decide +kernel
theorem t2 : ∀ a, a < 256 → ∀ b, b < 4 → (a / 4 + 64 * b) &&& 51 = (a / 4) &&& 51 := by decide +kernel
theorem t3 : ∀ a, a < 73 → ∀ b, b < 5 → (a + a / 16 + 16 * b) &&& 15 = (a + a / 16) % 16 := by decide +kernel
theorem sb1 (k a m : Nat) (ha : a < 256) : q1 (k + 1) (a + 256 * m) = (a - ((a / 2) &&& 85)) + 256 * q1 k m := by
  unfold q1
  have e : (a + 256 * m) / 2 = (a / 2 + 128 * (m % 2)) + 256 * (m / 2) := by omega
  have l1 : (a / 2) &&& 85 ≤ a / 2 := Nat.and_le_left
  have l2 : (m / 2) &&& mk 85 k ≤ m / 2 := Nat.and_le_left
  rw [e]
  show a + 256 * m - (((a / 2 + 128 * (m % 2)) + 256 * (m / 2)) &&& (85 + 256 * mk 85 k)) = _
  rw [and8 _ _ (by omega) (by omega), t1 a ha (m % 2) (by omega)]
  omega
theorem sb2 (k a m : Nat) (ha : a < 256) : q2 (k + 1) (a + 256 * m) = ((a &&& 51) + ((a / 4) &&& 51)) + 256 * q2 k m := by
  unfold q2
  have e : (a + 256 * m) / 4 = (a / 4 + 64 * (m % 4)) + 256 * (m / 4) := by omega
  rw [e]
  show ((a + 256 * m) &&& (51 + 256 * mk 51 k)) + (((a / 4 + 64 * (m % 4)) + 256 * (m / 4)) &&& (51 + 256 * mk 51 k)) = _
  rw [and8 _ _ ha (by omega), and8 _ _ (by omega) (by omega), t2 a ha (m % 4) (by omega)]
  omega
theorem sb3 (k a m : Nat) (ha : a < 73) (hm : m % 16 ≤ 4) : q3 (k + 1) (a + 256 * m) = (a + a / 16) % 16 + 256 * q3 k m := by
  unfold q3
  have e : a + 256 * m + (a + 256 * m) / 16 = (a + a / 16 + 16 * (m % 16)) + 256 * (m + m / 16) := by omega
  rw [e]
  show ((a + a / 16 + 16 * (m % 16)) + 256 * (m + m / 16)) &&& (15 + 256 * mk 15 k) = _
  rw [and8 _ _ (by omega) (by omega), t3 a ha (m % 16) (by omega)]
def bb1 (a : Nat) : Nat := a - ((a / 2) &&& 85)
def bb2 (a : Nat) : Nat := (a &&& 51) + ((a / 4) &&& 51)
def bb3 (a : Nat) : Nat := (a + a / 16) % 16
theorem byt : ∀ a, a < 256 → bb1 a < 256 ∧ bb2 (bb1 a) < 73 ∧ bb2 (bb1 a) % 16 ≤ 4 ∧ bb3 (bb2 (bb1 a)) = cntN a.testBit 8 := by decide +kernel
theorem low2 (k n : Nat) : q2 (k + 1) (q1 (k + 1) n) % 16 ≤ 4 := by
  have e : n = n % 256 + 256 * (n / 256) := by omega
  have hb := byt (n % 256) (by omega)
  rw [e, sb1 k _ _ (by omega)]
  show q2 (k + 1) (bb1 (n % 256) + 256 * q1 k (n / 256)) % 16 ≤ 4
  rw [sb2 k _ _ hb.1]
  show (bb2 (bb1 (n % 256)) + 256 * q2 k (q1 k (n / 256))) % 16 ≤ 4
  omega
theorem low0 (k n : Nat) (hn : n < 256 ^ k) : q2 k (q1 k n) % 16 ≤ 4 := by
  cases k with
  | zero =>
    have : n = 0 := by rw [Nat.pow_zero] at hn; omega
    subst this; decide
  | succ k => exact low2 k n
def sm (n : Nat) : Nat → Nat
  | 0 => 0
  | k + 1 => cntN (n % 256).testBit 8 + 256 * sm (n / 256) k
theorem q_all : ∀ k n, n < 256 ^ k → q3 k (q2 k (q1 k n)) = sm n k
  | 0, n, hn => by
    have : n = 0 := by rw [Nat.pow_zero] at hn; omega
    subst this; decide
  | k + 1, n, hn => by
    have e : n = n % 256 + 256 * (n / 256) := by omega
    have hb := byt (n % 256) (by omega)
    have hm : n / 256 < 256 ^ k := by rw [Nat.pow_succ] at hn; omega
    have h1 : q1 (k + 1) n = bb1 (n % 256) + 256 * q1 k (n / 256) := by
      have := sb1 k (n % 256) (n / 256) (by omega)
      rw [← e] at this; exact this
    rw [h1, sb2 k _ _ hb.1]
    show q3 (k + 1) (bb2 (bb1 (n % 256)) + 256 * q2 k (q1 k (n / 256))) = _
    rw [sb3 k _ _ hb.2.1 (low0 k _ hm)]
    show bb3 (bb2 (bb1 (n % 256))) + 256 * q3 k (q2 k (q1 k (n / 256))) = _
    rw [hb.2.2.2, q_all k (n / 256) hm]; rfl
theorem cntN_add (p : Nat → Bool) (i : Nat) : ∀ j, cntN p (i + j) = cntN p i + cntN (fun x => p (i + x)) j
  | 0 => rfl
  | j + 1 => by
    show cntN p (i + j) + (if p (i + j) then 1 else 0) = cntN p i + (cntN (fun x => p (i + x)) j + (if p (i + j) then 1 else 0))
    rw [cntN_add p i j, Nat.add_assoc]
theorem cntN_cg {p q : Nat → Bool} : ∀ n, (∀ x, x < n → p x = q x) → cntN p n = cntN q n
  | 0, _ => rfl
  | n + 1, h => by rw [cntN_s, cntN_s, cntN_cg n (fun x hx => h x (by omega)), h n (by omega)]
def sd (n : Nat) : Nat → Nat
  | 0 => 0
  | k + 1 => cntN (n % 256).testBit 8 + sd (n / 256) k
theorem cnt_sd : ∀ k n, cntN n.testBit (8 * k) = sd n k
  | 0, n => rfl
  | k + 1, n => by
    have e : n = n % 256 + 256 * (n / 256) := by omega
    rw [show 8 * (k + 1) = 8 + 8 * k by omega, cntN_add]
    have hx : ∀ j, n.testBit j = if j < 8 then (n % 256).testBit j else (n / 256).testBit (j - 8) := fun j => by
      have := two8 (n % 256) (n / 256) (by omega) j
      rw [← e] at this; exact this
    rw [cntN_cg (q := (n % 256).testBit) 8 (fun x hx2 => by rw [hx, if_pos hx2]), cntN_cg (q := (n / 256).testBit) (8 * k) (fun x _ => by rw [hx, if_neg (by omega)]; congr 1; omega), cnt_sd k (n / 256)]
    rfl
