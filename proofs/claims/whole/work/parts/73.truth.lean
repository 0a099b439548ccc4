-- wants: who is better by truth, by one way to weigh
variable {g : FD} {P : PD} {σ σ' : Mem}
def wy (k t : Nat) : Nat := if t = 0 then k / 16 else if t = 1 then k / 4 % 4 else k % 4
def wT (g : FD) (k r n : Nat) : Nat := sumN (fun t => wy k t * g.2.2 (7 + t) r) n
def ltB (g : FD) (k i j : Nat) : Bool := decide (wT g k j 3 < wT g k i 3) || (decide (wT g k i 3 = wT g k j 3) && decide (i < j))
theorem sub_add4 (a b c d : Int32) : (a - b) + (c - d) = (a + c) - (b + d) := by
  simp only [Int32.sub_eq_add_neg, Int32.neg_add]; ac_rfl
theorem wT_le (hg : okG g) {k r : Nat} (hk : k < 64) (hr : r < g.2.1) : wT g k r 3 ≤ 81 := by
  have h := hg.2.2.2 r hr
  have w0 : wy k 0 ≤ 3 := by unfold wy; rw [if_pos rfl]; omega
  have w1 : wy k 1 ≤ 3 := by unfold wy; rw [if_neg (by omega), if_pos rfl]; omega
  have w2 : wy k 2 ≤ 3 := by unfold wy; rw [if_neg (by omega), if_neg (by omega)]; omega
  have m0 := Nat.mul_le_mul w0 h.1
  have m1 := Nat.mul_le_mul w1 h.2.1
  have m2 := Nat.mul_le_mul w2 h.2.2.1
  show ((0 + wy k 0 * g.2.2 7 r) + wy k 1 * g.2.2 8 r) + wy k 2 * g.2.2 9 r ≤ 81
  omega
theorem kdiv {k : Nat} (hk : k < 64) : nI k / (16 : Int32) = nI (k / 16) ∧ (nI k / (4 : Int32)) - (nI k / (4 : Int32)) / (4 : Int32) * (4 : Int32) = nI (k / 4 % 4) ∧ nI k - nI k / (4 : Int32) * (4 : Int32) = nI (k % 4) := by
  rw [show (16 : Int32) = nI 16 from rfl, show (4 : Int32) = nI 4 from rfl]
  refine ⟨pk_div (by omega) (by omega) (by omega), ?_, pk_rem (by omega) (by omega) (by omega)⟩
  rw [pk_div (a := k) (by omega) (by omega) (by omega), pk_rem (by omega) (by omega) (by omega)]
theorem bt_ok (m : MF g σ) (hg : okG g) {k i j : Nat} (hk : k < 64) (hi : i < g.2.1) (hj : j < g.2.1) : F_X11_isBetter (nI k) (nI i) (nI j) σ = some (bI (ltB g k i j)) := by
  have hg2 := hg.2.1
  have hd := kdiv hk
  unfold F_X11_isBetter
  show F_X11_isBetter_b6 σ 4000 (nI k) (nI i) (nI j) (0 : Int32) (nI 0) = _
  rw [show (0 : Int32) = nI (wT g k i 0) - nI (wT g k j 0) from (by show (0 : Int32) = nI 0 - nI 0; decide)]
  refine lpD (fun n (a : Int32) t => F_X11_isBetter_b6 σ n (nI k) (nI i) (nI j) a (nI t)) 3 (fun t => nI (wT g k i t) - nI (wT g k j t)) _ ?_ ?_ 4000 (by omega)
  · intro n
    simp only [F_X11_isBetter_b6]
    rw [if_pos (show (3 : Int32) ≤ nI 3 from Int32.le_refl _)]
    exact hl_if (wT_le hg hk hi) (wT_le hg hk hj) (nI_leI (by omega) (by omega))
  · intro n t ht
    have e1 : ∀ y, F_X11_isBetter_b41 σ (F_X11_isBetter_b6 σ n) (nI k) (nI i) (nI j) (nI (wT g k i t) - nI (wT g k j t)) (nI t) (nI y) = F_X11_isBetter_b6 σ n (nI k) (nI i) (nI j) (nI (wT g k i t + y * g.2.2 (7 + t) i) - nI (wT g k j t + y * g.2.2 (7 + t) j)) (nI (t + 1)) := fun y => by
      unfold F_X11_isBetter_b41
      rw [show (4 : Int32) = nI 4 from rfl, pk_mul, pk_mul, nI_add, nI_add, rd_55 (by omega), rd_55 (by omega), mf_r m hi (by omega), mf_r m hj (by omega), Option.bind_some, Option.bind_some, nI_1, Int32.mul_sub, pk_mul, pk_mul, sub_add4, nI_add, nI_add]
    show _ = F_X11_isBetter_b6 σ n (nI k) (nI i) (nI j) (nI (wT g k i t + wy k t * g.2.2 (7 + t) i) - nI (wT g k j t + wy k t * g.2.2 (7 + t) j)) (nI (t + 1))
    rw [← e1 (wy k t)]
    simp only [F_X11_isBetter_b6]
    rw [if_neg (show ¬ (3 : Int32) ≤ nI t from nI_ge (b := 3) ht (by omega)), hd.1, hd.2.1, hd.2.2]
    unfold wy
    rcases t with _|_|_|t
    · rw [if_pos (show nI 0 = 0 from rfl), if_pos rfl]
    · rw [if_neg (show ¬ nI (0 + 1) = 0 by decide), if_pos (show nI (0 + 1) = 1 from rfl), if_neg (by omega), if_pos (by omega)]
    · rw [if_neg (show ¬ nI (0 + 1 + 1) = 0 by decide), if_neg (show ¬ nI (0 + 1 + 1) = 1 by decide), if_neg (by omega), if_neg (by omega)]
    · omega
