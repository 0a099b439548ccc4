-- wants: the class's bits
variable {g : FD} {P : PD} {σ σ' : Mem}
theorem wbt_ok (c : CF g σ) (hg : okG g) {k r : Nat} (hr : r < g.2.1) : F_X3_worthByTruth (nI r) (nI (k / 16)) (nI (k / 4 % 4)) (nI (k % 4)) σ = some (nI (wT g k r 3)) := by
  have hg2 := hg.2.1
  have e : wT g k r 3 = k / 16 * g.2.2 7 r + k / 4 % 4 * g.2.2 8 r + k % 4 * g.2.2 9 r := by
    show ((0 + wy k 0 * g.2.2 7 r) + wy k 1 * g.2.2 8 r) + wy k 2 * g.2.2 9 r = _
    unfold wy
    rw [if_pos rfl, if_neg (by omega), if_pos rfl, if_neg (by omega), if_neg (by omega), Nat.zero_add]
  unfold F_X3_worthByTruth
  rw [show (3 : Int32) = nI 3 from rfl, show (1 : Int32) = nI 1 from rfl, show (2 : Int32) = nI 2 from rfl, pk_mul, nI_add, nI_add, at_6 (by omega), at_6 (by omega), at_6 (by omega), cf_t0 c hr, cf_t1 c hr, cf_t2 c hr, e]
  simp only [Option.bind_some, pk_mul, nI_add]
def lkJ (g : FD) (i j : Nat) : Nat → Int64
  | 0 => 0
  | k + 1 => if ltB g k i j then lkJ g i j k ||| ((1 : Int64) <<< ((nI k).toInt64 &&& 63)) else lkJ g i j k
theorem lk_ok (c : CF g σ) (hg : okG g) {i j : Nat} (hi : i < g.2.1) (hj : j < g.2.1) : F_X2_likingBits (nI i) (nI j) σ = some (lkJ g i j 64) := by
  have hg2 := hg.2.1
  unfold F_X2_likingBits
  refine lpD (fun n (a : Int64) k => F_X2_likingBits_b6 σ n (nI i) (nI j) a (nI k)) 64 (fun k => lkJ g i j k) _ ?_ ?_ 4000 (by omega)
  · intro n
    simp only [F_X2_likingBits_b6]
    rw [if_pos (show (64 : Int32) ≤ nI 64 from Int32.le_refl _)]
  · intro n k hk
    have hd := kdiv hk
    have h1 := wT_le hg hk hi
    have h2 := wT_le hg hk hj
    have e1 : (0 < nI (wT g k i 3) - nI (wT g k j 3)) = (wT g k j 3 < wT g k i 3) := s_pos (by omega) (by omega)
    have e2 : (nI (wT g k i 3) - nI (wT g k j 3) = 0) = (wT g k i 3 = wT g k j 3) := s_zero (by omega) (by omega)
    have e3 : (nI j ≤ nI i) = (j ≤ i) := nI_l1 (by omega) (by omega)
    simp only [F_X2_likingBits_b6]
    rw [if_neg (show ¬ (64 : Int32) ≤ nI k from nI_ge (b := 64) hk (by omega)), hd.1, hd.2.1, hd.2.2, wbt_ok c hg hi, Option.bind_some, wbt_ok c hg hj, Option.bind_some, nI_1]
    simp only [e1, e2, e3]
    show _ = F_X2_likingBits_b6 σ n (nI i) (nI j) (if ltB g k i j then lkJ g i j k ||| ((1 : Int64) <<< ((nI k).toInt64 &&& 63)) else lkJ g i j k) (nI (k + 1))
    unfold ltB
    by_cases c1 : wT g k j 3 < wT g k i 3
    · rw [if_pos c1, decide_eq_true c1]; rfl
    · rw [if_neg c1, decide_eq_false c1, Bool.false_or]
      by_cases c2 : wT g k i 3 = wT g k j 3
      · rw [if_pos c2, decide_eq_true c2, Bool.true_and]
        by_cases c3 : i < j
        · rw [if_neg (by omega), decide_eq_true c3, if_pos rfl]
        · rw [if_pos (by omega), decide_eq_false c3, if_neg (by decide)]
      · rw [if_neg c2, decide_eq_false c2, Bool.false_and, if_neg (by decide)]
