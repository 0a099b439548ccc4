-- wants: the class's bits as sets
variable {g : FD} {P : PD} {σ σ' : Mem}
theorem lk_n (g : FD) (i j : Nat) : ∀ k, k ≤ 64 → ∃ N, lkJ g i j k = lN N ∧ N < 2 ^ k ∧ ∀ x, N.testBit x = (decide (x < k) && ltB g x i j)
  | 0, _ => ⟨0, rfl, by decide, fun x => by rw [Nat.zero_testBit, decide_eq_false (Nat.not_lt_zero x), Bool.false_and]⟩
  | k + 1, hk => by
    obtain ⟨N, e, hN, hb⟩ := lk_n g i j k (by omega)
    have p1 : 2 ^ k < 2 ^ 64 := wb_lt2 (by omega)
    have p2 : 2 ^ (k + 1) = 2 * 2 ^ k := by rw [Nat.pow_succ]; omega
    by_cases c : ltB g k i j = true
    · refine ⟨N ||| 2 ^ k, ?_, Nat.or_lt_two_pow (by omega) (by omega), fun x => ?_⟩
      · show (if ltB g k i j then lkJ g i j k ||| ((1 : Int64) <<< ((nI k).toInt64 &&& 63)) else lkJ g i j k) = _
        rw [if_pos c, e, show (1 : Int64) = lN 1 from rfl, wb_shl 1 (by omega), Nat.one_mul, wb_or (by omega) (by omega)]
      · rw [Nat.testBit_or, hb, Nat.testBit_two_pow]
        by_cases h1 : k = x
        · subst h1; rw [decide_eq_true rfl, Bool.or_true, decide_eq_true (Nat.lt_succ_self _), c]; rfl
        · rw [decide_eq_false h1, Bool.or_false]
          by_cases h2 : x < k
          · rw [decide_eq_true h2, decide_eq_true (show x < k + 1 by omega)]
          · rw [decide_eq_false h2, decide_eq_false (show ¬ x < k + 1 by omega)]
    · refine ⟨N, ?_, by omega, fun x => ?_⟩
      · show (if ltB g k i j then lkJ g i j k ||| ((1 : Int64) <<< ((nI k).toInt64 &&& 63)) else lkJ g i j k) = _
        rw [if_neg c, e]
      · rw [hb]
        by_cases h1 : x = k
        · subst h1; rw [decide_eq_false (Nat.lt_irrefl _), (Bool.not_eq_true _).mp c, Bool.and_false, Bool.and_false]
        · by_cases h2 : x < k
          · rw [decide_eq_true h2, decide_eq_true (show x < k + 1 by omega)]
          · rw [decide_eq_false h2, decide_eq_false (show ¬ x < k + 1 by omega)]
theorem lt_n (g : FD) (A B : Nat → Nat) : ∀ c, ∃ N, ltJ g A B c = lN N ∧ N < 2 ^ 64 ∧ ∀ x, N.testBit x = (decide (x < 64) && leB g A B c x)
  | 0 => ⟨2 ^ 64 - 1, (by show (-1 : Int64) = lN (2 ^ 64 - 1); decide +kernel), by omega, fun x => by rw [Nat.testBit_two_pow_sub_one]; show _ = (_ && true); rw [Bool.and_true]⟩
  | c + 1 => by
    obtain ⟨N, e, hN, hb⟩ := lt_n g A B c
    have hl : ∀ x, leB g A B (c + 1) x = (leB g A B c x && chB g A B x c) := fun x => rfl
    by_cases q : (decide (A c < g.2.1) && decide (B c < g.2.1)) = true
    · obtain ⟨M, e2, hM, hb2⟩ := lk_n g (A c) (B c) 64 (Nat.le_refl _)
      refine ⟨N &&& M, ?_, Nat.lt_of_le_of_lt Nat.and_le_left hN, fun x => ?_⟩
      · show (if decide (A c < g.2.1) && decide (B c < g.2.1) then ltJ g A B c &&& lkJ g (A c) (B c) 64 else ltJ g A B c) = _
        rw [if_pos q, e, e2, wb_and hN hM]
      · rw [Nat.testBit_and, hb, hb2, hl]
        unfold chB
        rw [q]
        cases decide (x < 64) <;> cases leB g A B c x <;> rfl
    · refine ⟨N, ?_, hN, fun x => ?_⟩
      · show (if decide (A c < g.2.1) && decide (B c < g.2.1) then ltJ g A B c &&& lkJ g (A c) (B c) 64 else ltJ g A B c) = _
        rw [if_neg q, e]
      · rw [hb, hl]
        unfold chB
        rw [(Bool.not_eq_true _).mp q]
        show _ = (_ && (_ && true))
        rw [Bool.and_true]
-- the first of some
def fgs (k : Nat) : Nat := 100 * (k / 16) + 10 * (k / 4 % 4) + k % 4
def fsP (p : Nat → Bool) : Nat → Int32
  | 0 => -9
  | n + 1 => if cntN p n = 0 ∧ p n = true then nI (fgs n) else fsP p n
theorem fsP_n {p : Nat → Bool} : ∀ n, cntN p n = 0 → fsP p n = -9
  | 0, _ => rfl
  | n + 1, h => by
    rw [cntN_s] at h
    have h1 : cntN p n = 0 := by omega
    have h2 : ¬ p n = true := fun e => by rw [if_pos e] at h; omega
    show (if cntN p n = 0 ∧ p n = true then nI (fgs n) else fsP p n) = -9
    rw [if_neg (fun e => h2 e.2), fsP_n n h1]
theorem fsP_f {p : Nat → Bool} {k : Nat} (h : cntN p k = 0) (hp : p k = true) : ∀ d, cntN p (k + 1 + d) ≠ 0 ∧ fsP p (k + 1 + d) = nI (fgs k)
  | 0 => ⟨by show cntN p (k + 1) ≠ 0; rw [cntN_s, if_pos hp]; omega, by show (if cntN p k = 0 ∧ p k = true then nI (fgs k) else fsP p k) = _; rw [if_pos ⟨h, hp⟩]⟩
  | d + 1 => by
    have ih := fsP_f h hp d
    refine ⟨?_, ?_⟩
    · show cntN p ((k + 1 + d) + 1) ≠ 0
      rw [cntN_s]; have := ih.1; omega
    · show (if cntN p (k + 1 + d) = 0 ∧ p (k + 1 + d) = true then nI (fgs (k + 1 + d)) else fsP p (k + 1 + d)) = _
      rw [if_neg (fun e => ih.1 e.1), ih.2]
theorem kfg {k : Nat} (hk : k < 64) : ((((100 : Int32) * (nI k / (16 : Int32))) + ((10 : Int32) * ((nI k / (4 : Int32)) - (nI k / (4 : Int32)) / (4 : Int32) * (4 : Int32)))) + (nI k - nI k / (4 : Int32) * (4 : Int32))) = nI (fgs k) := by
  have hd := kdiv hk
  rw [hd.1, hd.2.1, hd.2.2, show (100 : Int32) = nI 100 from rfl, show (10 : Int32) = nI 10 from rfl, pk_mul, pk_mul, nI_add, nI_add]
  rfl
theorem lN1 {b : Nat} (hb : b < 2) : ((lg_cmp (lN b) (1 : Int64)) = 0) = (b = 1) := by
  rcases b with _|_|b
  · decide
  · decide
  · omega
theorem lf_ok {N : Nat} (hN : N < 2 ^ 64) {p : Nat → Bool} (hp : ∀ x, x < 64 → N.testBit x = p x) : F_X2_leastFigures (lN N) σ = some (fsP p 64) := by
  unfold F_X2_leastFigures
  refine lp (fun n (q : Unit) k => F_X2_leastFigures_b2 σ n (lN N) (nI k)) (fun o => o = some (fsP p 64)) 64 (fun k _ => cntN p k = 0) ?_ ?_ 64 0 () 4000 (by omega) (by omega) (by omega) rfl
  · intro n _ h
    simp only [F_X2_leastFigures_b2]
    rw [if_pos (show (64 : Int32) ≤ nI 64 from Int32.le_refl _), fsP_n 64 h]
  · intro n _ k hk h
    have hb : ((lg_cmp (((lN N).toUInt64 >>> ((nI k).toInt64.toUInt64 &&& Int64.toUInt64 63)).toInt64 &&& (1 : Int64)) (1 : Int64)) = 0) = (p k = true) := by
      rw [wb_bit hN hk, lN1 (by omega), ← hp k hk, Nat.testBit_eq_decide_div_mod_eq, decide_eq_true_eq]
    simp only [F_X2_leastFigures_b2]
    rw [if_neg (show ¬ (64 : Int32) ≤ nI k from nI_ge (b := 64) hk (by omega)), kfg hk, nI_1]
    simp only [hb]
    by_cases c : p k = true
    · refine .inl ?_
      rw [if_pos c]
      have := (fsP_f h c (63 - k)).2
      rw [show k + 1 + (63 - k) = 64 by omega] at this
      rw [this]
    · refine .inr ⟨(), ?_, by rw [if_neg c]⟩
      rw [cntN_s, h, if_neg c]
