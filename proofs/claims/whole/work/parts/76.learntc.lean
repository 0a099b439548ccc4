-- wants: the class's bits of all choices
variable {g : FD} {P : PD} {σ σ' : Mem}
theorem hasR_0 (h : CF g σ) (hg : okG g) {x : Nat} (hx : g.2.1 ≤ x) (hb : x < 2 ^ 31) : F_X3_hasRider (nI x) σ = some 0 := by
  have := hg.2.1
  unfold F_X3_hasRider
  rw [if_neg (nI_pos hb), h.2.1, if_pos (nI_le hx hb)]
def ltJ (g : FD) (A B : Nat → Nat) : Nat → Int64
  | 0 => -1
  | n + 1 => if decide (A n < g.2.1) && decide (B n < g.2.1) then ltJ g A B n &&& lkJ g (A n) (B n) 64 else ltJ g A B n
theorem ltb_ok (c : CF g σ) (hg : okG g) {A B : Nat → Nat} {m : Nat} (hm : m ≤ 6) (h5 : σ.1 5 = nI m) (hA : ∀ i, i < m → A i < 5 ∧ B i < 5 ∧ σ.2.1 10 i = nI (A i) ∧ σ.2.1 11 i = nI (B i)) : F_X2_learntBits σ = some (ltJ g A B m) := by
  have hg2 := hg.2.1
  unfold F_X2_learntBits
  refine lpD (fun n (a : Int64) i => F_X2_learntBits_b7 σ n a (nI i)) m (fun i => ltJ g A B i) _ ?_ ?_ 4000 (by omega)
  · intro n
    simp only [F_X2_learntBits_b7]
    rw [h5, if_pos (nI_le (Nat.le_refl _) (by omega))]
  · intro n i hi
    obtain ⟨a1, a2, a3, a4⟩ := hA i hi
    simp only [F_X2_learntBits_b7]
    rw [h5, if_neg (nI_ge hi (by omega)), at_10 (by omega), a3, Option.bind_some, at_11 (by omega), a4, Option.bind_some, nI_1]
    show _ = F_X2_learntBits_b7 σ n (if decide (A i < g.2.1) && decide (B i < g.2.1) then ltJ g A B i &&& lkJ g (A i) (B i) 64 else ltJ g A B i) (nI (i + 1))
    by_cases e1 : A i < g.2.1
    · rw [hasR_1 c hg e1, Option.bind_some, if_neg (by decide), decide_eq_true e1, Bool.true_and]
      by_cases e2 : B i < g.2.1
      · rw [hasR_1 c hg e2, Option.bind_some, if_neg (by decide), lk_ok c hg e1 e2, Option.bind_some, decide_eq_true e2, if_pos rfl]
      · rw [hasR_0 c hg (by omega) (by omega), Option.bind_some, if_pos rfl, decide_eq_false e2, if_neg (by decide)]
    · rw [hasR_0 c hg (by omega) (by omega), Option.bind_some, if_pos rfl, decide_eq_false e1, Bool.false_and, if_neg (by decide)]
