-- wants: ways by which all choices are so (the reference)
variable {g : FD} {P : PD} {σ σ' : Mem}
theorem noR_0 (h : MF g σ) (hg : okG g) {x : Nat} (hx : g.2.1 ≤ x) (hb : x < 2 ^ 31) : F_X11_noRider (nI x) σ = some 1 := by
  have := hg.2.1
  unfold F_X11_noRider
  rw [h.2.1, L_0, in_0 (b := nI 0) (.inr (by rw [n1_lt (by omega) hb]; exact hx))]; rfl
def chB (g : FD) (A B : Nat → Nat) (k i : Nat) : Bool := !(decide (A i < g.2.1) && decide (B i < g.2.1)) || ltB g k (A i) (B i)
def leB (g : FD) (A B : Nat → Nat) (c k : Nat) : Bool := alB2 (chB g A B k) c
theorem il_ok (m : MF g σ) (hg : okG g) {A B : Nat → Nat} {c k : Nat} (hk : k < 64) (hc : c ≤ 6) (h28 : σ.1 28 = nI c) (hA : ∀ i, i < c → A i < 5 ∧ B i < 5 ∧ σ.2.1 61 i = nI (A i) ∧ σ.2.1 62 i = nI (B i)) : F_X11_isLearnt (nI k) σ = some (bI (leB g A B c k)) := by
  have hg2 := hg.2.1
  unfold F_X11_isLearnt
  refine lp (fun n (q : Bool) i => F_X11_isLearnt_b4 σ n (nI k) (bI q) (nI i)) (fun o => o = some (bI (leB g A B c k))) c (fun i q => q = alB2 (chB g A B k) i) ?_ ?_ c 0 true 4000 (by omega) (by omega) (by omega) rfl
  · intro n q hq
    subst hq
    simp only [F_X11_isLearnt_b4]
    rw [h28, if_pos (nI_le (Nat.le_refl _) (by omega))]
    unfold leB
    cases alB2 (chB g A B k) c <;> rfl
  · intro n q i hi hq
    cases q with
    | false =>
      refine .inl ?_
      have hz : ∀ d, alB2 (chB g A B k) (i + d) = false := fun d => by
        induction d with
        | zero => exact hq.symm
        | succ d ih => show (alB2 (chB g A B k) (i + d) && _) = false; rw [ih]; rfl
      have h2 := hz (c - i)
      rw [show i + (c - i) = c by omega] at h2
      show F_X11_isLearnt_b4 σ (n + 1) (nI k) (bI false) (nI i) = _
      simp only [F_X11_isLearnt_b4]
      unfold leB
      rw [h28, if_neg (nI_ge hi (by omega)), if_pos (show bI false = 0 from rfl), h2]; rfl
    | true =>
      refine .inr ⟨alB2 (chB g A B k) (i + 1), rfl, ?_⟩
      obtain ⟨a1, a2, a3, a4⟩ := hA i hi
      show _ = F_X11_isLearnt_b4 σ n (nI k) (bI (alB2 (chB g A B k) i && chB g A B k i)) (nI (i + 1))
      rw [← hq, Bool.true_and]
      simp only [F_X11_isLearnt_b4]
      rw [h28, if_neg (nI_ge hi (by omega)), if_neg (show ¬ bI true = 0 by decide), rd_61 (by omega), rd_62 (by omega), a3, a4, Option.bind_some, Option.bind_some, Option.bind_some, nI_1]
      unfold chB
      by_cases e1 : A i < g.2.1
      · rw [noR_1 m hg e1, Option.bind_some, if_pos rfl, decide_eq_true e1]
        by_cases e2 : B i < g.2.1
        · rw [noR_1 m hg e2, Option.bind_some, if_pos rfl, Option.bind_some, bt_ok m hg hk e1 e2, Option.bind_some, decide_eq_true e2]
          cases ltB g k (A i) (B i) <;> rfl
        · rw [noR_0 m hg (by omega) (by omega), Option.bind_some, if_neg (by decide), decide_eq_false e2]; rfl
      · rw [noR_0 m hg (by omega) (by omega), Option.bind_some, if_neg (by decide), decide_eq_false e1]; rfl
