def mem0 : Mem := (fun _ => 0, fun n => if (15 ≤ n ∧ n < 36) ∨ n = 58 then wF5 else wZ, fun _ => 0)
def ordL : List Nat := [0, 10, 1, 12, 2, 13, 14, 15, 16, 17, 18, 19, 20, 21, 80, 97, 27, 48, 3, 9, 81, 98, 28, 49, 82, 99, 29, 50, 83, 100, 30, 51, 84, 101, 31, 52, 85, 102, 32, 53, 86, 103, 33, 54, 87, 104, 34, 55, 88, 105, 35, 56, 89, 106, 36, 57, 90, 107, 37, 58, 91, 108, 38, 59, 92, 109, 39, 60, 93, 110, 40, 61, 94, 111, 41, 62, 95, 112, 42, 63, 96, 113, 43, 64, 4, 22, 23, 5, 24, 6, 114, 44, 25, 26, 7, 115, 45, 116, 46, 8, 117, 47, 11, 65, 66, 67, 68, 69, 70, 71, 72, 79, 73, 74, 75, 76, 77, 78]
theorem ordL_ok : ∀ i, i < 118 → ordL[ordL.idxOf i]? = some i := by decide +kernel
def cF (ad : Nat → Nat) (T : Nat → ClassId) (g g2 : Nat → Nat × Nat × Nat × Nat) (i : Nat) : va_E := if i = 9 then .inl (T 2, 14, .inr (.inr (.inr (.inr (refsS g 14))))) else if i = 10 then .inl (T 2, 2, .inr (.inr (.inr (.inr (refsS g2 2))))) else cE ad T mem0 i
theorem refs_at {D : va_G} {T : Nat → ClassId} {a n : Nat} {f f' : Nat → Option Nat} {H : Heap} (hf : ∀ j, j < n → f j = f' j) (h : va_at D vwCl (a, .inl (T 2, n, .inr (.inr (.inr (.inr f))))) H) : va_at D vwCl (a, .inl (T 2, n, .inr (.inr (.inr (.inr f'))))) H := by
  have e : vp_cell (T 2) (n, .inr (.inr (.inr (.inr f)))) = vp_cell (T 2) (n, .inr (.inr (.inr (.inr f')))) := by
    show arrV (T 2) n (fun j => va_rf (f j)) = arrV (T 2) n (fun j => va_rf (f' j))
    unfold arrV
    congr 1
    apply Array.ext_getElem?
    intro i
    by_cases hi : i < n
    · simp [Array.getElem?_ofFn, hi, hf i hi]
    · simp [Array.getElem?_ofFn, hi]
  show H[a]? = some (vp_cell (T 2) (n, .inr (.inr (.inr (.inr f')))))
  rw [← e]
  exact h
def gA (ad : Nat → Nat) : Nat → Nat × Nat × Nat × Nat := fun j => (ad (81 + j), ad (98 + j), ad (28 + j), ad (49 + j))
def gB (ad : Nat → Nat) : Nat → Nat × Nat × Nat × Nat := fun j => (ad (95 + j), ad (112 + j), ad (42 + j), ad (63 + j))
theorem conv {D : va_G} {T : Nat → ClassId} {A : Nat → Prop} {ws : va_W} {H : Heap} {ad : Nat → Nat} (hw : ws = ordL.map (fun i => (ad i, cF ad T (gA ad) (gB ad) i))) (hP : va_P D vwCl ws H) (hD : va_D A ws) : va_P D vwCl (Wd ad T mem0) H ∧ adI ad ∧ ∀ i, i < 118 → A (ad i) := by
  have hg : ∀ i, i < 118 → ws[ordL.idxOf i]? = some (ad i, cF ad T (gA ad) (gB ad) i) := by
    intro i hi
    rw [hw, List.getElem?_map, ordL_ok i hi]
    rfl
  refine ⟨fun k q hq => ?_, fun i j hi hj h => ?_, fun i hi => hD.2 _ _ (hg i hi)⟩
  · obtain ⟨hk, rfl⟩ := Wd_lt hq
    have h := hP _ _ (hg k hk)
    by_cases h9 : k = 9
    · subst h9
      refine refs_at (f := refsS (gA ad) 14) (fun j hj => ?_) h
      rw [refsS, if_pos hj]
      show some (ad (81 + j)) = some (ad (80 + (1 + j)))
      rw [show 80 + (1 + j) = 81 + j by omega]
    · by_cases h10 : k = 10
      · subst h10
        refine refs_at (f := refsS (gB ad) 2) (fun j hj => ?_) h
        rw [refsS, if_pos hj]
        show some (ad (95 + j)) = some (ad (80 + (15 + j)))
        rw [show 80 + (15 + j) = 95 + j by omega]
      · have e : cF ad T (gA ad) (gB ad) k = cE ad T mem0 k := by
          unfold cF
          rw [if_neg h9, if_neg h10]
        rw [← e]
        exact h
  · have e := hD.1 _ _ _ _ (hg i hi) (hg j hj) h
    have e1 := ordL_ok i hi
    rw [e, ordL_ok j hj] at e1
    exact (Option.some.inj e1).symm
def nfam (i : Nat) : Bool := !((decide (81 ≤ i) && decide (i < 97)) || (decide (98 ≤ i) && decide (i < 114)) || (decide (28 ≤ i) && decide (i < 44)) || (decide (49 ≤ i) && decide (i < 65)))
theorem ad_ex (v : List Nat) (g g2 : Nat → Nat × Nat × Nat × Nat) : ∃ ad : Nat → Nat, (∀ i, nfam i = true → ad i = v.getD i 0) ∧ (∀ j, j < 14 → g j = gA ad j) ∧ (∀ j, j < 2 → g2 j = gB ad j) := by
  refine ⟨fun i => if 81 ≤ i ∧ i < 95 then (g (i - 81)).1 else if 95 ≤ i ∧ i < 97 then (g2 (i - 95)).1 else if 98 ≤ i ∧ i < 112 then (g (i - 98)).2.1 else if 112 ≤ i ∧ i < 114 then (g2 (i - 112)).2.1 else if 28 ≤ i ∧ i < 42 then (g (i - 28)).2.2.1 else if 42 ≤ i ∧ i < 44 then (g2 (i - 42)).2.2.1 else if 49 ≤ i ∧ i < 63 then (g (i - 49)).2.2.2 else if 63 ≤ i ∧ i < 65 then (g2 (i - 63)).2.2.2 else v.getD i 0, fun i hi => ?_, fun j hj => ?_, fun j hj => ?_⟩
  · simp only [nfam, Bool.not_eq_true', Bool.or_eq_false_iff, Bool.and_eq_false_iff, decide_eq_false_iff_not] at hi
    show (if _ then _ else _) = _
    rw [if_neg (by omega), if_neg (by omega), if_neg (by omega), if_neg (by omega), if_neg (by omega), if_neg (by omega), if_neg (by omega), if_neg (by omega)]
  · unfold gA
    refine Prod.ext ?_ (Prod.ext ?_ (Prod.ext ?_ ?_))
    · show _ = if _ then _ else _
      rw [if_pos (by omega), Nat.add_sub_cancel_left]
    · show _ = if _ then _ else _
      rw [if_neg (by omega), if_neg (by omega), if_pos (by omega), Nat.add_sub_cancel_left]
    · show _ = if _ then _ else _
      rw [if_neg (by omega), if_neg (by omega), if_neg (by omega), if_neg (by omega), if_pos (by omega), Nat.add_sub_cancel_left]
    · show _ = if _ then _ else _
      rw [if_neg (by omega), if_neg (by omega), if_neg (by omega), if_neg (by omega), if_neg (by omega), if_neg (by omega), if_pos (by omega), Nat.add_sub_cancel_left]
  · unfold gB
    refine Prod.ext ?_ (Prod.ext ?_ (Prod.ext ?_ ?_))
    · show _ = if _ then _ else _
      rw [if_neg (by omega), if_pos (by omega), Nat.add_sub_cancel_left]
    · show _ = if _ then _ else _
      rw [if_neg (by omega), if_neg (by omega), if_neg (by omega), if_pos (by omega), Nat.add_sub_cancel_left]
    · show _ = if _ then _ else _
      rw [if_neg (by omega), if_neg (by omega), if_neg (by omega), if_neg (by omega), if_neg (by omega), if_pos (by omega), Nat.add_sub_cancel_left]
    · show _ = if _ then _ else _
      rw [if_neg (by omega), if_neg (by omega), if_neg (by omega), if_neg (by omega), if_neg (by omega), if_neg (by omega), if_neg (by omega), if_pos (by omega), Nat.add_sub_cancel_left]
theorem flatS_eq (T : Nat → ClassId) {g g' : Nat → Nat × Nat × Nat × Nat} : ∀ n, (∀ j, j < n → g j = g' j) → flatS T g n = flatS T g' n
  | 0, _ => rfl
  | n + 1, h => by rw [flatS, flatS, flatS_eq T n (fun j hj => h j (by omega)), h n (by omega)]
theorem refsS_eq {g g' : Nat → Nat × Nat × Nat × Nat} (n : Nat) (h : ∀ j, j < n → g j = g' j) : refsS g n = refsS g' n := by
  funext j
  unfold refsS
  by_cases hj : j < n
  · rw [if_pos hj, if_pos hj, h j hj]
  · rw [if_neg hj, if_neg hj]
