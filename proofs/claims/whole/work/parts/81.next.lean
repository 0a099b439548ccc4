-- wants: whom to lead next
variable {g : FD} {P : PD} {σ σ' : Mem}
theorem if_le {a b : Nat} (ha : a < 2 ^ 31) (hb : b < 2 ^ 31) {α : Type} (x y : α) : (if nI a ≤ nI b then x else y) = if a ≤ b then x else y := by simp only [nI_l1 ha hb]
theorem if_lt {a b : Nat} (ha : a < 2 ^ 31) (hb : b < 2 ^ 31) {α : Type} (x y : α) : (if nI a < nI b then x else y) = if a < b then x else y := by simp only [nI_l2 ha hb]
theorem if_eq {a b : Nat} (ha : a < 2 ^ 31) (hb : b < 2 ^ 31) {α : Type} (x y : α) : (if nI a = nI b then x else y) = if a = b then x else y := by simp only [nI_e ha hb]
theorem if_h9 {a : Nat} (ha : a < 2 ^ 31) {α : Type} (x y : α) : (if hI a = (-9 : Int32) then x else y) = if a = 9 then x else y := by simp only [hI_m9 ha]
theorem if_hh {a b : Nat} (ha : a < 2 ^ 31) (hb : b < 2 ^ 31) {α : Type} (x y : α) : (if hI a = hI b then x else y) = if a = b then x else y := by simp only [hI_inj ha hb]
def nIn (st : Nat × Int32 → Nat → Nat → Nat × Int32) (s : Nat × Int32) (i : Nat) : Nat → Nat × Int32
  | 0 => s
  | m + 1 => st (nIn st s i m) i (i + 1 + m)
def nOut (st : Nat × Int32 → Nat → Nat → Nat × Int32) (s : Nat × Int32) (R : Nat) : Nat → Nat × Int32
  | 0 => s
  | i + 1 => nIn st (nOut st s R i) i (R - (i + 1))
def cst (M : Nat → Nat → Nat) (s : Nat × Int32) (i j : Nat) : Nat × Int32 := if M i j < s.1 then (M i j, nI (10 * i + j)) else s
def rst (M : Nat → Nat → Nat) (s : Nat × Int32) (i j : Nat) : Nat × Int32 := if 0 < M i j ∧ M i j < s.1 then (M i j, nI (10 * i + j)) else s
theorem cst_le (M : Nat → Nat → Nat) (s : Nat × Int32) (i j : Nat) : (cst M s i j).1 ≤ s.1 := by unfold cst; split <;> simp <;> omega
theorem rst_le (M : Nat → Nat → Nat) (s : Nat × Int32) (i j : Nat) : (rst M s i j).1 ≤ s.1 := by unfold rst; split <;> simp <;> omega
theorem nIn_le {st : Nat × Int32 → Nat → Nat → Nat × Int32} (h : ∀ s i j, (st s i j).1 ≤ s.1) (s : Nat × Int32) (i : Nat) : ∀ m, (nIn st s i m).1 ≤ s.1
  | 0 => Nat.le_refl _
  | m + 1 => Nat.le_trans (h _ _ _) (nIn_le h s i m)
theorem nOut_le {st : Nat × Int32 → Nat → Nat → Nat × Int32} (h : ∀ s i j, (st s i j).1 ≤ s.1) (s : Nat × Int32) (R : Nat) : ∀ i, (nOut st s R i).1 ≤ s.1
  | 0 => Nat.le_refl _
  | i + 1 => Nat.le_trans (nIn_le h _ _ _) (nOut_le h s R i)
def nRel (a : Nat) (s t : Nat × Int32) : Prop := s.2 = t.2 ∧ (s.1 = t.1 ∧ s.1 ≤ a ∨ s.1 = a + 1 ∧ t.1 = 9999)
theorem nRel_st {M : Nat → Nat → Nat} {a : Nat} (ha : a ≤ 64) {s t : Nat × Int32} (h : nRel a s t) {i j : Nat} (h1 : 0 < M i j) (h2 : M i j ≤ a) : nRel a (cst M s i j) (rst M t i j) := by
  unfold cst rst
  rcases h with ⟨e, ⟨e1, e2⟩ | ⟨e1, e2⟩⟩
  · rw [← e1]
    by_cases c : M i j < s.1
    · rw [if_pos c, if_pos ⟨h1, c⟩]; exact ⟨rfl, .inl ⟨rfl, h2⟩⟩
    · rw [if_neg c, if_neg (fun q => c q.2)]; exact ⟨e, .inl ⟨e1, e2⟩⟩
  · rw [if_pos (by omega), if_pos (by omega)]; exact ⟨rfl, .inl ⟨rfl, h2⟩⟩
theorem nRel_in {M : Nat → Nat → Nat} {a : Nat} (ha : a ≤ 64) (hM : ∀ i j, 0 < M i j ∧ M i j ≤ a) {s t : Nat × Int32} (h : nRel a s t) (i : Nat) : ∀ m, nRel a (nIn (cst M) s i m) (nIn (rst M) t i m)
  | 0 => h
  | m + 1 => nRel_st ha (nRel_in ha hM h i m) (hM _ _).1 (hM _ _).2
theorem nRel_out {M : Nat → Nat → Nat} {a : Nat} (ha : a ≤ 64) (hM : ∀ i j, 0 < M i j ∧ M i j ≤ a) {s t : Nat × Int32} (h : nRel a s t) (R : Nat) : ∀ i, nRel a (nOut (cst M) s R i) (nOut (rst M) t R i)
  | 0 => h
  | i + 1 => nRel_in ha hM (nRel_out ha hM h R i) i _
theorem n0_in {M : Nat → Nat → Nat} (hM : ∀ i j, M i j = 0) (s : Nat × Int32) (i : Nat) : ∀ m, nIn (rst M) s i m = s
  | 0 => rfl
  | m + 1 => by
    show rst M (nIn (rst M) s i m) i (i + 1 + m) = s
    rw [n0_in hM s i m]
    unfold rst
    rw [if_neg (fun q => by have := hM i (i + 1 + m); omega)]
theorem n0_out {M : Nat → Nat → Nat} (hM : ∀ i j, M i j = 0) (s : Nat × Int32) (R : Nat) : ∀ i, nOut (rst M) s R i = s
  | 0 => rfl
  | i + 1 => by
    show nIn (rst M) (nOut (rst M) s R i) i (R - (i + 1)) = s
    rw [n0_in hM, n0_out hM s R i]
-- the parts
def pYe (g : FD) (p : Nat → Bool) (i j n : Nat) : Nat := cntN (fun x => p x && ltB g x i j) n
def pNo (g : FD) (p : Nat → Bool) (i j n : Nat) : Nat := cntN (fun x => p x && !ltB g x i j) n
theorem pYN (g : FD) (p : Nat → Bool) (i j : Nat) : ∀ n, pYe g p i j n + pNo g p i j n = cntN p n
  | 0 => rfl
  | n + 1 => by
    have ih := pYN g p i j n
    unfold pYe pNo at ih ⊢
    rw [cntN_s, cntN_s, cntN_s]
    cases p n <;> cases ltB g n i j <;> simp <;> omega
def pMx (g : FD) (p : Nat → Bool) (i j : Nat) : Nat := if pYe g p i j 64 ≤ pNo g p i j 64 then pNo g p i j 64 else pYe g p i j 64
theorem pM_b (g : FD) (p : Nat → Bool) (i j : Nat) : pMx g p i j ≤ cntN p 64 ∧ (0 < cntN p 64 → 0 < pMx g p i j) := by
  have h := pYN g p i j 64
  unfold pMx
  split <;> omega
-- the class
theorem xn56 {kL : Int64 → Int32 → Int32 → Int32 → Int32 → Option Int32} (c : CF g σ) (hg : okG g) {p : Nat → Bool} {N : Nat} (hN : N < 2 ^ 64) (hp : ∀ x, x < 64 → N.testBit x = p x) {i : Nat} (hi : i < g.2.1) (s : Nat × Int32) (hs : s.1 ≤ 65) : F_X10_next_b56 σ kL 4000 (lN N) (nI (cntN p 64)) (nI s.1) s.2 (nI i) (nI (i + 1 + 0)) = kL (lN N) (nI (cntN p 64)) (nI (nIn (cst (pMx g p)) s i (g.2.1 - (i + 1))).1) (nIn (cst (pMx g p)) s i (g.2.1 - (i + 1))).2 (nI (i + 1)) := by
  have hg2 := hg.2.1
  refine lpD (fun n (q : Nat × Int32) m => F_X10_next_b56 σ kL n (lN N) (nI (cntN p 64)) (nI q.1) q.2 (nI i) (nI (i + 1 + m))) (g.2.1 - (i + 1)) (fun m => nIn (cst (pMx g p)) s i m) _ ?_ ?_ 4000 (by omega)
  · intro n
    simp only [F_X10_next_b56]
    rw [c.2.1, if_pos (nI_le (by omega) (by omega)), nI_1]
  · intro n m hm
    have hl := nIn_le (cst_le (pMx g p)) s i m
    have hj : i + 1 + m < g.2.1 := by omega
    obtain ⟨M, e1, e2, e3⟩ := lk_n g i (i + 1 + m) 64 (Nat.le_refl _)
    have hy : cntN (N &&& M).testBit 64 = pYe g p i (i + 1 + m) 64 := cntN_cg 64 (fun x hx => by rw [Nat.testBit_and, hp x hx, e3, decide_eq_true hx, Bool.true_and])
    have hs2 := pYN g p i (i + 1 + m) 64
    have ha := cntN_le p 64
    show _ = F_X10_next_b56 σ kL n (lN N) (nI (cntN p 64)) (nI (cst (pMx g p) (nIn (cst (pMx g p)) s i m) i (i + 1 + m)).1) (cst (pMx g p) (nIn (cst (pMx g p)) s i m) i (i + 1 + m)).2 (nI i) (nI (i + 1 + (m + 1)))
    have hmx : (if nI (pYe g p i (i + 1 + m) 64) < nI (cntN p 64) - nI (pYe g p i (i + 1 + m) 64) then nI (cntN p 64) - nI (pYe g p i (i + 1 + m) 64) else nI (pYe g p i (i + 1 + m) 64)) = nI (pMx g p i (i + 1 + m)) := by
      rw [pk_sub (by omega), if_lt (by omega) (by omega)]
      unfold pMx
      by_cases q : pYe g p i (i + 1 + m) 64 < cntN p 64 - pYe g p i (i + 1 + m) 64
      · rw [if_pos q, if_pos (by omega)]; congr 1; omega
      · rw [if_neg q]
        by_cases q2 : pYe g p i (i + 1 + m) 64 ≤ pNo g p i (i + 1 + m) 64
        · rw [if_pos q2]; congr 1; omega
        · rw [if_neg q2]
    have hMb := (pM_b g p i (i + 1 + m)).1
    simp only [F_X10_next_b56]
    rw [c.2.1, if_neg (nI_ge hj (by omega)), lk_ok c hg hi hj, Option.bind_some, e1, wb_and hN e2, bJ_ok (Nat.lt_of_le_of_lt Nat.and_le_left hN), Option.bind_some, hy, hmx, if_le (by omega) (by omega), show (10 : Int32) = nI 10 from rfl, pk_mul, nI_add, nI_1]
    generalize nIn (cst (pMx g p)) s i m = S at *
    unfold cst
    by_cases q : pMx g p i (i + 1 + m) < S.1
    · rw [if_neg (by omega), if_pos q]; rfl
    · rw [if_pos (by omega), if_neg q]; rfl
theorem xn38 (c : CF g σ) (hg : okG g) {p : Nat → Bool} {N : Nat} (hN : N < 2 ^ 64) (hp : ∀ x, x < 64 → N.testBit x = p x) (s : Nat × Int32) (hs : s.1 ≤ 65) : F_X10_next_b38 σ 4000 (lN N) (nI (cntN p 64)) (nI s.1) s.2 (nI 0) = some (nOut (cst (pMx g p)) s g.2.1 g.2.1).2 := by
  have hg2 := hg.2.1
  refine lpD (fun n (q : Nat × Int32) i => F_X10_next_b38 σ n (lN N) (nI (cntN p 64)) (nI q.1) q.2 (nI i)) g.2.1 (fun i => nOut (cst (pMx g p)) s g.2.1 i) _ ?_ ?_ 4000 (by omega)
  · intro n
    simp only [F_X10_next_b38]
    rw [c.2.1, if_pos (nI_le (Nat.le_refl _) (by omega))]
  · intro n i hi
    have hl := nOut_le (cst_le (pMx g p)) s g.2.1 i
    simp only [F_X10_next_b38]
    rw [c.2.1, if_neg (nI_ge hi (by omega)), nI_1]
    exact xn56 c hg hN hp hi _ (by omega)
-- the reference
theorem rn45 {kL14 : Int32 → Int32 → Int32 → Mem → Option (Int32 × Mem)} {kL27 : Int32 → Int32 → Int32 → Int32 → Mem → Option (Int32 × Mem)} (d : MF g σ) (hg : okG g) {p : Nat → Bool} (hL : ∀ k, k < 64 → F_X11_isLearnt (nI k) σ = some (bI (p k))) {i j : Nat} (hi : i < g.2.1) (hj : j < g.2.1) (s : Nat × Int32) (hs : s.1 ≤ 9999) : F_X11_next_b45 kL14 kL27 4000 s.2 (nI s.1) (nI i) (nI j) (nI 0) (nI 0) (nI 0) σ = kL27 (rst (pMx g p) s i j).2 (nI (rst (pMx g p) s i j).1) (nI i) (nI (j + 1)) σ := by
  have hg2 := hg.2.1
  refine lpD (fun n (q : Nat × Nat) k => F_X11_next_b45 kL14 kL27 n s.2 (nI s.1) (nI i) (nI j) (nI q.1) (nI q.2) (nI k) σ) 64 (fun k => (pYe g p i j k, pNo g p i j k)) _ ?_ ?_ 4000 (by omega)
  · intro n
    have hy := cntN_le (fun x => p x && ltB g x i j) 64
    have hn := cntN_le (fun x => p x && !ltB g x i j) 64
    change pYe g p i j 64 ≤ 64 at hy
    change pNo g p i j 64 ≤ 64 at hn
    simp only [F_X11_next_b45]
    rw [if_pos (show (64 : Int32) ≤ nI 64 from Int32.le_refl _), show (10 : Int32) = nI 10 from rfl, pk_mul, nI_add, nI_1, if_le (by omega) (by omega), show (0 : Int32) = nI 0 from rfl, if_le (by omega) (by omega), if_le (by omega) (by omega), if_le (by omega) (by omega), if_le (by omega) (by omega)]
    unfold rst pMx
    by_cases q : pYe g p i j 64 ≤ pNo g p i j 64
    · rw [if_pos q, if_pos q]
      by_cases q2 : pNo g p i j 64 ≤ 0
      · rw [if_pos q2, if_neg (by omega)]
      · rw [if_neg q2]
        by_cases q3 : s.1 ≤ pNo g p i j 64
        · rw [if_pos q3, if_neg (by omega)]
        · rw [if_neg q3, if_pos (by omega)]
    · rw [if_neg q, if_neg q]
      by_cases q2 : pYe g p i j 64 ≤ 0
      · rw [if_pos q2, if_neg (by omega)]
      · rw [if_neg q2]
        by_cases q3 : s.1 ≤ pYe g p i j 64
        · rw [if_pos q3, if_neg (by omega)]
        · rw [if_neg q3, if_pos (by omega)]
  · intro n k hk
    have e1 : pYe g p i j (k + 1) = pYe g p i j k + (if (p k && ltB g k i j) = true then 1 else 0) := rfl
    have e2 : pNo g p i j (k + 1) = pNo g p i j k + (if (p k && !ltB g k i j) = true then 1 else 0) := rfl
    show F_X11_next_b45 kL14 kL27 (n + 1) s.2 (nI s.1) (nI i) (nI j) (nI (pYe g p i j k)) (nI (pNo g p i j k)) (nI k) σ = F_X11_next_b45 kL14 kL27 n s.2 (nI s.1) (nI i) (nI j) (nI (pYe g p i j (k + 1))) (nI (pNo g p i j (k + 1))) (nI (k + 1)) σ
    rw [e1, e2]
    have hb := bt_ok (σ := σ) d hg hk hi hj
    simp only [F_X11_next_b45]
    rw [if_neg (show ¬ (64 : Int32) ≤ nI k from nI_ge (b := 64) hk (by omega)), hL k hk, Option.bind_some, hb, Option.bind_some]
    unfold F_X11_next_b84
    simp only [hb, Option.bind_some, i_0, i_1, nI_add]
    cases p k with
    | false => rw [if_pos (show bI false = nI 0 from rfl), if_pos (show bI false = nI 0 from rfl)]; rfl
    | true =>
      rw [if_neg (show ¬ bI true = nI 0 by decide), if_neg (show ¬ bI true = nI 0 by decide)]
      cases ltB g k i j with
      | false => rw [if_pos (show bI false = nI 0 from rfl), if_pos (show bI false = nI 0 from rfl)]; rfl
      | true => rw [if_neg (show ¬ bI true = nI 0 by decide), if_neg (show ¬ bI true = nI 0 by decide)]; rfl
theorem rn27 {kL14 : Int32 → Int32 → Int32 → Mem → Option (Int32 × Mem)} (d : MF g σ) (hg : okG g) {p : Nat → Bool} (hL : ∀ k, k < 64 → F_X11_isLearnt (nI k) σ = some (bI (p k))) {i : Nat} (hi : i < g.2.1) (s : Nat × Int32) (hs : s.1 ≤ 9999) : F_X11_next_b27 kL14 4000 s.2 (nI s.1) (nI i) (nI (i + 1 + 0)) σ = kL14 (nIn (rst (pMx g p)) s i (g.2.1 - (i + 1))).2 (nI (nIn (rst (pMx g p)) s i (g.2.1 - (i + 1))).1) (nI (i + 1)) σ := by
  have hg2 := hg.2.1
  refine lpD (fun n (q : Nat × Int32) m => F_X11_next_b27 kL14 n q.2 (nI q.1) (nI i) (nI (i + 1 + m)) σ) (g.2.1 - (i + 1)) (fun m => nIn (rst (pMx g p)) s i m) _ ?_ ?_ 4000 (by omega)
  · intro n
    simp only [F_X11_next_b27]
    rw [d.2.1, if_pos (nI_le (by omega) (by omega)), nI_1]
  · intro n m hm
    have hl := nIn_le (rst_le (pMx g p)) s i m
    simp only [F_X11_next_b27]
    rw [d.2.1, if_neg (nI_ge (show i + 1 + m < g.2.1 by omega) (by omega))]
    exact rn45 d hg hL hi (show i + 1 + m < g.2.1 by omega) _ (by omega)
theorem rn14 (d : MF g σ) (hg : okG g) {p : Nat → Bool} (hL : ∀ k, k < 64 → F_X11_isLearnt (nI k) σ = some (bI (p k))) (s : Nat × Int32) (hs : s.1 ≤ 9999) : F_X11_next_b14 4000 s.2 (nI s.1) (nI 0) σ = some ((nOut (rst (pMx g p)) s g.2.1 g.2.1).2, σ) := by
  have hg2 := hg.2.1
  refine lpD (fun n (q : Nat × Int32) i => F_X11_next_b14 n q.2 (nI q.1) (nI i) σ) g.2.1 (fun i => nOut (rst (pMx g p)) s g.2.1 i) _ ?_ ?_ 4000 (by omega)
  · intro n
    simp only [F_X11_next_b14]
    rw [d.2.1, if_pos (nI_le (Nat.le_refl _) (by omega))]
  · intro n i hi
    have hl := nOut_le (rst_le (pMx g p)) s g.2.1 i
    simp only [F_X11_next_b14]
    rw [d.2.1, if_neg (nI_ge hi (by omega)), nI_1]
    exact rn27 d hg hL hi _ (by omega)
theorem cntN_0 {p : Nat → Bool} : ∀ n, (∀ x, x < n → p x = false) → cntN p n = 0
  | 0, _ => rfl
  | n + 1, h => by rw [cntN_s, cntN_0 n (fun x hx => h x (by omega)), h n (by omega)]; rfl
theorem cntN_p {p : Nat → Bool} : ∀ n x, x < n → p x = true → 0 < cntN p n
  | 0, x, hx, _ => absurd hx (Nat.not_lt_zero _)
  | n + 1, x, hx, h => by
    rw [cntN_s]
    by_cases e : x = n
    · subst e; rw [if_pos h]; omega
    · have := cntN_p n x (by omega) h; omega
theorem st_next : Step_next Inv := by
  intro σ hI0
  obtain ⟨g, P, R⟩ := id hI0
  have I20 := Inv_fr hI0 (fr20 σ 0)
  obtain ⟨p, N, hN, hp, hc, hr⟩ := lrn R
  obtain ⟨hg, hP, c, d, e, i, j, k, l, m, z⟩ := id R
  have hq := rn14 (MF_20 d 0) hg hr (9999, -9) (Nat.le_refl _)
  have hrr : F_X11_next σ = some ((nOut (rst (pMx g p)) (9999, -9) g.2.1 g.2.1).2, sI σ 20 0) := by
    unfold F_X11_next
    rw [show stI σ 20 0 = some (sI σ 20 0) from rfl, Option.bind_some]
    exact hq
  by_cases hN0 : N = 0
  · subst hN0
    have ha : cntN p 64 = 0 := cntN_0 64 (fun x hx => by rw [← hp x hx, Nat.zero_testBit])
    refine ⟨-9, sI σ 20 0, ?_, ?_, I20⟩
    · unfold F_X10_next
      rw [hc, Option.bind_some, if_pos (show lg_cmp (lN 0) (0 : Int64) = 0 from (lg_cmp_eq _ _).mpr rfl)]
    · rw [hrr, n0_out (fun i j => by have := (pM_b g p i j).1; omega)]
  · have ha : 0 < cntN p 64 := by
      refine Nat.pos_of_ne_zero (fun e0 => hN0 ?_)
      apply Nat.eq_of_testBit_eq
      intro x
      rw [Nat.zero_testBit]
      by_cases hx : x < 64
      · rw [hp x hx]
        cases hb : p x with
        | false => rfl
        | true => have := cntN_p 64 x hx hb; omega
      · exact Nat.testBit_lt_two_pow (Nat.lt_of_lt_of_le hN (Nat.pow_le_pow_right (by decide) (by omega)))
    have hal := cntN_le p 64
    have hne : ¬ lg_cmp (lN N) (0 : Int64) = 0 := fun q => by
      have e1 := (lg_cmp_eq _ _).mp q
      have e2 : (lN N).toBitVec.toNat = (lN 0).toBitVec.toNat := by rw [e1]; rfl
      rw [wb_tn hN, wb_tn (by omega)] at e2
      exact hN0 e2
    have hx := xn38 c hg hN hp (cntN p 64 + 1, -9) (by show cntN p 64 + 1 ≤ 65; omega)
    have hrel := nRel_out (a := cntN p 64) hal (fun i j => ⟨(pM_b g p i j).2 ha, (pM_b g p i j).1⟩) (s := (cntN p 64 + 1, -9)) (t := (9999, -9)) ⟨rfl, .inr ⟨rfl, rfl⟩⟩ g.2.1 g.2.1
    refine ⟨_, sI σ 20 0, ?_, hrr, I20⟩
    unfold F_X10_next
    rw [hc, Option.bind_some, if_neg hne, bJ_ok hN, Option.bind_some, cntN_cg 64 hp, nI_1, ← hrel.1]
    exact hx
