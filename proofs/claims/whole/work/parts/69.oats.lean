-- oats
variable {g : FD} {P : PD} {σ σ' : Mem}
def w1B (W1 W2 : Nat) (fl : Bool) (a b : Nat) : Bool := decide (W2 + 5 * b < W1 + 5 * a) || (decide (W1 + 5 * a = W2 + 5 * b) && fl)
def g1 (W1 W2 : Nat) (fl : Bool) (a b : Nat) : Int32 := if w1B W1 W2 fl a b then (6 : Int32) - nI a else (0 : Int32) - nI a
def g2 (W1 W2 : Nat) (fl : Bool) (a b : Nat) : Int32 := if w1B W1 W2 fl a b then (0 : Int32) - nI b else (6 : Int32) - nI b
def okR (W1 W2 : Nat) (fl : Bool) (a b t : Nat) : Bool := !decide (g1 W1 W2 fl a b < g1 W1 W2 fl t b) && decide (g2 W1 W2 fl a t ≤ g2 W1 W2 fl a b)
def reB (W1 W2 : Nat) (fl : Bool) (a b : Nat) : Bool := alB2 (okR W1 W2 fl a b) 6
theorem dif {W1 W2 a b : Nat} : ((nI W1 + ((5 : Int32) * nI a)) - nI W2) - ((5 : Int32) * nI b) = nI (W1 + 5 * a) - nI (W2 + 5 * b) := by
  rw [show (5 : Int32) = nI 5 from rfl, pk_mul, pk_mul, nI_add, ← nI_add W2 (5 * b), Int32.sub_sub]
theorem ow_ok {W1 W2 a b : Nat} {fl : Bool} (h1 : W1 ≤ 81) (h2 : W2 ≤ 81) (ha : a ≤ 5) (hb : b ≤ 5) (e9 : σ.1 9 = nI W1) (e10 : σ.1 10 = nI W2) (e11 : σ.1 11 = bI fl) : F_X1_oneWins (nI a) (nI b) σ = some (bI (w1B W1 W2 fl a b)) := by
  unfold F_X1_oneWins
  rw [e9, e10, e11, dif, show (0 : Int32) = nI 0 from rfl]
  simp (disch := omega) only [s_pos, s_zero]
  unfold w1B
  by_cases c1 : W2 + 5 * b < W1 + 5 * a
  · rw [if_pos c1, decide_eq_true c1]; rfl
  · rw [if_neg c1, decide_eq_false c1, Bool.false_or]
    by_cases c2 : W1 + 5 * a = W2 + 5 * b
    · rw [if_pos c2, decide_eq_true c2]; cases fl <;> rfl
    · rw [if_neg c2, decide_eq_false c2]; rfl
theorem ir_ok {W1 W2 a b : Nat} {fl : Bool} (h1 : W1 ≤ 81) (h2 : W2 ≤ 81) (ha : a ≤ 5) (hb : b ≤ 5) (e9 : σ.1 9 = nI W1) (e10 : σ.1 10 = nI W2) (e11 : σ.1 11 = bI fl) : F_X1_isRest (nI a) (nI b) σ = some (bI (reB W1 W2 fl a b)) := by
  have hg1 : ∀ x y, x ≤ 5 → y ≤ 5 → F_X1_gainOfOne (nI x) (nI y) σ = some (g1 W1 W2 fl x y) := fun x y hx hy => by
    unfold F_X1_gainOfOne g1
    rw [ow_ok h1 h2 hx hy e9 e10 e11, Option.bind_some]
    cases w1B W1 W2 fl x y <;> rfl
  have hg2 : ∀ x y, x ≤ 5 → y ≤ 5 → F_X1_gainOfOther (nI x) (nI y) σ = some (g2 W1 W2 fl x y) := fun x y hx hy => by
    unfold F_X1_gainOfOther g2
    rw [ow_ok h1 h2 hx hy e9 e10 e11, Option.bind_some]
    cases w1B W1 W2 fl x y <;> rfl
  unfold F_X1_isRest
  refine lp (fun n (_ : Unit) i => F_X1_isRest_b2 σ n (nI a) (nI b) (nI i)) (fun o => o = some (bI (reB W1 W2 fl a b))) 6 (fun i _ => ∀ j, j < i → okR W1 W2 fl a b j = true) ?_ ?_ 6 0 () 4000 (by omega) (by omega) (by omega) (fun j hj => absurd hj (Nat.not_lt_zero _))
  · intro n _ hp
    simp only [F_X1_isRest_b2]
    rw [if_pos (show (5 : Int32) < nI 6 by decide)]
    unfold reB
    rw [al_t _ hp]; rfl
  · intro n _ i hi hp
    have hE : F_X1_isRest_b2 σ (n + 1) (nI a) (nI b) (nI i) = (if g1 W1 W2 fl a b < g1 W1 W2 fl i b then some 0 else if g2 W1 W2 fl a i ≤ g2 W1 W2 fl a b then F_X1_isRest_b2 σ n (nI a) (nI b) (nI (i + 1)) else some 0) := by
      simp only [F_X1_isRest_b2]
      rw [if_neg (show ¬ (5 : Int32) < nI i from nI_nlt (a := 5) (by omega) (by omega)), hg1 _ _ (by omega) hb, Option.bind_some, hg1 _ _ ha hb, Option.bind_some, hg2 _ _ ha (by omega), Option.bind_some, hg2 _ _ ha hb, Option.bind_some, nI_1]
    by_cases c1 : g1 W1 W2 fl a b < g1 W1 W2 fl i b
    · refine .inl ?_
      show F_X1_isRest_b2 σ (n + 1) (nI a) (nI b) (nI i) = _
      unfold reB
      rw [al_f (i := i) (by unfold okR; rw [decide_eq_true c1]; rfl) _ hi, hE, if_pos c1]; rfl
    · by_cases c2 : g2 W1 W2 fl a i ≤ g2 W1 W2 fl a b
      · refine .inr ⟨(), fun j hj => ?_, ?_⟩
        · by_cases ej : j = i
          · rw [ej]; unfold okR; rw [decide_eq_false c1, decide_eq_true c2]; rfl
          · exact hp j (by omega)
        · rw [hE, if_neg c1, if_pos c2]
      · refine .inl ?_
        show F_X1_isRest_b2 σ (n + 1) (nI a) (nI b) (nI i) = _
        unfold reB
        rw [al_f (i := i) (by unfold okR; rw [decide_eq_false c2, Bool.and_false]) _ hi, hE, if_neg c1, if_neg c2]; rfl
def stp (W1 W2 : Nat) (fl : Bool) (s : Nat × Int32) (a b : Nat) : Nat × Int32 := if reB W1 W2 fl a b then (s.1 + 1, if s.1 = 0 then nI (10 * a + b) else s.2) else s
def inn (W1 W2 : Nat) (fl : Bool) (s : Nat × Int32) (a : Nat) : Nat → Nat × Int32
  | 0 => s
  | b + 1 => stp W1 W2 fl (inn W1 W2 fl s a b) a b
def out (W1 W2 : Nat) (fl : Bool) : Nat → Nat × Int32
  | 0 => (0, -9)
  | a + 1 => inn W1 W2 fl (out W1 W2 fl a) a 6
theorem inn_le (W1 W2 : Nat) (fl : Bool) (s : Nat × Int32) (a : Nat) : ∀ n, (inn W1 W2 fl s a n).1 ≤ s.1 + n
  | 0 => Nat.le_refl _
  | n + 1 => by
    have ih := inn_le W1 W2 fl s a n
    show (stp W1 W2 fl (inn W1 W2 fl s a n) a n).1 ≤ _
    unfold stp
    split
    · show _ + 1 ≤ _; omega
    · omega
theorem out_le (W1 W2 : Nat) (fl : Bool) : ∀ n, (out W1 W2 fl n).1 ≤ 6 * n
  | 0 => Nat.le_refl _
  | n + 1 => by
    have ih := out_le W1 W2 fl n
    have h := inn_le W1 W2 fl (out W1 W2 fl n) n 6
    show (inn W1 W2 fl (out W1 W2 fl n) n 6).1 ≤ _
    omega
def oI (n : Nat) : Bool := !(9 ≤ n && n < 14)
def oI2 (n : Nat) : Bool := !(12 ≤ n && n < 14)
theorem xo_in {W1 W2 a : Nat} {fl : Bool} {s : Nat × Int32} (h1 : W1 ≤ 81) (h2 : W2 ≤ 81) (ha : a ≤ 5) (hs : s.1 ≤ 100) (e9 : σ.1 9 = nI W1) (e10 : σ.1 10 = nI W2) (e11 : σ.1 11 = bI fl) (e12 : σ.1 12 = nI s.1) (e13 : σ.1 13 = s.2) (kL : Int32 → Mem → Option Mem) : ∃ σ', F_X1_findRests_b38 kL 4000 (nI a) (nI 0) σ = kL (nI (a + 1)) σ' ∧ Fq oI2 (fun _ => true) true σ σ' ∧ σ'.1 12 = nI (inn W1 W2 fl s a 6).1 ∧ σ'.1 13 = (inn W1 W2 fl s a 6).2 := by
  refine lp (fun n (m : Mem) i => F_X1_findRests_b38 kL n (nI a) (nI i) m) (fun o => ∃ σ', o = kL (nI (a + 1)) σ' ∧ Fq oI2 (fun _ => true) true σ σ' ∧ σ'.1 12 = nI (inn W1 W2 fl s a 6).1 ∧ σ'.1 13 = (inn W1 W2 fl s a 6).2) 6 (fun i m => Fq oI2 (fun _ => true) true σ m ∧ m.1 12 = nI (inn W1 W2 fl s a i).1 ∧ m.1 13 = (inn W1 W2 fl s a i).2) ?_ ?_ 6 0 σ 4000 (by omega) (by omega) (by omega) ⟨Fq_r σ, e12, e13⟩
  · intro n m ⟨p1, p2, p3⟩
    simp only [F_X1_findRests_b38]
    rw [if_pos (show (5 : Int32) < nI 6 by decide), nI_1]
    exact ⟨m, rfl, p1, p2, p3⟩
  · intro n m i hi ⟨p1, p2, p3⟩
    have hl := inn_le W1 W2 fl s a i
    have hr := ir_ok (σ := m) (a := a) (b := i) (fl := fl) h1 h2 ha (by omega) (by rw [p1.1 9 rfl]; exact e9) (by rw [p1.1 10 rfl]; exact e10) (by rw [p1.1 11 rfl]; exact e11)
    have es : inn W1 W2 fl s a (i + 1) = stp W1 W2 fl (inn W1 W2 fl s a i) a i := rfl
    rw [es]
    generalize inn W1 W2 fl s a i = q at *
    have hE : F_X1_findRests_b38 kL (n + 1) (nI a) (nI i) m = (if bI (reB W1 W2 fl a i) = 0 then F_X1_findRests_b38 kL n (nI a) (nI (i + 1)) m else if nI q.1 = 0 then F_X1_findRests_b38 kL n (nI a) (nI (i + 1)) (sI (sI m 13 (nI (10 * a + i))) 12 (nI (q.1 + 1))) else F_X1_findRests_b38 kL n (nI a) (nI (i + 1)) (sI (sI m 13 q.2) 12 (nI (q.1 + 1)))) := by
      simp only [F_X1_findRests_b38, stI, Option.bind_some]
      rw [if_neg (show ¬ (5 : Int32) < nI i from nI_nlt (a := 5) (by omega) (by omega)), hr, Option.bind_some, nI_1, p2, p3, show (10 : Int32) = nI 10 from rfl, pk_mul, nI_add, show (sI m 13 (nI (10 * a + i))).1 12 = nI q.1 from p2, show (sI m 13 q.2).1 12 = nI q.1 from p2, nI_1]
    unfold stp
    by_cases c1 : reB W1 W2 fl a i = true
    · rw [if_pos c1]
      by_cases c2 : q.1 = 0
      · refine .inr ⟨sI (sI m 13 (nI (10 * a + i))) 12 (nI (q.1 + 1)), ⟨Fq_sI (Fq_sI p1), rfl, by rw [if_pos c2]; rfl⟩, ?_⟩
        rw [hE, c1, if_neg (by decide), if_pos (by rw [c2]; rfl)]
      · refine .inr ⟨sI (sI m 13 q.2) 12 (nI (q.1 + 1)), ⟨Fq_sI (Fq_sI p1), rfl, by rw [if_neg c2]; rfl⟩, ?_⟩
        rw [hE, c1, if_neg (by decide), if_neg (nI_ne0 (by omega) (by omega))]
    · rw [if_neg c1]
      rw [Bool.not_eq_true] at c1
      refine .inr ⟨m, ⟨p1, p2, p3⟩, ?_⟩
      rw [hE, c1, if_pos (show bI false = 0 from rfl)]
theorem xo_out {W1 W2 : Nat} {fl : Bool} (h1 : W1 ≤ 81) (h2 : W2 ≤ 81) : ∃ σ', F_X1_findRests (nI W1) (nI W2) (bI fl) σ = some σ' ∧ Fq oI (fun _ => true) true σ σ' ∧ σ'.1 12 = nI (out W1 W2 fl 6).1 ∧ σ'.1 13 = (out W1 W2 fl 6).2 := by
  have hb : bz (bI fl) = some (bI fl) := by cases fl <;> rfl
  unfold F_X1_findRests
  simp only [stI, Option.bind_some]
  rw [hb, Option.bind_some]
  have F0 : Fq oI (fun _ => true) true σ (sI (sI (sI (sI (sI σ 9 (nI W1)) 10 (nI W2)) 11 (bI fl)) 12 0) 13 (-9)) := Fq_sI (Fq_sI (Fq_sI (Fq_sI (Fq_sI (Fq_r σ)))))
  have q9 : (sI (sI (sI (sI (sI σ 9 (nI W1)) 10 (nI W2)) 11 (bI fl)) 12 0) 13 (-9)).1 9 = nI W1 := rfl
  have q10 : (sI (sI (sI (sI (sI σ 9 (nI W1)) 10 (nI W2)) 11 (bI fl)) 12 0) 13 (-9)).1 10 = nI W2 := rfl
  have q11 : (sI (sI (sI (sI (sI σ 9 (nI W1)) 10 (nI W2)) 11 (bI fl)) 12 0) 13 (-9)).1 11 = bI fl := rfl
  have q12 : (sI (sI (sI (sI (sI σ 9 (nI W1)) 10 (nI W2)) 11 (bI fl)) 12 0) 13 (-9)).1 12 = nI 0 := rfl
  have q13 : (sI (sI (sI (sI (sI σ 9 (nI W1)) 10 (nI W2)) 11 (bI fl)) 12 0) 13 (-9)).1 13 = -9 := rfl
  generalize sI (sI (sI (sI (sI σ 9 (nI W1)) 10 (nI W2)) 11 (bI fl)) 12 0) 13 (-9) = τ at *
  refine lp (fun n (m : Mem) i => F_X1_findRests_b29 n (nI i) m) (fun o => ∃ σ', o = some σ' ∧ Fq oI (fun _ => true) true σ σ' ∧ σ'.1 12 = nI (out W1 W2 fl 6).1 ∧ σ'.1 13 = (out W1 W2 fl 6).2) 6 (fun i m => Fq oI (fun _ => true) true σ m ∧ Fq oI2 (fun _ => true) true τ m ∧ m.1 12 = nI (out W1 W2 fl i).1 ∧ m.1 13 = (out W1 W2 fl i).2) ?_ ?_ 6 0 τ 4000 (by omega) (by omega) (by omega) ⟨F0, Fq_r τ, q12, q13⟩
  · intro n m ⟨p0, p1, p2, p3⟩
    simp only [F_X1_findRests_b29]
    rw [if_pos (show (5 : Int32) < nI 6 by decide)]
    exact ⟨m, rfl, p0, p2, p3⟩
  · intro n m i hi ⟨p0, p1, p2, p3⟩
    have hl := out_le W1 W2 fl i
    obtain ⟨σ3, z1, z2, z3, z4⟩ := xo_in (σ := m) (a := i) (fl := fl) (s := out W1 W2 fl i) h1 h2 (by omega) (by omega) (by rw [p1.1 9 rfl]; exact q9) (by rw [p1.1 10 rfl]; exact q10) (by rw [p1.1 11 rfl]; exact q11) p2 p3 (F_X1_findRests_b29 n)
    refine .inr ⟨σ3, ⟨Fq_t p0 (Fq_w z2 (fun n h => by simp [oI, oI2] at h ⊢; omega) (fun _ h => h) (fun h => h)), Fq_t p1 z2, z3, z4⟩, ?_⟩
    simp only [F_X1_findRests_b29]
    rw [if_neg (show ¬ (5 : Int32) < nI i from nI_nlt (a := 5) (by omega) (by omega))]
    exact z1
