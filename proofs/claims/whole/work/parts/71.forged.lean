-- forged
variable {g : FD} {P : PD} {σ σ' : Mem}
def dgs (f t : Nat) : Nat := if t = 0 then f / 100 else if t = 1 then f / 10 % 10 else f % 10
def dsum (f : Nat) : Nat := f / 100 + f / 10 % 10 + f % 10
def xF (r f i : Nat) : Nat := if i = 3 * r then f / 100 else if i = 3 * r + 1 then f / 10 % 10 else if i = 3 * r + 2 then f % 10 else 0
def allM (g : FD) : Int32 := ((1 : Int32) <<< (nI g.2.1 &&& 31)) - 1
def fitB (g : FD) (P : PD) (r f : Nat) : Bool := decide (sP g P r 0 + f / 100 ≤ 9) && (decide (sP g P r 1 + f / 10 % 10 ≤ 9) && decide (sP g P r 2 + f % 10 ≤ 9))
def hasB (g : FD) (P : PD) (r h f : Nat) : Bool := decide ((hR g (bt (allM g)) (Wo g (sh g P.2.1 (xF r f))) 20).1 r = h)
def foS (g : FD) (P : PD) (r h : Nat) : Nat → Nat × Nat
  | 0 => (1000, 28)
  | f + 1 => if (foS g P r h f).2 ≤ dsum f then foS g P r h f else if fitB g P r f && hasB g P r h f then (f, dsum f) else foS g P r h f
theorem hR_en {A : Nat → Bool} {W : Nat → Nat → Nat} (hg : okG g) {r : Nat} : ∀ k, (hR g A W k).1 r = 9 ∨ enB g W ((hR g A W k).1 r) r = true
  | 0 => .inl rfl
  | k + 1 => by
    have ih := hR_en (A := A) (W := W) hg (r := r) k
    have hg2 := hg.2.1
    show (stR g A W (hR g A W k)).1 r = 9 ∨ enB g W ((stR g A W (hR g A W k)).1 r) r = true
    unfold stR
    by_cases i1 : lf (pR g A (hR g A W k)) g.2.1 = 9
    · rw [if_pos i1]; exact ih
    · rw [if_neg i1]
      generalize lf (pR g A (hR g A W k)) g.2.1 = q at *
      generalize prf g q ((hR g A W k).2 q) = h
      show leadW g W _ q h r = 9 ∨ enB g W (leadW g W _ q h r) r = true
      unfold leadW
      by_cases c : leadB g W (hR g A W k).1 q h = true
      · rw [if_pos c]
        have ce : enB g W h q = true := by
          unfold leadB at c
          rw [Bool.and_eq_true] at c
          exact c.1
        by_cases er : r = q
        · subst er
          refine .inr ?_
          split
          · unfold upN; rw [if_pos rfl]; exact ce
          · unfold upN; rw [if_pos rfl]; exact ce
        · split
          · unfold upN
            rw [if_neg er]
            split
            · exact .inl rfl
            · exact ih
          · unfold upN; rw [if_neg er]; exact ih
      · rw [if_neg c]; exact ih
theorem sh_r (hP : okP g P) {r t f : Nat} (hr : r < g.2.1) (ht : t < 3) (hf : sP g P r t + dgs f t ≤ 9) : sh g P.2.1 (xF r f) r t = sP g P r t + dgs f t := by
  have h3 := hP.2.2 r t hr ht
  have q : sP g P r t = g.2.2 (7 + t) r + P.2.1 (3 * r + t) := by
    show min 9 (g.2.2 (7 + t) r + P.2.1 (3 * r + t) + 0) = _
    omega
  have e : xF r f (3 * r + t) = dgs f t := by
    unfold xF dgs
    rcases t with _|_|_|t
    · rw [if_pos (by omega), if_pos rfl]
    · rw [if_neg (by omega), if_pos (by omega), if_neg (by omega), if_pos (by omega)]
    · rw [if_neg (by omega), if_neg (by omega), if_pos (by omega), if_neg (by omega), if_neg (by omega)]
    · omega
  show min 9 (g.2.2 (7 + t) r + P.2.1 (3 * r + t) + xF r f (3 * r + t)) = _
  rw [e]; omega
theorem sh_o {r t f q : Nat} (hq : q ≠ r) (ht : t < 3) : sh g P.2.1 (xF r f) q t = sP g P q t := by
  have e : xF r f (3 * q + t) = 0 := by
    unfold xF
    rw [if_neg (by omega), if_neg (by omega), if_neg (by omega)]
  show min 9 (g.2.2 (7 + t) q + P.2.1 (3 * q + t) + xF r f (3 * q + t)) = min 9 (g.2.2 (7 + t) q + P.2.1 (3 * q + t) + 0)
  rw [e]
def foA (n : Nat) : Bool := n != 12 && n != 32 && n != 13
theorem fdiv {f : Nat} (hf : f < 1000) : nI f / (100 : Int32) = nI (f / 100) ∧ (nI f / (10 : Int32)) - (nI f / (10 : Int32)) / (10 : Int32) * (10 : Int32) = nI (f / 10 % 10) ∧ nI f - nI f / (10 : Int32) * (10 : Int32) = nI (f % 10) := by
  rw [show (100 : Int32) = nI 100 from rfl, show (10 : Int32) = nI 10 from rfl]
  refine ⟨pk_div (by omega) (by omega) (by omega), ?_, pk_rem (by omega) (by omega) (by omega)⟩
  rw [pk_div (a := f) (by omega) (by omega) (by omega), pk_rem (by omega) (by omega) (by omega)]
theorem xfo_1 (c : CF g σ) (hg : okG g) (hP : okP g P) (e : CP 0 P σ) {r h f : Nat} (hr : r < g.2.1) (hh : h < g.1) (hf : f < 1000) (ht : ∀ x q, x < g.1 → q < g.2.1 → q ≠ r → σ.2.1 12 (5 * x + q) = nI (Wo g (sP g P) x q)) : ∃ σ', F_X10_hasWhenForged (nI r) (nI h) (nI f) σ = some (bI (fitB g P r f && hasB g P r h f), σ') ∧ Fq (fun _ => true) foA true σ σ' ∧ ∀ x q, x < g.1 → q < g.2.1 → q ≠ r → σ'.2.1 12 (5 * x + q) = nI (Wo g (sP g P) x q) := by
  have hg1 := hg.1
  have hg2 := hg.2.1
  have s0 := xs_ok c hg hP e hr (t := 0) (by omega)
  have s1 := xs_ok c hg hP e hr (t := 1) (by omega)
  have s2 := xs_ok c hg hP e hr (t := 2) (by omega)
  have b0 := hP.2.2 r 0 hr (by omega)
  have b1 := hP.2.2 r 1 hr (by omega)
  have b2 := hP.2.2 r 2 hr (by omega)
  have hd := fdiv hf
  unfold F_X10_hasWhenForged
  rw [hd.1, hd.2.1, hd.2.2, show F_X10_shown (nI r) 0 σ = _ from s0.1, Option.bind_some, show F_X10_shown (nI r) 1 σ = _ from s1.1, Option.bind_some, show F_X10_shown (nI r) 2 σ = _ from s2.1, Option.bind_some, nI_add, nI_add, nI_add]
  unfold fitB
  by_cases c0 : sP g P r 0 + f / 100 ≤ 9
  · rw [if_neg (show ¬ (9 : Int32) < nI _ from nI_nlt (a := 9) c0 (by omega)), decide_eq_true c0, Bool.true_and]
    by_cases c1 : sP g P r 1 + f / 10 % 10 ≤ 9
    · rw [if_neg (show ¬ (9 : Int32) < nI _ from nI_nlt (a := 9) c1 (by omega)), decide_eq_true c1, Bool.true_and]
      by_cases c2 : sP g P r 2 + f % 10 ≤ 9
      · rw [if_pos (show nI _ ≤ (9 : Int32) from nI_le (b := 9) c2 (by omega)), decide_eq_true c2, Bool.true_and]
        obtain ⟨σ1, w1, w2, w3, w4⟩ := wR_ok c hg (r := r) (by omega) c0 c1 c2
        have c' := CF_fr c w2
        have t1 : T12 g (sh g P.2.1 (xF r f)) σ1 := fun x q hx hq => by
          by_cases eq : q = r
          · subst eq
            rw [w3 x hx, Wo_e, sh_r hP hr (t := 0) (f := f) (by omega) c0, sh_r hP hr (t := 1) (f := f) (by omega) c1, sh_r hP hr (t := 2) (f := f) (by omega) c2]
            rfl
          · rw [w4 x q (by omega) eq, ht x q hx hq eq, Wo_e, Wo_e, sh_o eq (by omega), sh_o eq (by omega), sh_o eq (by omega)]
        have k1 : ∀ x q, x < g.1 → q < g.2.1 → q ≠ r → σ1.2.1 12 (5 * x + q) = nI (Wo g (sP g P) x q) := fun x q hx hq hne => by rw [w4 x q (by omega) hne]; exact ht x q hx hq hne
        have hen := hR_en (A := bt (allM g)) (W := Wo g (sh g P.2.1 (xF r f))) hg (r := r) 20
        have ok := (hR_ok hg (bt (allM g)) (Wo g (sh g P.2.1 (xF r f))) 20).1
        have hv := okY_v ok (r := r) (by omega)
        rw [w1, Option.bind_some, en_ok t1 c' hg (okS_sh g _ _) hh hr, Option.bind_some]
        unfold hasB
        by_cases ce : enB g (Wo g (sh g P.2.1 (xF r f))) h r = true
        · rw [ce, if_neg (by decide)]
          obtain ⟨σ2, l1, l2, l3⟩ := xhr_ok (x := allM g) c' hg t1 (okS_sh g _ _)
          have ha : F_X3_allRiders σ1 = some (allM g) := by unfold F_X3_allRiders allM; rw [c'.2.1]
          refine ⟨σ2, ?_, Fq_t (Fq_w w2 (fun _ _ => rfl) (fun n h => by simp [foA] at h ⊢; omega) (fun h => h)) (Fq_w l2 (fun _ _ => rfl) (fun n h => by simp [foA, xI] at h ⊢; omega) (fun h => h)), by rw [l2.2.1 12 rfl]; exact k1⟩
          rw [ha, Option.bind_some, l1, Option.bind_some, hof_ok (by omega) l3 (by omega), Option.bind_some]
          by_cases ch : (hR g (bt (allM g)) (Wo g (sh g P.2.1 (xF r f))) 20).1 r = h
          · rw [if_pos (by rw [hI_e (by omega) (by omega)]; exact ch), decide_eq_true ch]; rfl
          · rw [if_neg (by rw [hI_e (by omega) (by omega)]; exact ch), decide_eq_false ch]; rfl
        · have ch : ¬ (hR g (bt (allM g)) (Wo g (sh g P.2.1 (xF r f))) 20).1 r = h := fun q => by
            rw [q] at hen
            rcases hen with hen | hen
            · omega
            · exact ce hen
          rw [Bool.not_eq_true] at ce
          rw [ce, decide_eq_false ch]
          exact ⟨σ1, by rw [if_pos (show bI false = 0 from rfl)]; rfl, Fq_w w2 (fun _ _ => rfl) (fun n h => by simp [foA] at h ⊢; omega) (fun h => h), k1⟩
      · rw [if_neg (show ¬ nI _ ≤ (9 : Int32) from nI_ge (a := 9) (by omega) (by omega)), decide_eq_false c2, Bool.false_and]
        exact ⟨σ, rfl, Fq_r σ, ht⟩
    · rw [if_pos (show (9 : Int32) < nI _ from nI_lt (a := 9) (by omega) (by omega)), decide_eq_false c1, Bool.false_and, Bool.false_and]
      exact ⟨σ, rfl, Fq_r σ, ht⟩
  · rw [if_pos (show (9 : Int32) < nI _ from nI_lt (a := 9) (by omega) (by omega)), decide_eq_false c0, Bool.false_and, Bool.false_and]
    exact ⟨σ, rfl, Fq_r σ, ht⟩
theorem foS_b (g : FD) (P : PD) (r h : Nat) : ∀ f, (foS g P r h f).2 ≤ 28 ∧ ((foS g P r h f).1 < f ∨ (foS g P r h f).1 = 1000)
  | 0 => ⟨Nat.le_refl _, .inr rfl⟩
  | f + 1 => by
    have ih := foS_b g P r h f
    simp only [foS]
    split
    · exact ⟨ih.1, by omega⟩
    · split
      · refine ⟨?_, .inl (by show f < f + 1; omega)⟩
        show dsum f ≤ 28
        omega
      · exact ⟨ih.1, by omega⟩
def cI (v : Nat) : Int32 := if v = 1000 then -9 else nI v
theorem xfo (c : CF g σ) (hg : okG g) (hP : okP g P) (e : CP 0 P σ) {r h : Nat} {u : Int32} (hu : u = 0 ∨ u = 1) (hr : r < g.2.1) (hh : h < g.1) (ht : ∀ x q, x < g.1 → q < g.2.1 → q ≠ r → σ.2.1 12 (5 * x + q) = nI (Wo g (sP g P) x q)) : ∃ σ', F_X10_forged_b58 4000 (nI r) (nI h) u (-9) (nI 28) (nI 0) σ = some (if (foS g P r h 1000).1 = 1000 then -9 else if u = 0 then nI (foS g P r h 1000).2 else nI (foS g P r h 1000).1, σ') ∧ Fq (fun _ => true) foA true σ σ' := by
  refine lp (fun n (m : Mem) i => F_X10_forged_b58 n (nI r) (nI h) u (cI (foS g P r h i).1) (nI (foS g P r h i).2) (nI i) m) (fun o => ∃ σ', o = some (if (foS g P r h 1000).1 = 1000 then -9 else if u = 0 then nI (foS g P r h 1000).2 else nI (foS g P r h 1000).1, σ') ∧ Fq (fun _ => true) foA true σ σ') 1000 (fun i m => Fq (fun _ => true) foA true σ m ∧ ∀ x q, x < g.1 → q < g.2.1 → q ≠ r → m.2.1 12 (5 * x + q) = nI (Wo g (sP g P) x q)) ?_ ?_ 1000 0 σ 4000 (by omega) (by omega) (by omega) ⟨Fq_r σ, ht⟩
  · intro n m ⟨p1, p2⟩
    have hb := foS_b g P r h 1000
    generalize foS g P r h 1000 = s at *
    refine ⟨m, ?_, p1⟩
    simp only [F_X10_forged_b58]
    rw [if_pos (show (999 : Int32) < nI 1000 by decide)]
    unfold cI
    by_cases h1 : s.1 = 1000
    · rw [if_pos h1, if_pos rfl, if_pos h1]
    · rw [if_neg h1, if_neg (by rw [nI_n9 (by omega)]; exact id), if_neg h1]
      rcases hu with rfl | rfl
      · rw [if_neg (by decide), if_pos rfl]
      · rw [if_pos rfl, if_neg (by decide)]
  · intro n m i hi ⟨p1, p2⟩
    have hb := foS_b g P r h i
    have hd := fdiv hi
    have c' := CF_fr c p1
    have e' := CP_fr e p1
    obtain ⟨σ2, l1, l2, l3⟩ := xfo_1 c' hg hP e' hr hh hi p2
    have hE : F_X10_forged_b58 (n + 1) (nI r) (nI h) u (cI (foS g P r h i).1) (nI (foS g P r h i).2) (nI i) m = (if nI (foS g P r h i).2 ≤ nI (dsum i) then F_X10_forged_b58 n (nI r) (nI h) u (cI (foS g P r h i).1) (nI (foS g P r h i).2) (nI (i + 1)) m else if bI (fitB g P r i && hasB g P r h i) = 0 then F_X10_forged_b58 n (nI r) (nI h) u (cI (foS g P r h i).1) (nI (foS g P r h i).2) (nI (i + 1)) σ2 else F_X10_forged_b58 n (nI r) (nI h) u (nI i) (nI (dsum i)) (nI (i + 1)) σ2) := by
      simp only [F_X10_forged_b58]
      rw [if_neg (show ¬ (999 : Int32) < nI i from nI_nlt (a := 999) (by omega) (by omega)), hd.1, hd.2.1, hd.2.2, nI_add, nI_add, l1, Option.bind_some, nI_1]
      rfl
    have es : foS g P r h (i + 1) = (if (foS g P r h i).2 ≤ dsum i then foS g P r h i else if fitB g P r i && hasB g P r h i then (i, dsum i) else foS g P r h i) := rfl
    have hds : dsum i ≤ 27 := by unfold dsum; omega
    by_cases c1 : (foS g P r h i).2 ≤ dsum i
    · refine .inr ⟨m, ⟨p1, p2⟩, ?_⟩
      rw [if_pos c1] at es
      rw [hE, if_pos (nI_le c1 (by omega)), es]
    · refine .inr ⟨σ2, ⟨Fq_t p1 l2, l3⟩, ?_⟩
      rw [if_neg c1] at es
      rw [hE, if_neg (nI_ge (by omega) (by omega)), es]
      by_cases c2 : (fitB g P r i && hasB g P r h i) = true
      · rw [c2, if_neg (by decide), if_pos rfl]
        show _ = F_X10_forged_b58 n (nI r) (nI h) u (cI i) (nI (dsum i)) (nI (i + 1)) σ2
        unfold cI
        rw [if_neg (by omega)]
      · rw [Bool.not_eq_true] at c2
        rw [c2, if_pos (show bI false = 0 from rfl), if_neg (by decide)]
