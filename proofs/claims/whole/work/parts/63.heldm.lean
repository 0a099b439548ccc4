-- held by riders: the reference
variable {g : FD} {P : PD} {σ σ' : Mem}
theorem no_ok (d : MF g σ) (hg : okG g) {r : Nat} {A : Nat → Bool} (hr : r < g.2.1) (hb : ∀ h, h < g.1 → bt (σ.1 29) (4 * r + h) = !A h) : F_X11_nextOf (nI r) σ = some (hI (bsA g r A g.1)) := by
  have := hg.1
  have hg2 := hg.2.1
  unfold F_X11_nextOf
  refine lpD (fun k (b : Nat) i => F_X11_nextOf_b5 σ k (nI r) (hI b) (nI i)) g.1 (fun i => bsA g r A i) _ ?_ ?_ 4000 (by omega)
  · intro k
    simp only [F_X11_nextOf_b5]
    rw [d.1, if_pos (nI_le (Nat.le_refl _) (by omega))]
  · intro k i hi
    have h1 := bsA_sp g r A i (by omega)
    simp only [F_X11_nextOf_b5]
    rw [d.1, if_neg (nI_ge hi (by omega)), show (4 : Int32) = nI 4 from rfl, pk_mul, nI_add, isin_ok _ (by omega), hb i hi, Option.bind_some, nI_1]
    simp only [bsA]
    by_cases e0 : A i = true
    · rw [e0, if_pos (show bI (!true) = 0 from rfl), ml_ok d hg hr hi (by omega), Option.bind_some, Bool.true_and]
      by_cases e : rlO g r i (bsA g r A i) = true
      · rw [e, if_neg (by decide), if_pos rfl, hI_n (w := i) (by omega)]
      · rw [Bool.not_eq_true] at e; rw [e, if_pos (show bI false = 0 from rfl)]; rfl
    · rw [Bool.not_eq_true] at e0
      rw [e0, if_neg (by decide)]; rfl
def yI (n : Nat) : Bool := n != 29
def yA (n : Nat) : Bool := n != 63
theorem md_y {d x : Nat → Nat} (e : MD d x σ) (f : Fq yI yA true σ σ') : MD d x σ' := by
  unfold MD; rw [f.2.1 58 rfl, f.2.1 66 rfl]; exact e
theorem bg_ok : ∃ σ', F_X11_begin σ = some σ' ∧ Fq yI yA true σ σ' ∧ MW 63 (fun _ => 9) σ' ∧ σ'.1 29 = 0 := by
  unfold F_X11_begin
  refine lp (fun n (s : Mem) i => F_X11_begin_b2 n (nI i) s) (fun o => ∃ σ', o = some σ' ∧ Fq yI yA true σ σ' ∧ MW 63 (fun _ => 9) σ' ∧ σ'.1 29 = 0) 5 (fun i s => Fq yI yA true σ s ∧ ∀ j, j < i → s.2.1 63 j = hI 9) ?_ ?_ 5 0 σ 4000 (by omega) (by omega) (by omega) ⟨Fq_r σ, fun j hj => absurd hj (Nat.not_lt_zero _)⟩
  · intro n s ⟨p1, p2⟩
    simp only [F_X11_begin_b2]
    rw [if_pos (show (5 : Int32) ≤ nI 5 from Int32.le_refl _)]
    exact ⟨sI s 29 0, rfl, Fq_sI p1, p2, rfl⟩
  · intro n s i hi ⟨p1, p2⟩
    refine .inr ⟨sA s 63 i (-9), ⟨Fq_sA p1, fun j hj => ?_⟩, ?_⟩
    · rw [sA_2, if_pos rfl, upd_ap]
      by_cases ej : j = i
      · rw [if_pos ej]; rfl
      · rw [if_neg ej]; exact p2 j (by omega)
    · simp only [F_X11_begin_b2]
      rw [if_neg (show ¬ (5 : Int32) ≤ nI i from nI_ge (b := 5) hi (by omega)), wr_63 hi, Option.bind_some, nI_1]
def ldB (g : FD) (l : Nat → Nat) (b : Int32) : Prop := ∀ r h, r < g.2.1 → h < g.1 → bt b (4 * r + h) = decide (rk g r h < l r)
theorem mhr_it {x : Int32} {d xx : Nat → Nat} (m : MF g σ) (hg : okG g) (e0 : MD d xx σ) : ∀ n k x2 (s : Mem), (20 - k) * 6 + (6 - x2) ≤ n → k ≤ 20 → x2 ≤ g.2.1 → Fq yI yA true σ s → MW 63 (hR g (bt x) (Wo g (sh g d xx)) k).1 s → ldB g (hR g (bt x) (Wo g (sh g d xx)) k).2 (s.1 29) → (∀ r, r < x2 → pR g (bt x) (hR g (bt x) (Wo g (sh g d xx)) k) r = false) → ∃ s', F_X11_holdByRiders_b6 n x (nI x2) s = some s' ∧ Fq yI yA true σ s' ∧ MW 63 (hR g (bt x) (Wo g (sh g d xx)) 20).1 s'
  | 0, k, x2, s, hn, _, hx, _, _, _, _ => by have := hg.2.1; omega
  | n + 1, k, x2, s, hn, hk, hx, p1, p2, p3, p4 => by
    have hg1 := hg.1
    have hg2 := hg.2.1
    have m' := MF_fr m p1
    have e' := md_y e0 p1
    have ok := hR_ok hg (bt x) (Wo g (sh g d xx)) k
    by_cases hx2 : x2 = g.2.1
    · subst hx2
      refine ⟨s, ?_, p1, ?_⟩
      · simp only [F_X11_holdByRiders_b6]
        rw [m'.2.1, if_pos (nI_le (Nat.le_refl _) (by omega))]
      · rw [hR_stop hg hk (lf_n _ p4)]; exact p2
    · have hlt : x2 < g.2.1 := by omega
      have hwi := okY_v ok.1 (r := x2) (by omega)
      have hli := ok.2 x2
      have next : pR g (bt x) (hR g (bt x) (Wo g (sh g d xx)) k) x2 = false → F_X11_holdByRiders_b6 (n + 1) x (nI x2) s = F_X11_holdByRiders_b6 n x (nI (x2 + 1)) s → ∃ s', F_X11_holdByRiders_b6 (n + 1) x (nI x2) s = some s' ∧ Fq yI yA true σ s' ∧ MW 63 (hR g (bt x) (Wo g (sh g d xx)) 20).1 s' := fun h1 h2 => by
        rw [h2]
        exact mhr_it m hg e0 n k (x2 + 1) s (by omega) hk hlt p1 p2 p3 (fun r hr => by
          by_cases e : r = x2
          · rw [e]; exact h1
          · exact p4 r (by omega))
      have hno := no_ok (A := fun h => decide ((hR g (bt x) (Wo g (sh g d xx)) k).2 x2 ≤ rk g x2 h)) m' hg hlt (fun h hh => by
        rw [p3 x2 h hlt hh, ← decide_not]; congr 1; apply propext; omega)
      by_cases e1 : bt x x2 = true
      · by_cases e2 : (hR g (bt x) (Wo g (sh g d xx)) k).1 x2 = 9
        · by_cases e3 : (hR g (bt x) (Wo g (sh g d xx)) k).2 x2 < g.1
          · have e4 : pR g (bt x) (hR g (bt x) (Wo g (sh g d xx)) k) x2 = true := by unfold pR; rw [e1, decide_eq_true e2, decide_eq_true e3]; rfl
            have e5 := lf_s p4 e4 (by omega) _ hlt
            have hk20 : k ≠ 20 := fun q => by
              have := hR_end hg (bt x) (Wo g (sh g d xx))
              rw [← q, e5] at this; omega
            have es : hR g (bt x) (Wo g (sh g d xx)) (k + 1) = (leadW g (Wo g (sh g d xx)) (hR g (bt x) (Wo g (sh g d xx)) k).1 x2 (prf g x2 ((hR g (bt x) (Wo g (sh g d xx)) k).2 x2)), upN (hR g (bt x) (Wo g (sh g d xx)) k).2 x2 ((hR g (bt x) (Wo g (sh g d xx)) k).2 x2 + 1)) := by
              show stR g _ _ _ = _
              unfold stR; rw [e5, if_neg (by omega)]
            have hp := prf_ok hg (r := x2) e3
            have F1 : Fq yI yA true s (sI s 29 (s.1 29 ||| ((1 : Int32) <<< (nI (4 * x2 + prf g x2 ((hR g (bt x) (Wo g (sh g d xx)) k).2 x2)) &&& 31)))) := Fq_sI (Fq_r s)
            have m2 := MF_fr m' F1
            have w2 : MW 63 (hR g (bt x) (Wo g (sh g d xx)) k).1 (sI s 29 (s.1 29 ||| ((1 : Int32) <<< (nI (4 * x2 + prf g x2 ((hR g (bt x) (Wo g (sh g d xx)) k).2 x2)) &&& 31)))) := p2
            obtain ⟨s3, g1, g2, g3, g4⟩ := go_ok (n := 63) (by decide) m2 hg w2 ok.1 (md_y e' F1) hlt hp.1
            have hE : F_X11_holdByRiders_b6 (n + 1) x (nI x2) s = F_X11_holdByRiders_b6 n x (nI 0) s3 := by
              simp only [F_X11_holdByRiders_b6]
              rw [m'.2.1, if_neg (nI_ge hlt (by omega)), isin_ok x (by omega), e1, Option.bind_some, if_neg (by decide), rd_63 (by omega), p2 x2 (by omega), Option.bind_some, if_pos (by rw [e2]; rfl), hno, Option.bind_some]
              unfold F_X11_holdByRiders_b43
              rw [show bsA g x2 (fun h => decide ((hR g (bt x) (Wo g (sh g d xx)) k).2 x2 ≤ rk g x2 h)) g.1 = prf g x2 ((hR g (bt x) (Wo g (sh g d xx)) k).2 x2) from rfl, hI_n (by omega), if_neg (by rw [nI_n9 (by omega)]; exact id), show (4 : Int32) = nI 4 from rfl, pk_mul, nI_add, show stI s 29 (s.1 29 ||| ((1 : Int32) <<< (nI (4 * x2 + prf g x2 ((hR g (bt x) (Wo g (sh g d xx)) k).2 x2)) &&& 31))) = some (sI s 29 (s.1 29 ||| ((1 : Int32) <<< (nI (4 * x2 + prf g x2 ((hR g (bt x) (Wo g (sh g d xx)) k).2 x2)) &&& 31)))) from rfl, Option.bind_some, g1, Option.bind_some]
              rfl
            rw [hE]
            refine mhr_it m hg e0 n (k + 1) 0 s3 (by omega) (by omega) (by omega) (Fq_t p1 (Fq_t F1 (Fq_w g2 (fun _ _ => rfl) (fun n h => h) (fun h => h)))) (by rw [es]; exact g4) ?_ (fun r hr => absurd hr (Nat.not_lt_zero _))
            rw [es]
            intro r h hr hh
            rw [g2.1 29 rfl, sI_1, if_pos rfl, or_bt _ (by omega) (by omega), p3 r h hr hh]
            show _ = decide (rk g r h < upN _ _ _ r)
            unfold upN
            by_cases er : r = x2
            · subst er
              rw [if_pos rfl]
              by_cases eh : h = prf g r ((hR g (bt x) (Wo g (sh g d xx)) k).2 r)
              · rw [eh, hp.2, decide_eq_true rfl, Bool.or_true, decide_eq_true (by omega)]
              · have hne : rk g r h ≠ (hR g (bt x) (Wo g (sh g d xx)) k).2 r := fun q => eh (rk_inj hh hp.1 (by rw [hp.2]; exact q))
                rw [decide_eq_false (show ¬ (4 * r + h = 4 * r + prf g r ((hR g (bt x) (Wo g (sh g d xx)) k).2 r)) by omega), Bool.or_false]
                congr 1; apply propext; omega
            · rw [if_neg er, show decide (4 * r + h = 4 * x2 + prf g x2 ((hR g (bt x) (Wo g (sh g d xx)) k).2 x2)) = false from decide_eq_false (by omega), Bool.or_false]
          · refine next (by unfold pR; rw [decide_eq_false e3, Bool.and_false, Bool.and_false]) ?_
            have hb9 : bsA g x2 (fun h => decide ((hR g (bt x) (Wo g (sh g d xx)) k).2 x2 ≤ rk g x2 h)) g.1 = 9 := by
              rcases bsA_sp g x2 (fun h => decide ((hR g (bt x) (Wo g (sh g d xx)) k).2 x2 ≤ rk g x2 h)) g.1 (by omega) with ⟨i1, i2⟩ | ⟨i1, i2, i3⟩
              · exact i1
              · exfalso
                have h5 := rk_b (g := g) (r := x2) i1
                have h6 := of_decide_eq_true i2
                omega
            simp only [F_X11_holdByRiders_b6]
            rw [m'.2.1, if_neg (nI_ge hlt (by omega)), isin_ok x (by omega), e1, Option.bind_some, if_neg (by decide), rd_63 (by omega), p2 x2 (by omega), Option.bind_some, if_pos (by rw [e2]; rfl), hno, Option.bind_some, hb9]
            unfold F_X11_holdByRiders_b43
            rw [if_pos hI_9, nI_1]
        · refine next (by unfold pR; rw [decide_eq_false e2, Bool.false_and, Bool.and_false]) ?_
          simp only [F_X11_holdByRiders_b6]
          rw [m'.2.1, if_neg (nI_ge hlt (by omega)), isin_ok x (by omega), e1, Option.bind_some, if_neg (by decide), rd_63 (by omega), p2 x2 (by omega), Option.bind_some, if_neg (by rw [hI_m9 (by omega)]; exact e2)]
          unfold F_X11_holdByRiders_b43
          rw [if_pos rfl, nI_1]
      · rw [Bool.not_eq_true] at e1
        refine next (by unfold pR; rw [e1, Bool.false_and]) ?_
        simp only [F_X11_holdByRiders_b6]
        rw [m'.2.1, if_neg (nI_ge hlt (by omega)), isin_ok x (by omega), e1, Option.bind_some, if_pos (show bI false = 0 from rfl)]
        unfold F_X11_holdByRiders_b43
        rw [if_pos rfl, nI_1]
theorem mhr_ok {x : Int32} {d xx : Nat → Nat} (m : MF g σ) (hg : okG g) (e0 : MD d xx σ) : ∃ s', F_X11_holdByRiders x σ = some s' ∧ Fq yI yA true σ s' ∧ MW 63 (hR g (bt x) (Wo g (sh g d xx)) 20).1 s' := by
  obtain ⟨σ1, b1, b2, b3, b4⟩ := bg_ok (σ := σ)
  unfold F_X11_holdByRiders
  rw [b1, Option.bind_some]
  exact mhr_it m hg e0 4000 0 0 σ1 (by omega) (by omega) (by omega) b2 b3 (fun r h _ _ => by rw [b4, b_0]; rfl) (fun r hr => absurd hr (Nat.not_lt_zero _))
-- steps: left, held by riders
theorem Fr_x (f : Fq (fun _ => true) xI true σ σ') : Fr σ σ' := Fq_w f (fun _ _ => rfl) (fun n h => by
  by_cases e1 : n = 32
  · subst e1; cases h
  by_cases e2 : n = 13
  · subst e2; cases h
  simp [xI, e1, e2]) (fun h => h)
theorem Fr_y (f : Fq yI yA true σ σ') : Fr σ σ' := Fq_w f (fun n h => by
  by_cases e1 : n = 29
  · subst e1; cases h
  simp [yI, e1]) (fun n h => by
  by_cases e1 : n = 63
  · subst e1; cases h
  simp [yA, e1]) (fun h => h)
theorem all_eq (c : CF g σ) (m : MF g σ') : F_X3_allRiders σ = some (((1 : Int32) <<< (nI g.2.1 &&& 31)) - 1) ∧ F_X11_all σ' = some (((1 : Int32) <<< (nI g.2.1 &&& 31)) - 1) := by
  unfold F_X3_allRiders F_X11_all
  rw [c.2.1, m.2.1]
  exact ⟨rfl, rfl⟩
theorem xleft {w : Nat → Nat} {k : Nat} (hk : k < 21) (c : CF g σ) (hg : okG g) (hw : okY g w) (h : CW k w σ) (hk2 : k = 17) : F_X10_left_b29 4000 (nI 0) (nI 0) σ = some (nI (bits (fun h => !fuB g w h) g.1), σ) := by
  have hg1 := hg.1
  subst hk2
  refine lpD (fun n (a : Nat) i => F_X10_left_b29 n (nI a) (nI i) σ) g.1 (fun i => bits (fun h => !fuB g w h) i) _ ?_ ?_ 4000 (by omega)
  · intro n
    simp only [F_X10_left_b29]
    rw [c.1, if_pos (nI_le (Nat.le_refl _) (by omega))]
  · intro n i hi
    have hb := bits_lt (fun h => !fuB g w h) i
    have h3 := cntN_le (kpB w i) 5
    have h2 := (hg.2.2.1 i hi).2.1
    simp only [F_X10_left_b29]
    rw [c.1, if_neg (nI_ge hi (by omega)), kc_ok (by omega) h (fun x hx => okW_b hw hg hx) (by omega), Option.bind_some, at_1 (by omega), cf_k c hi, Option.bind_some, nI_1, bits_s]
    have h4 : kc w i ≤ 5 := h3
    by_cases e : g.2.2 0 i ≤ kc w i
    · have e2 : fuB g w i = true := decide_eq_true e
      rw [if_pos (nI_le e (by omega)), e2]; rfl
    · have e2 : fuB g w i = false := decide_eq_false e
      rw [if_neg (nI_ge (by omega) (by omega)), e2, or_bit i (by omega) _ hb]; rfl
theorem mleft {w : Nat → Nat} (m : MF g σ) (hg : okG g) (hw : okY g w) (h : MW 63 w σ) : F_X11_left_b17 4000 (nI 0) (nI 0) σ = some (nI (bits (fun h => !fuB g w h) g.1), σ) := by
  have hg1 := hg.1
  refine lpD (fun n (a : Nat) i => F_X11_left_b17 n (nI a) (nI i) σ) g.1 (fun i => bits (fun h => !fuB g w h) i) _ ?_ ?_ 4000 (by omega)
  · intro n
    simp only [F_X11_left_b17]
    rw [m.1, if_pos (nI_le (Nat.le_refl _) (by omega))]
  · intro n i hi
    have hb := bits_lt (fun h => !fuB g w h) i
    simp only [F_X11_left_b17]
    rw [m.1, if_neg (nI_ge hi (by omega)), fu_ok (by decide) m hg h hw hi, Option.bind_some, nI_1, bits_s]
    by_cases e : fuB g w i = true
    · rw [e, if_neg (by decide), or_0]; rfl
    · rw [Bool.not_eq_true] at e
      rw [e, if_pos (show bI false = 0 from rfl), or_bit i (by omega) _ hb]; rfl
theorem st_left : Step_left Inv := by
  intro σ hI0
  obtain ⟨g, P, R⟩ := id hI0
  obtain ⟨hg, hP, c, d, e, i, j, k, l, m, z⟩ := id R
  obtain ⟨σ1, w1, w2, w3⟩ := weigh0 R
  have R1 := Rel_fr R w2
  obtain ⟨σ2, h1, h2, h3⟩ := xhr_ok (x := ((1 : Int32) <<< (nI g.2.1 &&& 31)) - 1) R1.2.2.1 hg w3 (oS_P g P)
  have R2 := Rel_fr R1 (Fr_x h2)
  have R3 := R_20 R2
  obtain ⟨σ4, q1, q2, q3⟩ := mhr_ok (x := ((1 : Int32) <<< (nI g.2.1 &&& 31)) - 1) R3.2.2.2.1 hg (md_R R3)
  have R4 := Rel_fr R3 (Fr_y q2)
  have ok := (hR_ok hg (bt (((1 : Int32) <<< (nI g.2.1 &&& 31)) - 1)) (Wo g (sP g P)) 20).1
  refine ⟨nI (bits (fun h => !fuB g (hR g (bt (((1 : Int32) <<< (nI g.2.1 &&& 31)) - 1)) (Wo g (sP g P)) 20).1 h) g.1), σ2, σ4, ?_, ?_, g, P, R4⟩
  · unfold F_X10_left
    rw [w1, Option.bind_some, (all_eq R1.2.2.1 R1.2.2.2.1).1, Option.bind_some, h1, Option.bind_some]
    exact xleft (by omega) R2.2.2.1 hg ok h3 rfl
  · unfold F_X11_left
    rw [show stI σ2 20 0 = some (sI σ2 20 0) from rfl, Option.bind_some, (all_eq R3.2.2.1 R3.2.2.2.1).2, Option.bind_some, q1, Option.bind_some]
    exact mleft R4.2.2.2.1 hg ok q3
