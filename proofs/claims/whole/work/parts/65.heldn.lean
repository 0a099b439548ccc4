-- held by horses: the reference; step held
variable {g : FD} {P : PD} {σ σ' : Mem}
theorem mao_ok {d xx : Nat → Nat} {q : SH} (m : MF g σ) (hg : okG g) (e0 : MD d xx σ) {h : Nat} (hh : h < g.1) (h2 : ∀ r, r < g.2.1 → bt (σ.1 29) (4 * r + h) = q.2 h r) : F_X11_askOf (nI h) σ = some (hI (bq (Wo g (sh g d xx)) h (aB g (Wo g (sh g d xx)) q h) g.2.1)) := by
  have hg1 := hg.1
  have hg2 := hg.2.1
  unfold F_X11_askOf
  refine lpD (fun n (b : Nat) i => F_X11_askOf_b5 σ n (nI h) (hI b) (nI i)) g.2.1 (fun i => bq (Wo g (sh g d xx)) h (aB g (Wo g (sh g d xx)) q h) i) _ ?_ ?_ 4000 (by omega)
  · intro n
    simp only [F_X11_askOf_b5]
    rw [m.2.1, if_pos (nI_le (Nat.le_refl _) (by omega))]
  · intro n i hi
    have h3 := bq_sp (Wo g (sh g d xx)) h (aB g (Wo g (sh g d xx)) q h) i
    have e0' : F_X11_askOf_b5 σ (n + 1) (nI h) (hI (bq (Wo g (sh g d xx)) h (aB g (Wo g (sh g d xx)) q h) i)) (nI i) = F_X11_askOf_b42 σ (F_X11_askOf_b5 σ n) (nI h) (hI (bq (Wo g (sh g d xx)) h (aB g (Wo g (sh g d xx)) q h) i)) (nI i) (bI (aB g (Wo g (sh g d xx)) q h i)) := by
      simp only [F_X11_askOf_b5]
      rw [m.2.1, if_neg (nI_ge hi (by omega)), show (4 : Int32) = nI 4 from rfl, pk_mul, nI_add, isin_ok _ (by omega), h2 i hi, Option.bind_some, ie_ok m hg e0 hh hi, Option.bind_some]
      unfold aB
      cases q.2 h i <;> cases enB g (Wo g (sh g d xx)) h i <;> rfl
    rw [e0']
    unfold F_X11_askOf_b42
    simp only [bq]
    by_cases e1 : aB g (Wo g (sh g d xx)) q h i = true
    · rw [e1, if_neg (by decide), if_pos rfl, nI_1]
      by_cases e2 : bq (Wo g (sh g d xx)) h (aB g (Wo g (sh g d xx)) q h) i = 9
      · rw [if_pos (by rw [hI_m9 (by omega)]; exact e2), if_pos e2, hI_n (w := i) (by omega)]
      · rw [if_neg (by rw [hI_m9 (by omega)]; exact e2), if_neg e2, hI_n e2, lr_ok m hg e0 hh hi (by omega), Option.bind_some]
        by_cases e3 : hlB (Wo g (sh g d xx)) h i (bq (Wo g (sh g d xx)) h (aB g (Wo g (sh g d xx)) q h) i) = true
        · rw [e3, if_neg (by decide), if_pos rfl, hI_n (w := i) (by omega)]
        · rw [Bool.not_eq_true] at e3
          rw [e3, if_pos (show bI false = 0 from rfl), if_neg (by decide), hI_n e2]
    · rw [Bool.not_eq_true] at e1
      rw [e1, if_pos (show bI false = 0 from rfl), if_neg (by decide), nI_1]
theorem mhh_it {d xx : Nat → Nat} (m : MF g σ) (hg : okG g) (e0 : MD d xx σ) : ∀ n k x2 (s : Mem), (20 - k) * 5 + (5 - x2) ≤ n → k ≤ 20 → x2 ≤ g.1 → Fq yI yA true σ s → MW 63 (hH g (Wo g (sh g d xx)) k).1 s → (∀ h r, h < g.1 → r < g.2.1 → bt (s.1 29) (4 * r + h) = (hH g (Wo g (sh g d xx)) k).2 h r) → (∀ h, h < x2 → pH g (Wo g (sh g d xx)) (hH g (Wo g (sh g d xx)) k) h = false) → ∃ s', F_X11_holdByHorses_b6 n (nI x2) s = some s' ∧ Fq yI yA true σ s' ∧ MW 63 (hH g (Wo g (sh g d xx)) 20).1 s'
  | 0, k, x2, s, hn, _, hx, _, _, _, _ => by have := hg.1; omega
  | n + 1, k, x2, s, hn, hk, hx, p1, p2, p3, p4 => by
    have hg1 := hg.1
    have hg2 := hg.2.1
    have m' := MF_fr m p1
    have e' := md_y e0 p1
    have ok := hH_ok hg (Wo g (sh g d xx)) k
    by_cases hx2 : x2 = g.1
    · subst hx2
      refine ⟨s, ?_, p1, ?_⟩
      · simp only [F_X11_holdByHorses_b6]
        rw [m'.1, if_pos (nI_le (Nat.le_refl _) (by omega))]
      · rw [hH_stop hg hk (lf_n _ p4)]; exact p2
    · have hlt : x2 < g.1 := by omega
      have next : pH g (Wo g (sh g d xx)) (hH g (Wo g (sh g d xx)) k) x2 = false → F_X11_holdByHorses_b6 (n + 1) (nI x2) s = F_X11_holdByHorses_b6 n (nI (x2 + 1)) s → ∃ s', F_X11_holdByHorses_b6 (n + 1) (nI x2) s = some s' ∧ Fq yI yA true σ s' ∧ MW 63 (hH g (Wo g (sh g d xx)) 20).1 s' := fun h1 h2 => by
        rw [h2]
        exact mhh_it m hg e0 n k (x2 + 1) s (by omega) hk hlt p1 p2 p3 (fun r hr => by
          by_cases e : r = x2
          · rw [e]; exact h1
          · exact p4 r (by omega))
      have hao := mao_ok (q := hH g (Wo g (sh g d xx)) k) m' hg e' hlt (fun r hr => p3 x2 r hlt hr)
      have hbq := bq_sp (Wo g (sh g d xx)) x2 (aB g (Wo g (sh g d xx)) (hH g (Wo g (sh g d xx)) k) x2) g.2.1
      have hfu := fu_ok (n := 63) (by decide) m' hg p2 ok hlt
      by_cases e1 : fuB g (hH g (Wo g (sh g d xx)) k).1 x2 = true
      · refine next (by unfold pH; rw [e1]; rfl) ?_
        simp only [F_X11_holdByHorses_b6]
        rw [m'.1, if_neg (nI_ge hlt (by omega)), hfu, e1, Option.bind_some, if_neg (by decide)]
        unfold F_X11_holdByHorses_b36
        rw [if_pos rfl, nI_1]
      · rw [Bool.not_eq_true] at e1
        by_cases e2 : bq (Wo g (sh g d xx)) x2 (aB g (Wo g (sh g d xx)) (hH g (Wo g (sh g d xx)) k) x2) g.2.1 = 9
        · refine next (by unfold pH; rw [decide_eq_false (fun q => q e2), Bool.and_false]) ?_
          simp only [F_X11_holdByHorses_b6]
          rw [m'.1, if_neg (nI_ge hlt (by omega)), hfu, e1, Option.bind_some, if_pos (show bI false = 0 from rfl), hao, e2, Option.bind_some]
          unfold F_X11_holdByHorses_b36
          rw [if_pos hI_9, nI_1]
        · have e4 : pH g (Wo g (sh g d xx)) (hH g (Wo g (sh g d xx)) k) x2 = true := by unfold pH; rw [e1, decide_eq_true e2]; rfl
          have e5 := lf_s p4 e4 (by omega) _ hlt
          have hk20 : k ≠ 20 := fun q => by
            have := hH_end hg (Wo g (sh g d xx))
            rw [← q, e5] at this; omega
          have es : hH g (Wo g (sh g d xx)) (k + 1) = doH g (Wo g (sh g d xx)) (hH g (Wo g (sh g d xx)) k) x2 (bq (Wo g (sh g d xx)) x2 (aB g (Wo g (sh g d xx)) (hH g (Wo g (sh g d xx)) k) x2) g.2.1) := by
            show stH g _ _ = _
            unfold stH; rw [e5, if_neg (by omega)]
          have hr : bq (Wo g (sh g d xx)) x2 (aB g (Wo g (sh g d xx)) (hH g (Wo g (sh g d xx)) k) x2) g.2.1 < g.2.1 := by
            rcases hbq with ⟨j1, _⟩ | ⟨j1, _⟩
            · exact absurd j1 e2
            · exact j1
          generalize bq (Wo g (sh g d xx)) x2 (aB g (Wo g (sh g d xx)) (hH g (Wo g (sh g d xx)) k) x2) g.2.1 = r at *
          have F1 : Fq yI yA true s (sI s 29 (s.1 29 ||| ((1 : Int32) <<< (nI (4 * r + x2) &&& 31)))) := Fq_sI (Fq_r s)
          have m2 := MF_fr m' F1
          have w2 : MW 63 (hH g (Wo g (sh g d xx)) k).1 (sI s 29 (s.1 29 ||| ((1 : Int32) <<< (nI (4 * r + x2) &&& 31)))) := p2
          have b2 : ∀ x y, x < g.1 → y < g.2.1 → bt ((sI s 29 (s.1 29 ||| ((1 : Int32) <<< (nI (4 * r + x2) &&& 31)))).1 29) (4 * y + x) = (hH g (Wo g (sh g d xx)) (k + 1)).2 x y := fun x y hx hy => by
            rw [sI_1, if_pos rfl, or_bt _ (by omega) (by omega), p3 x y hx hy, es]
            show _ = ((hH g (Wo g (sh g d xx)) k).2 x y || (decide (x = x2) && decide (y = r)))
            by_cases ex : x = x2
            · subst ex
              rw [decide_eq_true rfl, Bool.true_and]
              congr 2; apply propext; omega
            · rw [decide_eq_false ex, Bool.false_and, show decide (4 * y + x = 4 * r + x2) = false from decide_eq_false (by omega)]
          have hE : ∃ v, F_X11_holdByHorses_b6 (n + 1) (nI x2) s = F_X11_holdByHorses_b6 n (nI 0) (sA (sI s 29 (s.1 29 ||| ((1 : Int32) <<< (nI (4 * r + x2) &&& 31)))) 63 r (hI v)) ∧ ∀ y, upN (hH g (Wo g (sh g d xx)) k).1 r v y = (hH g (Wo g (sh g d xx)) (k + 1)).1 y := by
            have q1 : F_X11_holdByHorses_b6 (n + 1) (nI x2) s = (if bI (rlO g r x2 ((hH g (Wo g (sh g d xx)) k).1 r)) = 0 then F_X11_holdByHorses_b6 n (nI 0) (sA (sI s 29 (s.1 29 ||| ((1 : Int32) <<< (nI (4 * r + x2) &&& 31)))) 63 r (hI ((hH g (Wo g (sh g d xx)) k).1 r))) else F_X11_holdByHorses_b6 n (nI 0) (sA (sI s 29 (s.1 29 ||| ((1 : Int32) <<< (nI (4 * r + x2) &&& 31)))) 63 r (nI x2))) := by
              simp only [F_X11_holdByHorses_b6]
              rw [m'.1, if_neg (nI_ge hlt (by omega)), hfu, e1, Option.bind_some, if_pos (show bI false = 0 from rfl), hao, Option.bind_some]
              unfold F_X11_holdByHorses_b36
              rw [hI_n (w := r) (by omega), if_neg (by rw [nI_n9 (by omega)]; exact id), show (4 : Int32) = nI 4 from rfl, pk_mul, nI_add, show stI s 29 (s.1 29 ||| ((1 : Int32) <<< (nI (4 * r + x2) &&& 31))) = some (sI s 29 (s.1 29 ||| ((1 : Int32) <<< (nI (4 * r + x2) &&& 31)))) from rfl, Option.bind_some, rd_63 (by omega), w2 r (by omega), Option.bind_some, ml_ok m2 hg hr hlt (okY_v ok (by omega)), Option.bind_some, Option.bind_some, wr_63 (by omega), Option.bind_some, wr_63 (by omega), Option.bind_some]
              rfl
            by_cases e : rlO g r x2 ((hH g (Wo g (sh g d xx)) k).1 r) = true
            · refine ⟨x2, by rw [q1, e, if_neg (by decide), hI_n (by omega)], fun y => ?_⟩
              rw [es]
              show _ = (if rlO g r x2 ((hH g (Wo g (sh g d xx)) k).1 r) then upN (hH g (Wo g (sh g d xx)) k).1 r x2 else (hH g (Wo g (sh g d xx)) k).1) y
              rw [if_pos e]
            · refine ⟨(hH g (Wo g (sh g d xx)) k).1 r, by rw [Bool.not_eq_true] at e; rw [q1, e, if_pos (show bI false = 0 from rfl)], fun y => ?_⟩
              rw [es]
              show _ = (if rlO g r x2 ((hH g (Wo g (sh g d xx)) k).1 r) then upN (hH g (Wo g (sh g d xx)) k).1 r x2 else (hH g (Wo g (sh g d xx)) k).1) y
              rw [if_neg e]
              unfold upN
              split
              · rename_i q; rw [q]
              · rfl
          obtain ⟨v, hE1, hE2⟩ := hE
          rw [hE1]
          refine mhh_it m hg e0 n (k + 1) 0 _ (by omega) (by omega) (by omega) (Fq_t p1 (Fq_sA F1)) (fun y hy => ?_) b2 (fun r hr => absurd hr (Nat.not_lt_zero _))
          rw [← hE2 y]
          exact mw_set w2 y hy
theorem mhh_ok {d xx : Nat → Nat} (m : MF g σ) (hg : okG g) (e0 : MD d xx σ) : ∃ s', F_X11_holdByHorses σ = some s' ∧ Fq yI yA true σ s' ∧ MW 63 (hH g (Wo g (sh g d xx)) 20).1 s' := by
  obtain ⟨σ1, b1, b2, b3, b4⟩ := bg_ok (σ := σ)
  unfold F_X11_holdByHorses
  rw [b1, Option.bind_some]
  exact mhh_it m hg e0 4000 0 0 σ1 (by omega) (by omega) (by omega) b2 b3 (fun h r _ _ => by rw [b4, b_0]; rfl) (fun r hr => absurd hr (Nat.not_lt_zero _))
theorem Fr_z (f : Fq (fun _ => true) zI true σ σ') : Fr σ σ' := Fq_w f (fun _ _ => rfl) (fun n h => by
  by_cases e1 : n = 32
  · subst e1; cases h
  by_cases e2 : n = 14
  · subst e2; cases h
  simp [zI, e1, e2]) (fun h => h)
theorem st_held : Step_held Inv := by
  intro a b σ hb hI0
  obtain ⟨g, P, R⟩ := id hI0
  obtain ⟨hg, hP, c, d, e, i, j, k, l, m, z⟩ := id R
  have hg2 := hg.2.1
  have I20 := Inv_fr hI0 (fr20 σ 0)
  have d2 : MF g (sI σ 20 0) := MF_20 d 0
  rcases rider_c hg a with ⟨x, hx, rfl⟩ | ⟨h1, h2⟩
  · have hx5 : x < 5 := by omega
    obtain ⟨σ1, w1, w2, w3⟩ := weigh0 R
    have R1 := Rel_fr R w2
    rcases hb with rfl | rfl
    · obtain ⟨σ2, h1, h2, h3⟩ := xhr_ok (x := ((1 : Int32) <<< (nI g.2.1 &&& 31)) - 1) R1.2.2.1 hg w3 (oS_P g P)
      have R2 := Rel_fr R1 (Fr_x h2)
      have R3 := R_20 R2
      obtain ⟨σ4, q1, q2, q3⟩ := mhr_ok (x := ((1 : Int32) <<< (nI g.2.1 &&& 31)) - 1) R3.2.2.2.1 hg (md_R R3)
      have R4 := Rel_fr R3 (Fr_y q2)
      refine ⟨hI ((hR g (bt (((1 : Int32) <<< (nI g.2.1 &&& 31)) - 1)) (Wo g (sP g P)) 20).1 x), σ2, σ4, ?_, ?_, g, P, R4⟩
      · unfold F_X10_held
        rw [hasR_1 c hg hx, Option.bind_some, if_neg (by decide), w1, Option.bind_some, if_pos rfl, (all_eq R1.2.2.1 R1.2.2.2.1).1, Option.bind_some, h1, Option.bind_some, hof_ok (by omega) h3 hx5, Option.bind_some]
      · unfold F_X11_held
        rw [show stI σ2 20 0 = some (sI σ2 20 0) from rfl, Option.bind_some, noR_1 R3.2.2.2.1 hg hx, Option.bind_some, if_pos rfl, if_pos rfl, (all_eq R3.2.2.1 R3.2.2.2.1).2, Option.bind_some, q1, Option.bind_some, rd_63 (by omega), q3 x hx5, Option.bind_some]; rfl
    · obtain ⟨σ2, h1, h2, h3⟩ := xhh_ok R1.2.2.1 hg w3 (oS_P g P)
      have R2 := Rel_fr R1 (Fr_z h2)
      have R3 := R_20 R2
      obtain ⟨σ4, q1, q2, q3⟩ := mhh_ok R3.2.2.2.1 hg (md_R R3)
      have R4 := Rel_fr R3 (Fr_y q2)
      refine ⟨hI ((hH g (Wo g (sP g P)) 20).1 x), σ2, σ4, ?_, ?_, g, P, R4⟩
      · unfold F_X10_held
        rw [hasR_1 c hg hx, Option.bind_some, if_neg (by decide), w1, Option.bind_some, if_neg (by decide), h1, Option.bind_some, hof_ok (by omega) h3 hx5, Option.bind_some]
      · unfold F_X11_held
        rw [show stI σ2 20 0 = some (sI σ2 20 0) from rfl, Option.bind_some, noR_1 R3.2.2.2.1 hg hx, Option.bind_some, if_pos rfl, if_neg (by decide), q1, Option.bind_some, rd_63 (by omega), q3 x hx5, Option.bind_some]; rfl
  · refine ⟨-1, σ, sI σ 20 0, ?_, ?_, I20⟩
    · unfold F_X10_held; rw [h1 σ c]; rfl
    · unfold F_X11_held; simp only [stI, Option.bind_some]; rw [h2 _ d2]; rfl
