-- forged: the reference
variable {g : FD} {P : PD} {σ σ' : Mem}
theorem foS_n (g : FD) (P : PD) (r h : Nat) : ∀ f, f ≤ 1000 → (foS g P r h f).1 = 1000 → (foS g P r h f).2 = 28
  | 0, _, _ => rfl
  | f + 1, hf, h1 => by
    have ih := foS_n g P r h f (by omega)
    have es : foS g P r h (f + 1) = (if (foS g P r h f).2 ≤ dsum f then foS g P r h f else if fitB g P r f && hasB g P r h f then (f, dsum f) else foS g P r h f) := rfl
    rw [es] at h1 ⊢
    split at h1
    · rename_i c; rw [if_pos c]; exact ih h1
    · rename_i c; rw [if_neg c]
      split at h1
      · exfalso; have : f = 1000 := h1; omega
      · rename_i c2; rw [if_neg c2]; exact ih h1
def foM (n : Nat) : Bool := n != 63 && n != 66
theorem m192 {kL} {h v r : Nat} {u x4 x5 x6 d0 d1 d2 : Int32} (hr : r < 5) (hh : h < 9) (hv : v ≤ 9) (h63 : σ.2.1 63 r = hI v) : ∃ σ', F_X11_forged_b192 kL 4000 (nI r) (nI h) u x4 x5 x6 d0 d1 d2 (nI 0) σ = (if v = h then kL (nI r) (nI h) u ((d0 + d1) + d2) x6 (x6 + 1) σ' else kL (nI r) (nI h) u x4 x5 (x6 + 1) σ') ∧ Fq (fun _ => true) (fun n => n != 66) true σ σ' ∧ (∀ j, j < 3 → σ'.2.1 66 (3 * r + j) = 0) ∧ ∀ i, (i < 3 * r ∨ 3 * r + 3 ≤ i) → σ'.2.1 66 i = σ.2.1 66 i := by
  refine lp (fun n (m : Mem) i => F_X11_forged_b192 kL n (nI r) (nI h) u x4 x5 x6 d0 d1 d2 (nI i) m) (fun o => ∃ σ', o = (if v = h then kL (nI r) (nI h) u ((d0 + d1) + d2) x6 (x6 + 1) σ' else kL (nI r) (nI h) u x4 x5 (x6 + 1) σ') ∧ Fq (fun _ => true) (fun n => n != 66) true σ σ' ∧ (∀ j, j < 3 → σ'.2.1 66 (3 * r + j) = 0) ∧ ∀ i, (i < 3 * r ∨ 3 * r + 3 ≤ i) → σ'.2.1 66 i = σ.2.1 66 i) 3 (fun i m => Fq (fun _ => true) (fun n => n != 66) true σ m ∧ (∀ j, j < i → m.2.1 66 (3 * r + j) = 0) ∧ ∀ i, (i < 3 * r ∨ 3 * r + 3 ≤ i) → m.2.1 66 i = σ.2.1 66 i) ?_ ?_ 3 0 σ 4000 (by omega) (by omega) (by omega) ⟨Fq_r σ, fun j hj => absurd hj (Nat.not_lt_zero _), fun _ _ => rfl⟩
  · intro n m ⟨p1, p2, p3⟩
    refine ⟨m, ?_, p1, p2, p3⟩
    simp only [F_X11_forged_b192]
    rw [if_pos (show (3 : Int32) ≤ nI 3 from Int32.le_refl _), rd_63 (by omega), p1.2.1 63 rfl, h63, Option.bind_some, Option.bind_some, Option.bind_some]
    by_cases c : v = h
    · have q : hI v = nI h := by rw [hI_e (by omega) (by omega)]; exact c
      rw [if_pos q, if_pos q, if_pos c]
    · have q : ¬ hI v = nI h := by rw [hI_e (by omega) (by omega)]; exact c
      rw [if_neg q, if_neg q, if_neg c]
  · intro n m i hi ⟨p1, p2, p3⟩
    refine .inr ⟨sA m 66 (3 * r + i) 0, ⟨Fq_sA p1, fun j hj => ?_, fun j hj => ?_⟩, ?_⟩
    · rw [sA_2, if_pos rfl, upd_ap]
      by_cases ej : j = i
      · rw [if_pos (by omega)]
      · rw [if_neg (by omega)]; exact p2 j (by omega)
    · rw [sA_2, if_pos rfl, upd_ap, if_neg (by omega)]; exact p3 j hj
    · simp only [F_X11_forged_b192]
      rw [if_neg (show ¬ (3 : Int32) ≤ nI i from nI_ge (b := 3) hi (by omega)), show (3 : Int32) = nI 3 from rfl, pk_mul, nI_add, wr_66 (by omega), Option.bind_some, nI_1]
def bM (s : Nat × Nat) : Nat := if s.1 = 1000 then 9999 else s.2
theorem mfo (m0 : MF g σ) (hg : okG g) (e0 : MD P.2.1 zN σ) {r h : Nat} {u : Int32} (hr : r < g.2.1) (hh : h < g.1) : ∃ σ', F_X11_forged_b48 4000 (nI r) (nI h) u (nI 9999) (-9) (nI 0) σ = some (if (foS g P r h 1000).1 = 1000 then -9 else if u = 0 then nI (foS g P r h 1000).2 else nI (foS g P r h 1000).1, σ') ∧ Fq yI foM true σ σ' ∧ ∀ i, i < 15 → σ'.2.1 66 i = nI 0 := by
  have hg1 := hg.1
  have hg2 := hg.2.1
  refine lp (fun n (m : Mem) i => F_X11_forged_b48 n (nI r) (nI h) u (nI (bM (foS g P r h i))) (cI (foS g P r h i).1) (nI i) m) (fun o => ∃ σ', o = some (if (foS g P r h 1000).1 = 1000 then -9 else if u = 0 then nI (foS g P r h 1000).2 else nI (foS g P r h 1000).1, σ') ∧ Fq yI foM true σ σ' ∧ ∀ i, i < 15 → σ'.2.1 66 i = nI 0) 1000 (fun i m => Fq yI foM true σ m ∧ ∀ i, i < 15 → m.2.1 66 i = nI 0) ?_ ?_ 1000 0 σ 4000 (by omega) (by omega) (by omega) ⟨Fq_r σ, fun i hi => (e0.2 i hi).1⟩
  · intro n m ⟨p1, p2⟩
    have hb := foS_b g P r h 1000
    generalize foS g P r h 1000 = s at *
    refine ⟨m, ?_, p1, p2⟩
    simp only [F_X11_forged_b48]
    rw [if_pos (show (1000 : Int32) ≤ nI 1000 from Int32.le_refl _)]
    unfold cI bM
    by_cases h1 : s.1 = 1000
    · rw [if_pos h1, if_pos rfl, if_pos h1]
    · rw [if_neg h1, if_neg (by rw [nI_n9 (by omega)]; exact id), if_neg h1, if_neg h1]
      by_cases hu : u = 0
      · rw [if_pos hu, if_pos hu]
      · rw [if_neg hu, if_neg hu]
  · intro n m i hi ⟨p1, p2⟩
    have hb := foS_b g P r h i
    have hn := foS_n g P r h i (by omega)
    have hd := fdiv hi
    have m' := MF_fr m0 p1
    have e' : MD P.2.1 zN m := ⟨by rw [p1.2.1 58 rfl]; exact e0.1, fun x hx => ⟨p2 x hx, by show 0 ≤ 9; omega⟩⟩
    have s0 : F_X11_shows (nI r) (nI 0) m = some (nI (sP g P r 0)) := sh_ok m' hg e' hr (t := 0) (by omega)
    have s1 : F_X11_shows (nI r) (nI 1) m = some (nI (sP g P r 1)) := sh_ok m' hg e' hr (t := 1) (by omega)
    have s2 : F_X11_shows (nI r) (nI 2) m = some (nI (sP g P r 2)) := sh_ok m' hg e' hr (t := 2) (by omega)
    have l0 : sP g P r 0 ≤ 9 := okS_sh g P.2.1 zN r 0 hr (by omega)
    have l1 : sP g P r 1 ≤ 9 := okS_sh g P.2.1 zN r 1 hr (by omega)
    have l2 : sP g P r 2 ≤ 9 := okS_sh g P.2.1 zN r 2 hr (by omega)
    have hds : dsum i ≤ 27 := by unfold dsum; omega
    have es : foS g P r h (i + 1) = (if (foS g P r h i).2 ≤ dsum i then foS g P r h i else if fitB g P r i && hasB g P r h i then (i, dsum i) else foS g P r h i) := rfl
    have hE : F_X11_forged_b48 (n + 1) (nI r) (nI h) u (nI (bM (foS g P r h i))) (cI (foS g P r h i).1) (nI i) m = F_X11_forged_b127 (F_X11_forged_b48 n) (nI r) (nI h) u (nI (bM (foS g P r h i))) (cI (foS g P r h i).1) (nI i) (nI (i / 100)) (nI (i / 10 % 10)) (nI (i % 10)) (bI (fitB g P r i)) m := by
      simp only [F_X11_forged_b48]
      rw [if_neg (show ¬ (1000 : Int32) ≤ nI i from nI_ge (b := 1000) hi (by omega)), hd.1, hd.2.1, hd.2.2, show F_X11_shows (nI r) 0 m = _ from s0, Option.bind_some, show F_X11_shows (nI r) 1 m = _ from s1, Option.bind_some, show F_X11_shows (nI r) 2 m = _ from s2, Option.bind_some, nI_add, nI_add, nI_add]
      unfold fitB
      by_cases c0 : sP g P r 0 + i / 100 ≤ 9
      · rw [if_neg (show ¬ (9 : Int32) < nI _ from nI_nlt (a := 9) c0 (by omega)), decide_eq_true c0, Bool.true_and]
        by_cases c1 : sP g P r 1 + i / 10 % 10 ≤ 9
        · rw [if_neg (show ¬ (9 : Int32) < nI _ from nI_nlt (a := 9) c1 (by omega)), decide_eq_true c1, Bool.true_and]
          by_cases c2 : sP g P r 2 + i % 10 ≤ 9
          · rw [if_neg (show ¬ (9 : Int32) < nI _ from nI_nlt (a := 9) c2 (by omega)), decide_eq_true c2]; rfl
          · rw [if_pos (show (9 : Int32) < nI _ from nI_lt (a := 9) (by show 9 < sP g P r 2 + i % 10; omega) (by omega)), decide_eq_false c2]; rfl
        · rw [if_pos (show (9 : Int32) < nI _ from nI_lt (a := 9) (by show 9 < sP g P r 1 + i / 10 % 10; omega) (by omega)), decide_eq_false c1]; rfl
      · rw [if_pos (show (9 : Int32) < nI _ from nI_lt (a := 9) (by show 9 < sP g P r 0 + i / 100; omega) (by omega)), decide_eq_false c0]; rfl
    have hcmp : (bM (foS g P r h i) ≤ dsum i) ↔ ((foS g P r h i).2 ≤ dsum i) := by
      unfold bM
      split
      · rename_i q; rw [hn q]; omega
      · exact Iff.rfl
    have hbm : bM (foS g P r h i) ≤ 9999 := by unfold bM; split <;> omega
    have stay : (F_X11_forged_b48 (n + 1) (nI r) (nI h) u (nI (bM (foS g P r h i))) (cI (foS g P r h i).1) (nI i) m = F_X11_forged_b48 n (nI r) (nI h) u (nI (bM (foS g P r h i))) (cI (foS g P r h i).1) (nI (i + 1)) m) → foS g P r h (i + 1) = foS g P r h i → ∃ a', (Fq yI foM true σ a' ∧ ∀ i, i < 15 → a'.2.1 66 i = nI 0) ∧ F_X11_forged_b48 (n + 1) (nI r) (nI h) u (nI (bM (foS g P r h i))) (cI (foS g P r h i).1) (nI i) m = F_X11_forged_b48 n (nI r) (nI h) u (nI (bM (foS g P r h (i + 1)))) (cI (foS g P r h (i + 1)).1) (nI (i + 1)) a' := fun h1 h2 => ⟨m, ⟨p1, p2⟩, by rw [h2, h1]⟩
    refine .inr ?_
    by_cases cf : fitB g P r i = true
    · by_cases c1 : (foS g P r h i).2 ≤ dsum i
      · refine stay ?_ (by rw [es, if_pos c1])
        rw [hE, cf]
        unfold F_X11_forged_b127
        rw [if_neg (by decide), nI_add, nI_add, if_pos (show nI (bM (foS g P r h i)) ≤ nI (i / 100 + i / 10 % 10 + i % 10) from nI_le (hcmp.mpr c1) (by unfold dsum at hds; omega)), nI_1]
      · have xz : ∀ x, x < 15 → (x < 3 * r ∨ 3 * r + 3 ≤ x) → xF r i x = 0 := fun x _ hx => by
          unfold xF; rw [if_neg (by omega), if_neg (by omega), if_neg (by omega)]
        have xb : ∀ x, xF r i x ≤ 9 := fun x => by
          unfold xF; split
          · omega
          · split
            · omega
            · split <;> omega
        have F8 : Fq (fun _ => true) (fun n => n != 66) true m (sA (sA (sA m 66 (3 * r) (nI (i / 100))) 66 (3 * r + 1) (nI (i / 10 % 10))) 66 (3 * r + 2) (nI (i % 10))) := Fq_sA (Fq_sA (Fq_sA (Fq_r m)))
        have x8 : ∀ x, x < 15 → (sA (sA (sA m 66 (3 * r) (nI (i / 100))) 66 (3 * r + 1) (nI (i / 10 % 10))) 66 (3 * r + 2) (nI (i % 10))).2.1 66 x = nI (xF r i x) := fun x hx => by
          simp only [sA_2, if_true, upd_ap]
          unfold xF
          by_cases q0 : x = 3 * r
          · rw [if_neg (by omega), if_neg (by omega), if_pos q0, if_pos q0]
          · by_cases q1 : x = 3 * r + 1
            · rw [if_neg (by omega), if_pos q1, if_neg q0, if_pos q1]
            · by_cases q2 : x = 3 * r + 2
              · rw [if_pos q2, if_neg q0, if_neg q1, if_pos q2]
              · rw [if_neg q2, if_neg q1, if_neg q0, if_neg q0, if_neg q1, if_neg q2]; exact p2 x hx
        have hw : ∀ (kL : Int32 → Int32 → Int32 → Int32 → Int32 → Int32 → Mem → Option (Int32 × Mem)) (b : Int32) (cc : Int32), nI (i / 100) + nI (i / 10 % 10) + nI (i % 10) < b → F_X11_forged_b127 kL (nI r) (nI h) u b cc (nI i) (nI (i / 100)) (nI (i / 10 % 10)) (nI (i % 10)) (bI true) m = Option.bind (F_X11_all (sA (sA (sA m 66 (3 * r) (nI (i / 100))) 66 (3 * r + 1) (nI (i / 10 % 10))) 66 (3 * r + 2) (nI (i % 10)))) fun q9 => Option.bind (F_X11_holdByRiders q9 (sA (sA (sA m 66 (3 * r) (nI (i / 100))) 66 (3 * r + 1) (nI (i / 10 % 10))) 66 (3 * r + 2) (nI (i % 10)))) fun σ10 => F_X11_forged_b192 kL 4000 (nI r) (nI h) u b cc (nI i) (nI (i / 100)) (nI (i / 10 % 10)) (nI (i % 10)) (nI 0) σ10 := fun kL b cc hlt => by
          unfold F_X11_forged_b127
          rw [if_neg (by decide), if_neg (Int32.not_le.mpr hlt), show (3 : Int32) = nI 3 from rfl, show (1 : Int32) = nI 1 from rfl, show (2 : Int32) = nI 2 from rfl, pk_mul, nI_add (3 * r) 1, nI_add (3 * r) 2, wr_66 (by omega), Option.bind_some, wr_66 (by omega), Option.bind_some, wr_66 (by omega), Option.bind_some]
          rfl
        have m8' := MF_fr m' F8
        have e8 : MD P.2.1 (xF r i) (sA (sA (sA m 66 (3 * r) (nI (i / 100))) 66 (3 * r + 1) (nI (i / 10 % 10))) 66 (3 * r + 2) (nI (i % 10))) := ⟨by rw [F8.2.1 58 rfl]; exact e'.1, fun x hx => ⟨x8 x hx, xb x⟩⟩
        generalize sA (sA (sA m 66 (3 * r) (nI (i / 100))) 66 (3 * r + 1) (nI (i / 10 % 10))) 66 (3 * r + 2) (nI (i % 10)) = m8 at *
        obtain ⟨m10, q1, q2, q3⟩ := mhr_ok (x := allM g) m8' hg e8
        have ok := (hR_ok hg (bt (allM g)) (Wo g (sh g P.2.1 (xF r i))) 20).1
        have hv := okY_v ok (r := r) (by omega)
        obtain ⟨m12, z1, z2, z3, z4⟩ := m192 (σ := m10) (kL := F_X11_forged_b48 n) (h := h) (v := (hR g (bt (allM g)) (Wo g (sh g P.2.1 (xF r i))) 20).1 r) (r := r) (u := u) (x4 := nI (bM (foS g P r h i))) (x5 := cI (foS g P r h i).1) (x6 := nI i) (d0 := nI (i / 100)) (d1 := nI (i / 10 % 10)) (d2 := nI (i % 10)) (by omega) (by omega) (by omega) (q3 r (by omega))
        have hall : F_X11_all m8 = some (allM g) := by unfold F_X11_all allM; rw [m8'.2.1]
        have hlt : nI (i / 100) + nI (i / 10 % 10) + nI (i % 10) < nI (bM (foS g P r h i)) := by
          rw [nI_add, nI_add]
          refine nI_lt ?_ (by omega)
          have := hcmp
          show dsum i < _
          omega
        have Ff : Fq yI foM true σ m12 := Fq_t p1 (Fq_t (Fq_w F8 (fun _ _ => rfl) (fun n h => by simp [foM] at h ⊢; omega) (fun h => h)) (Fq_t (Fq_w q2 (fun _ h => h) (fun n h => by simp [foM, yA] at h ⊢; omega) (fun h => h)) (Fq_w z2 (fun _ _ => rfl) (fun n h => by simp [foM] at h ⊢; omega) (fun h => h))))
        have Zf : ∀ x, x < 15 → m12.2.1 66 x = nI 0 := fun x hx => by
          by_cases hin : x < 3 * r ∨ 3 * r + 3 ≤ x
          · rw [z4 x hin, q2.2.1 66 rfl, x8 x hx, xz x hx hin]
          · obtain ⟨j, hj1, rfl⟩ : ∃ j, j < 3 ∧ x = 3 * r + j := ⟨x - 3 * r, by omega, by omega⟩
            exact z3 j hj1
        refine ⟨m12, ⟨Ff, Zf⟩, ?_⟩
        rw [hE, cf, hw _ _ _ hlt, hall, Option.bind_some, q1, Option.bind_some, z1, nI_1, nI_add, nI_add, es, if_neg c1, cf, Bool.true_and]
        by_cases ch : (hR g (bt (allM g)) (Wo g (sh g P.2.1 (xF r i))) 20).1 r = h
        · have hb2 : hasB g P r h i = true := decide_eq_true ch
          rw [if_pos ch, if_pos hb2]
          unfold cI bM
          rw [if_neg (show ¬ i = 1000 by omega), if_neg (show ¬ i = 1000 by omega)]
          rfl
        · have hb2 : ¬ hasB g P r h i = true := by unfold hasB; rw [decide_eq_false ch]; decide
          rw [if_neg ch, if_neg hb2]
    · rw [Bool.not_eq_true] at cf
      refine stay ?_ (by rw [es, cf]; simp)
      rw [hE, cf]
      unfold F_X11_forged_b127
      rw [if_pos (show bI false = 0 from rfl), nI_1]
theorem st_forged : Step_forged Inv := by
  intro a b u σ hI0
  obtain ⟨g, P, R⟩ := id hI0
  obtain ⟨hg, hP, c, d, e, i, j, k, l, m, z⟩ := id R
  have I20 := Inv_fr hI0 (fr20 σ 0)
  have d2 : MF g (sI σ 20 0) := MF_20 d 0
  rcases rider_c hg a with ⟨x, hx, rfl⟩ | ⟨h1, h2⟩
  · rcases horse_c hg b with ⟨y, hy, rfl⟩ | ⟨h1, h2⟩
    · rcases two_c u with ⟨u1, u2⟩ | ⟨u1, u2⟩
      · obtain ⟨σ1, w1, w2, w3⟩ := weigh0 R
        have R1 := Rel_fr R w2
        obtain ⟨σ2, x1, x2⟩ := xfo R1.2.2.1 hg hP R1.2.2.2.2.1 u1 hx hy (fun p q hp hq _ => w3 p q hp hq)
        have R2 := Rel_fr R1 (Fq_w x2 (fun _ _ => rfl) (fun n h => by
          by_cases q1 : n = 12
          · subst q1; cases h
          by_cases q2 : n = 32
          · subst q2; cases h
          by_cases q3 : n = 13
          · subst q3; cases h
          simp [foA, q1, q2, q3]) (fun h => h) : Fr σ1 σ2)
        have R3 := R_20 R2
        obtain ⟨σ4, y1, y2, y3⟩ := mfo (P := P) (u := u) R3.2.2.2.1 hg (md_R R3) hx hy
        obtain ⟨_, _, c3, d3, e3, i3, j3, k3, l3, m3, z3⟩ := id R3
        refine ⟨if (foS g P x y 1000).1 = 1000 then -9 else if u = 0 then nI (foS g P x y 1000).2 else nI (foS g P x y 1000).1, σ2, σ4, ?_, ?_, g, P, hg, hP, CF_fr c3 y2, MF_fr d3 y2, CP_fr e3 y2, MP_fr i3 y2, RT_fr j3 y2, RA_fr k3 y2, RS_fr l3 y2, RC_fr m3 y2, ?_, y3, ?_⟩
        · unfold F_X10_forged
          rw [hasR_1 c hg hx, Option.bind_some, if_neg (by decide), hasH_1 c hg hy, Option.bind_some, if_neg (by decide), w1, Option.bind_some, show (28 : Int32) = nI 28 from rfl, show (0 : Int32) = nI 0 from rfl, x1]
          rcases u1 with rfl | rfl <;> rfl
        · unfold F_X11_forged
          rw [show stI σ2 20 0 = some (sI σ2 20 0) from rfl, Option.bind_some, noR_1 R3.2.2.2.1 hg hx, Option.bind_some, if_pos rfl, noH_1 R3.2.2.2.1 hg hy, Option.bind_some, if_pos rfl, u2, Option.bind_some, if_neg (by decide)]
          exact y1
        · rw [y2.2.2 rfl]; exact z3.1
        · rw [y2.2.1 33 rfl]; exact z3.2.2
      · refine ⟨-2, σ, sI σ 20 0, ?_, ?_, I20⟩
        · unfold F_X10_forged; rw [hasR_1 c hg hx, Option.bind_some, if_neg (by decide), hasH_1 c hg hy, Option.bind_some, if_neg (by decide), if_neg u1.1, if_neg u1.2]
        · unfold F_X11_forged; rw [show stI σ 20 0 = some (sI σ 20 0) from rfl, Option.bind_some, noR_1 d2 hg hx, Option.bind_some, if_pos rfl, noH_1 d2 hg hy, Option.bind_some, if_pos rfl, u2]; rfl
    · refine ⟨-1, σ, sI σ 20 0, ?_, ?_, I20⟩
      · unfold F_X10_forged; rw [hasR_1 c hg hx, Option.bind_some, if_neg (by decide), h1 σ c]; rfl
      · unfold F_X11_forged; rw [show stI σ 20 0 = some (sI σ 20 0) from rfl, Option.bind_some, noR_1 d2 hg hx, Option.bind_some, if_pos rfl, h2 _ d2]; rfl
  · refine ⟨-1, σ, sI σ 20 0, ?_, ?_, I20⟩
    · unfold F_X10_forged; rw [h1 σ c]; rfl
    · unfold F_X11_forged; rw [show stI σ 20 0 = some (sI σ 20 0) from rfl, Option.bind_some, h2 _ d2]; rfl
