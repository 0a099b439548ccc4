-- oats: the reference
variable {g : FD} {P : PD} {σ σ' : Mem}
theorem gn1 {W1 W2 a b : Nat} {fl : Bool} (h1 : W1 ≤ 81) (h2 : W2 ≤ 81) (ha : a ≤ 6) (hb : b ≤ 6) : F_X11_gain (nI W1) (nI a) (nI W2) (nI b) (bI fl) σ = some (g1 W1 W2 fl a b) := by
  unfold F_X11_gain
  rw [dif]
  have e1 : (0 < nI (W1 + 5 * a) - nI (W2 + 5 * b)) = (W2 + 5 * b < W1 + 5 * a) := s_pos (by omega) (by omega)
  have e2 : (nI (W1 + 5 * a) - nI (W2 + 5 * b) = 0) = (W1 + 5 * a = W2 + 5 * b) := s_zero (by omega) (by omega)
  simp only [e1, e2]
  unfold g1 w1B
  by_cases c1 : W2 + 5 * b < W1 + 5 * a
  · rw [if_pos c1, decide_eq_true c1]; rfl
  · rw [if_neg c1, decide_eq_false c1, Bool.false_or]
    by_cases c2 : W1 + 5 * a = W2 + 5 * b
    · rw [if_pos c2, decide_eq_true c2]; cases fl <;> rfl
    · rw [if_neg c2, decide_eq_false c2]; rfl
theorem gn2 {W1 W2 a b : Nat} {fl : Bool} (h1 : W1 ≤ 81) (h2 : W2 ≤ 81) (ha : a ≤ 6) (hb : b ≤ 6) : F_X11_gain (nI W2) (nI b) (nI W1) (nI a) (bI (!fl)) σ = some (g2 W1 W2 fl a b) := by
  unfold F_X11_gain
  rw [dif]
  have e1 : (0 < nI (W2 + 5 * b) - nI (W1 + 5 * a)) = (W1 + 5 * a < W2 + 5 * b) := s_pos (by omega) (by omega)
  have e2 : (nI (W2 + 5 * b) - nI (W1 + 5 * a) = 0) = (W2 + 5 * b = W1 + 5 * a) := s_zero (by omega) (by omega)
  simp only [e1, e2]
  unfold g2 w1B
  by_cases c1 : W1 + 5 * a < W2 + 5 * b
  · rw [if_pos c1, decide_eq_false (show ¬ W2 + 5 * b < W1 + 5 * a by omega), decide_eq_false (show ¬ W1 + 5 * a = W2 + 5 * b by omega)]; rfl
  · rw [if_neg c1]
    by_cases c2 : W2 + 5 * b = W1 + 5 * a
    · rw [if_pos c2, decide_eq_false (show ¬ W2 + 5 * b < W1 + 5 * a by omega), decide_eq_true (show W1 + 5 * a = W2 + 5 * b by omega)]; cases fl <;> rfl
    · rw [if_neg c2, decide_eq_true (show W2 + 5 * b < W1 + 5 * a by omega)]; rfl
theorem okR_n (W1 W2 : Nat) (fl : Bool) (a b t : Nat) : okR W1 W2 fl a b t = (!decide (g1 W1 W2 fl a b < g1 W1 W2 fl t b) && !decide (g2 W1 W2 fl a b < g2 W1 W2 fl a t)) := by
  unfold okR
  congr 1
  rw [← decide_not]
  congr 1
  exact propext Int32.not_lt.symm
theorem m186 {k76 k86 k99} {X2 X3 u x7 x8 : Int32} {W1 W2 a b t : Nat} {fl : Bool} (hf : (X3 ≤ X2 ↔ fl = false) ∧ (X2 ≤ X3 ↔ fl = true)) (h1 : W1 ≤ 81) (h2 : W2 ≤ 81) (ha : a ≤ 6) (hb : b ≤ 6) (ht : t ≤ 6) : F_X11_oats_b186 k76 k86 k99 X2 X3 u (nI W1) (nI W2) x7 x8 (nI a) (nI b) (nI t) (bI (!fl)) (nI a) (nI W1) (nI t) (nI W2) σ = k99 X2 X3 u (nI W1) (nI W2) x7 x8 (nI a) (nI b) (bI (!decide (g2 W1 W2 fl a b < g2 W1 W2 fl a t))) (nI (t + 1)) σ := by
  have q1 := gn2 (σ := σ) (fl := fl) h1 h2 ha ht
  have q2 := gn2 (σ := σ) (fl := fl) h1 h2 ha hb
  unfold F_X11_oats_b186
  rw [q1, Option.bind_some]
  cases fl with
  | true =>
    rw [if_pos (hf.2.mpr rfl), show (0 : Int32) = bI (!true) from rfl, q2, Option.bind_some, nI_1]
    by_cases c : g2 W1 W2 true a b < g2 W1 W2 true a t
    · rw [if_pos c, decide_eq_true c]
    · rw [if_neg c, decide_eq_false c]; rfl
  | false =>
    rw [if_neg (fun q => by have := hf.2.mp q; cases this), show (1 : Int32) = bI (!false) from rfl, q2, Option.bind_some]
    by_cases c : g2 W1 W2 false a b < g2 W1 W2 false a t
    · rw [if_pos c, decide_eq_true c]
      show k99 X2 X3 u (nI W1) (nI W2) x7 x8 (nI a) (nI b) 0 (nI t + 1) σ = _
      rw [nI_1]; rfl
    · rw [if_neg c, decide_eq_false c]
      show k99 X2 X3 u (nI W1) (nI W2) x7 x8 (nI a) (nI b) 1 (nI t + 1) σ = _
      rw [nI_1]; rfl
theorem m150 {k76 k86 k99} {X2 X3 u x7 x8 : Int32} {W1 W2 a b t : Nat} {fl : Bool} (hf : (X3 ≤ X2 ↔ fl = false) ∧ (X2 ≤ X3 ↔ fl = true)) (h1 : W1 ≤ 81) (h2 : W2 ≤ 81) (ha : a ≤ 6) (hb : b ≤ 6) (ht : t ≤ 6) : F_X11_oats_b150 k76 k86 k99 X2 X3 u (nI W1) (nI W2) x7 x8 (nI a) (nI b) (nI t) (bI fl) (nI b) (nI W2) (nI a) (nI W1) (g1 W1 W2 fl t b) σ = k99 X2 X3 u (nI W1) (nI W2) x7 x8 (nI a) (nI b) (bI (okR W1 W2 fl a b t)) (nI (t + 1)) σ := by
  have q1 := gn1 (σ := σ) (fl := fl) h1 h2 ha hb
  have q3 := m186 (σ := σ) (k76 := k76) (k86 := k86) (k99 := k99) (u := u) (x7 := x7) (x8 := x8) hf h1 h2 ha hb ht
  unfold F_X11_oats_b150
  rw [q1, Option.bind_some, okR_n]
  by_cases c : g1 W1 W2 fl a b < g1 W1 W2 fl t b
  · rw [if_pos c, decide_eq_true c, if_pos rfl, nI_1]; rfl
  · rw [if_neg c, decide_eq_false c, if_neg (by decide)]
    show _ = k99 X2 X3 u (nI W1) (nI W2) x7 x8 (nI a) (nI b) (bI (!decide (g2 W1 W2 fl a b < g2 W1 W2 fl a t))) (nI (t + 1)) σ
    cases fl with
    | true => rw [if_pos (hf.2.mpr rfl)]; exact q3
    | false => rw [if_neg (fun q => by have := hf.2.mp q; cases this)]; exact q3
theorem m99 {k76 k86} {X2 X3 u f : Int32} {W1 W2 a b cc : Nat} {fl : Bool} (hf : (X3 ≤ X2 ↔ fl = false) ∧ (X2 ≤ X3 ↔ fl = true)) (h1 : W1 ≤ 81) (h2 : W2 ≤ 81) (ha : a ≤ 5) (hb : b ≤ 5) (hc : cc ≤ 100) : F_X11_oats_b99 k76 k86 4000 X2 X3 u (nI W1) (nI W2) (nI cc) f (nI a) (nI b) 1 0 σ = k86 X2 X3 u (nI W1) (nI W2) (nI (stp W1 W2 fl (cc, f) a b).1) (stp W1 W2 fl (cc, f) a b).2 (nI a) (nI (b + 1)) σ := by
  refine lpD (fun n (q : Bool) i => F_X11_oats_b99 k76 k86 n X2 X3 u (nI W1) (nI W2) (nI cc) f (nI a) (nI b) (bI q) (nI i) σ) 6 (fun i => alB2 (okR W1 W2 fl a b) i) _ ?_ ?_ 4000 (by omega)
  · intro n
    simp only [F_X11_oats_b99]
    rw [if_pos (show (6 : Int32) ≤ nI 6 from Int32.le_refl _)]
    unfold stp reB
    cases alB2 (okR W1 W2 fl a b) 6 with
    | true =>
      rw [if_neg (show ¬ bI true = 0 by decide), if_pos rfl]
      by_cases c0 : cc = 0
      · subst c0
        rw [if_pos (show nI 0 = 0 from rfl), if_neg (show ¬ bI true = 0 by decide), if_pos rfl, show (10 : Int32) = nI 10 from rfl, pk_mul, nI_add, nI_1, nI_1]
      · rw [if_neg (nI_ne0 (by omega) (by omega)), if_neg (show ¬ bI true = 0 by decide), if_neg c0, nI_1]
        rw [nI_1]
    | false =>
      rw [if_pos (show bI false = 0 from rfl), if_pos (show bI false = 0 from rfl), if_neg (by decide), nI_1, show (0 : Int32) = nI 0 from rfl, nI_add]
      rfl
  · intro n i hi
    have q3 := m150 (σ := σ) (k76 := k76) (k86 := k86) (k99 := F_X11_oats_b99 k76 k86 n) (u := u) (x7 := nI cc) (x8 := f) hf h1 h2 (show a ≤ 6 by omega) (show b ≤ 6 by omega) (show i ≤ 6 by omega)
    have q1 := gn1 (σ := σ) (fl := fl) (a := i) (b := b) h1 h2 (by omega) (by omega)
    show F_X11_oats_b99 k76 k86 (n + 1) X2 X3 u (nI W1) (nI W2) (nI cc) f (nI a) (nI b) (bI (alB2 (okR W1 W2 fl a b) i)) (nI i) σ = F_X11_oats_b99 k76 k86 n X2 X3 u (nI W1) (nI W2) (nI cc) f (nI a) (nI b) (bI (alB2 (okR W1 W2 fl a b) i && okR W1 W2 fl a b i)) (nI (i + 1)) σ
    generalize alB2 (okR W1 W2 fl a b) i = bb
    simp only [F_X11_oats_b99]
    rw [if_neg (show ¬ (6 : Int32) ≤ nI i from nI_ge (b := 6) hi (by omega))]
    cases bb with
    | false =>
      rw [if_pos (show bI false = 0 from rfl)]
      simp only [if_true, nI_1, Bool.false_and]
      rfl
    | true =>
      rw [if_neg (show ¬ bI true = 0 by decide), Bool.true_and]
      cases fl with
      | true =>
        rw [if_neg (fun q => by have := hf.1.mp q; cases this), show F_X11_gain (nI W1) (nI i) (nI W2) (nI b) 1 σ = _ from q1, Option.bind_some, if_neg (fun q => by have := hf.1.mp q; cases this)]
        exact q3
      | false =>
        rw [if_pos (hf.1.mpr rfl), show F_X11_gain (nI W1) (nI i) (nI W2) (nI b) 0 σ = _ from q1, Option.bind_some, if_pos (hf.1.mpr rfl)]
        exact q3
theorem m86 {k76} {X2 X3 u : Int32} {W1 W2 a : Nat} {s : Nat × Int32} {fl : Bool} (hf : (X3 ≤ X2 ↔ fl = false) ∧ (X2 ≤ X3 ↔ fl = true)) (h1 : W1 ≤ 81) (h2 : W2 ≤ 81) (ha : a ≤ 5) (hs : s.1 ≤ 90) : F_X11_oats_b86 k76 4000 X2 X3 u (nI W1) (nI W2) (nI s.1) s.2 (nI a) (nI 0) σ = k76 X2 X3 u (nI W1) (nI W2) (nI (inn W1 W2 fl s a 6).1) (inn W1 W2 fl s a 6).2 (nI (a + 1)) σ := by
  refine lpD (fun n (q : Nat × Int32) i => F_X11_oats_b86 k76 n X2 X3 u (nI W1) (nI W2) (nI q.1) q.2 (nI a) (nI i) σ) 6 (fun i => inn W1 W2 fl s a i) _ ?_ ?_ 4000 (by omega)
  · intro n
    simp only [F_X11_oats_b86]
    rw [if_pos (show (6 : Int32) ≤ nI 6 from Int32.le_refl _), nI_1]
  · intro n i hi
    have hl := inn_le W1 W2 fl s a i
    simp only [F_X11_oats_b86]
    rw [if_neg (show ¬ (6 : Int32) ≤ nI i from nI_ge (b := 6) hi (by omega))]
    exact m99 hf h1 h2 ha (by omega) (by omega)
theorem m76 {X2 X3 u : Int32} {W1 W2 : Nat} {fl : Bool} (hf : (X3 ≤ X2 ↔ fl = false) ∧ (X2 ≤ X3 ↔ fl = true)) (h1 : W1 ≤ 81) (h2 : W2 ≤ 81) : F_X11_oats_b76 4000 X2 X3 u (nI W1) (nI W2) (nI 0) (-9) (nI 0) σ = some (if u = 0 then nI (out W1 W2 fl 6).1 else (out W1 W2 fl 6).2, σ) := by
  refine lpD (fun n (q : Nat × Int32) i => F_X11_oats_b76 n X2 X3 u (nI W1) (nI W2) (nI q.1) q.2 (nI i) σ) 6 (fun i => out W1 W2 fl i) _ ?_ ?_ 4000 (by omega)
  · intro n
    simp only [F_X11_oats_b76]
    rw [if_pos (show (6 : Int32) ≤ nI 6 from Int32.le_refl _)]
    by_cases hu : u = 0
    · rw [if_pos hu, if_pos hu]
    · rw [if_neg hu, if_neg hu]
  · intro n i hi
    have hl := out_le W1 W2 fl i
    simp only [F_X11_oats_b76]
    rw [if_neg (show ¬ (6 : Int32) ≤ nI i from nI_ge (b := 6) hi (by omega))]
    exact m86 hf h1 h2 (by omega) (by omega)
theorem st_oats : Step_oats Inv := by
  intro a b v u σ hI0
  obtain ⟨g, P, R⟩ := id hI0
  obtain ⟨hg, hP, c, d, e, i, j, k, l, m, z⟩ := id R
  have I20 := Inv_fr hI0 (fr20 σ 0)
  have d2 : MF g (sI σ 20 0) := MF_20 d 0
  have hg2 := hg.2.1
  rcases horse_c hg a with ⟨x, hx, rfl⟩ | ⟨h1, h2⟩
  · rcases rider_c hg b with ⟨p, hp, rfl⟩ | ⟨h1, h2⟩
    · rcases rider_c hg v with ⟨q, hq, rfl⟩ | ⟨h1, h2⟩
      · by_cases hpq : p = q
        · subst hpq
          refine ⟨-2, σ, sI σ 20 0, ?_, ?_, I20⟩
          · unfold F_X10_oats
            rw [hasH_1 c hg hx, Option.bind_some, if_neg (by decide), hasR_1 c hg hp, Option.bind_some, if_neg (by decide), Option.bind_some, if_neg (by decide), if_pos rfl]
          · unfold F_X11_oats
            rw [show stI σ 20 0 = some (sI σ 20 0) from rfl, Option.bind_some, noH_1 d2 hg hx, Option.bind_some, if_pos rfl, noR_1 d2 hg hp, Option.bind_some, if_pos rfl, Option.bind_some, if_pos rfl, if_pos rfl]
        · have hne : ¬ nI p = nI q := by rw [nI_e (by omega) (by omega)]; exact hpq
          rcases two_c u with ⟨u1, u2⟩ | ⟨u1, u2⟩
          · obtain ⟨σ1, w1, w2, w3⟩ := weigh0 R
            have R1 := Rel_fr R w2
            have hWp := Wo_le hg (oS_P g P) hx hp
            have hWq := Wo_le hg (oS_P g P) hx hq
            have hf : (nI q ≤ nI p ↔ decide (p < q) = false) ∧ (nI p ≤ nI q ↔ decide (p < q) = true) := by
              rw [nI_leI (by omega) (by omega), nI_leI (by omega) (by omega), decide_eq_false_iff_not, decide_eq_true_iff]
              constructor <;> constructor <;> intro h <;> omega
            obtain ⟨σ2, o1, o2, o3, o4⟩ := xo_out (σ := σ1) (fl := decide (p < q)) hWp hWq
            have R2 := Rel_fr R1 (Fq_w o2 (fun n h => by simp [oI, pI] at h ⊢; omega) (fun _ _ => rfl) (fun h => h) : Fr σ1 σ2)
            have R3 := R_20 R2
            have hm := m76 (σ := sI σ2 20 0) (u := u) hf hWp hWq
            refine ⟨if u = 0 then nI (out (Wo g (sP g P) x p) (Wo g (sP g P) x q) (decide (p < q)) 6).1 else (out (Wo g (sP g P) x p) (Wo g (sP g P) x q) (decide (p < q)) 6).2, σ2, sI σ2 20 0, ?_, ?_, g, P, R3⟩
            · have hb54 : F_X10_oats_b54 (nI x) (nI p) (nI q) u σ = some (if u = 0 then nI (out (Wo g (sP g P) x p) (Wo g (sP g P) x q) (decide (p < q)) 6).1 else (out (Wo g (sP g P) x p) (Wo g (sP g P) x q) (decide (p < q)) 6).2, σ2) := by
                unfold F_X10_oats_b54
                rw [w1, Option.bind_some, of_ok w3 hg hx hp, Option.bind_some, of_ok w3 hg hx hq, Option.bind_some]
                by_cases hlt : p < q
                · rw [decide_eq_true hlt] at o1 o3 o4 hf ⊢
                  rw [if_neg (fun h => by have := hf.1.mp h; cases this), show F_X1_findRests (nI (Wo g (sP g P) x p)) (nI (Wo g (sP g P) x q)) 1 σ1 = _ from o1, Option.bind_some, o3, o4]
                  by_cases hu : u = 0
                  · rw [if_pos hu, if_pos hu]
                  · rw [if_neg hu, if_neg hu]
                · rw [decide_eq_false hlt] at o1 o3 o4 hf ⊢
                  rw [if_pos (hf.1.mpr rfl), show F_X1_findRests (nI (Wo g (sP g P) x p)) (nI (Wo g (sP g P) x q)) 0 σ1 = _ from o1, Option.bind_some, o3, o4]
                  by_cases hu : u = 0
                  · rw [if_pos hu, if_pos hu]
                  · rw [if_neg hu, if_neg hu]
              unfold F_X10_oats
              rw [hasH_1 c hg hx, Option.bind_some, if_neg (by decide), hasR_1 c hg hp, Option.bind_some, if_neg (by decide), hasR_1 c hg hq, Option.bind_some, if_neg (by decide), if_neg hne, hb54]
              rcases u1 with rfl | rfl <;> rfl
            · unfold F_X11_oats
              rw [show stI σ2 20 0 = some (sI σ2 20 0) from rfl, Option.bind_some, noH_1 R3.2.2.2.1 hg hx, Option.bind_some, if_pos rfl, noR_1 R3.2.2.2.1 hg hp, Option.bind_some, if_pos rfl, noR_1 R3.2.2.2.1 hg hq, Option.bind_some, if_pos rfl, if_neg hne, u2, Option.bind_some, if_neg (by decide), wo_ok R3.2.2.2.1 hg (md_R R3) hx hp, Option.bind_some, wo_ok R3.2.2.2.1 hg (md_R R3) hx hq, Option.bind_some]
              exact hm
          · refine ⟨-2, σ, sI σ 20 0, ?_, ?_, I20⟩
            · unfold F_X10_oats
              rw [hasH_1 c hg hx, Option.bind_some, if_neg (by decide), hasR_1 c hg hp, Option.bind_some, if_neg (by decide), hasR_1 c hg hq, Option.bind_some, if_neg (by decide), if_neg hne, if_neg u1.1, if_neg u1.2]
            · unfold F_X11_oats
              rw [show stI σ 20 0 = some (sI σ 20 0) from rfl, Option.bind_some, noH_1 d2 hg hx, Option.bind_some, if_pos rfl, noR_1 d2 hg hp, Option.bind_some, if_pos rfl, noR_1 d2 hg hq, Option.bind_some, if_pos rfl, if_neg hne, u2]; rfl
      · refine ⟨-1, σ, sI σ 20 0, ?_, ?_, I20⟩
        · unfold F_X10_oats; rw [hasH_1 c hg hx, Option.bind_some, if_neg (by decide), hasR_1 c hg hp, Option.bind_some, if_neg (by decide), h1 σ c]; rfl
        · unfold F_X11_oats; rw [show stI σ 20 0 = some (sI σ 20 0) from rfl, Option.bind_some, noH_1 d2 hg hx, Option.bind_some, if_pos rfl, noR_1 d2 hg hp, Option.bind_some, if_pos rfl, h2 _ d2]; rfl
    · refine ⟨-1, σ, sI σ 20 0, ?_, ?_, I20⟩
      · unfold F_X10_oats; rw [hasH_1 c hg hx, Option.bind_some, if_neg (by decide), h1 σ c]; rfl
      · unfold F_X11_oats; rw [show stI σ 20 0 = some (sI σ 20 0) from rfl, Option.bind_some, noH_1 d2 hg hx, Option.bind_some, if_pos rfl, h2 _ d2]; rfl
  · refine ⟨-1, σ, sI σ 20 0, ?_, ?_, I20⟩
    · unfold F_X10_oats; rw [h1 σ c]; rfl
    · unfold F_X11_oats; rw [show stI σ 20 0 = some (sI σ 20 0) from rfl, Option.bind_some, h2 _ d2]; rfl
