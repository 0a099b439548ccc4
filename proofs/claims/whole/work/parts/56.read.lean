-- steps that only read
variable {g : FD} {P : PD} {σ σ' : Mem}
def zN : Nat → Nat := fun _ => 0
def sP (g : FD) (P : PD) : Nat → Nat → Nat := sh g P.2.1 zN
theorem Fr_of {a : Nat} (f : Fq (fun _ => true) (fun n => n != a) true σ σ') (ha : pA a = false) : Fr σ σ' := Fq_w f (fun _ _ => rfl) (fun n hn => by
  by_cases e : n = a
  · subst e; rw [ha] at hn; cases hn
  · simp [e]) (fun h => h)
theorem weigh0 (R : Rel g P σ) : ∃ σ', F_X9_weigh 0 σ = some σ' ∧ Fr σ σ' ∧ T12 g (sP g P) σ' := by
  obtain ⟨hg, hP, c, d, e, i, j, k, l, m, z⟩ := R
  obtain ⟨σ', h1, h2, h3⟩ := weigh_ok c hg (k := 0) (by omega) e.2.1 hP.2.2
  refine ⟨σ', h1, Fr_of h2 rfl, fun h r hh hr => ?_⟩
  rw [h3 h r hh hr, Wo_e, Wo_e]
  have q : ∀ t, t < 3 → sP g P r t = g.2.2 (7 + t) r + P.2.1 (3 * r + t) := fun t ht => by
    have := hP.2.2 r t hr ht
    show min 9 (g.2.2 (7 + t) r + P.2.1 (3 * r + t) + 0) = _
    omega
  rw [q 0 (by omega), q 1 (by omega), q 2 (by omega)]
theorem md_R (R : Rel g P σ) : MD P.2.1 zN σ := by
  obtain ⟨hg, hP, c, d, e, i, j, k, l, m, z⟩ := R
  refine ⟨fun x hx => ⟨?_, hP.2.1 x hx⟩, fun x hx => ⟨z.2.1 x hx, by show 0 ≤ 9; omega⟩⟩
  have h := i.2.1 x hx
  rw [Nat.zero_add] at h
  exact h
theorem mw_R (R : Rel g P σ) : MW 58 P.1 σ := by
  obtain ⟨hg, hP, c, d, e, i, j, k, l, m, z⟩ := R
  intro r hr
  have h := i.1 r hr
  rw [Nat.zero_add] at h
  exact h
theorem cw_R (R : Rel g P σ) : CW 0 P.1 σ := R.2.2.2.2.1.1
theorem oY_R (R : Rel g P σ) : okY g P.1 := R.2.1.1
theorem oS_P (g : FD) (P : PD) : okS g (sP g P) := okS_sh g _ _
theorem R_20 (R : Rel g P σ) : Rel g P (sI σ 20 0) := Rel_fr R (fr20 σ 0)
-- pairs that bolt
def npB (g : FD) (W : Nat → Nat → Nat) (w : Nat → Nat) (n : Nat) : Nat := sumN (fun r => cntN (fun h => boB g W w r h) g.1) n
theorem np_b (hg : okG g) (W : Nat → Nat → Nat) (w : Nat → Nat) : ∀ n, npB g W w n ≤ 4 * n
  | 0 => Nat.le_refl 0
  | n + 1 => by
    have h := np_b hg W w n
    have h2 := cntN_le (fun h => boB g W w n h) g.1
    have h3 := hg.1
    show npB g W w n + cntN (fun h => boB g W w n h) g.1 ≤ _
    omega
theorem xp_in {s : Nat → Nat → Nat} {w : Nat → Nat} (c : CW 0 w σ) (cf : CF g σ) (hg : okG g) (hw : okY g w) (t : T12 g s σ) (hs : okS g s) {r a : Nat} (hr : r < g.2.1) (kL : Int32 → Int32 → Mem → Option (Int32 × Mem)) : F_X10_boltingPairs_b28 kL 4000 (nI a) (nI r) (nI 0) σ = kL (nI (a + cntN (fun h => boB g (Wo g s) w r h) g.1)) (nI (r + 1)) σ := by
  have := hg.1
  refine lpD (fun n (b : Nat) i => F_X10_boltingPairs_b28 kL n (nI b) (nI r) (nI i) σ) g.1 (fun i => a + cntN (fun h => boB g (Wo g s) w r h) i) _ ?_ ?_ 4000 (by omega)
  · intro n
    simp only [F_X10_boltingPairs_b28]
    rw [cf.1, if_pos (nI_le (Nat.le_refl _) (by omega)), nI_1]
  · intro n i hi
    simp only [F_X10_boltingPairs_b28]
    rw [cf.1, if_neg (nI_ge hi (by omega)), xb_ok (by omega) c cf hg hw t hs hr hi, Option.bind_some, nI_1, nI_1, cntN_s]
    by_cases e : boB g (Wo g s) w r i = true
    · rw [e, if_neg (by decide)]; rfl
    · rw [Bool.not_eq_true] at e; rw [e, if_pos (show bI false = 0 from rfl)]; rfl
theorem xp_ok {s : Nat → Nat → Nat} {w : Nat → Nat} (c : CW 0 w σ) (cf : CF g σ) (hg : okG g) (hw : okY g w) (t : T12 g s σ) (hs : okS g s) : F_X10_boltingPairs_b15 4000 (nI 0) (nI 0) σ = some (nI (npB g (Wo g s) w g.2.1), σ) := by
  have := hg.2.1
  refine lpD (fun n (b : Nat) i => F_X10_boltingPairs_b15 n (nI b) (nI i) σ) g.2.1 (fun i => npB g (Wo g s) w i) _ ?_ ?_ 4000 (by omega)
  · intro n
    simp only [F_X10_boltingPairs_b15]
    rw [cf.2.1, if_pos (nI_le (Nat.le_refl _) (by omega))]
  · intro n i hi
    simp only [F_X10_boltingPairs_b15]
    rw [cf.2.1, if_neg (nI_ge hi (by omega))]
    exact xp_in c cf hg hw t hs hi _
theorem mp_in {n : Nat} {w : Nat → Nat} {d x : Nat → Nat} (hn : 5 ≤ alen n) (m : MF g σ) (hg : okG g) (c : MW n w σ) (hw : okY g w) (e0 : MD d x σ) {r a : Nat} (hr : r < g.2.1) (kL : Int32 → Int32 → Option Int32) : F_X11_boltsOf_b15 n σ kL 4000 (nI a) (nI r) (nI 0) = kL (nI (a + cntN (fun h => boB g (Wo g (sh g d x)) w r h) g.1)) (nI (r + 1)) := by
  have := hg.1
  refine lpD (fun k (b : Nat) i => F_X11_boltsOf_b15 n σ kL k (nI b) (nI r) (nI i)) g.1 (fun i => a + cntN (fun h => boB g (Wo g (sh g d x)) w r h) i) _ ?_ ?_ 4000 (by omega)
  · intro k
    simp only [F_X11_boltsOf_b15]
    rw [m.1, if_pos (nI_le (Nat.le_refl _) (by omega)), nI_1]
  · intro k i hi
    simp only [F_X11_boltsOf_b15]
    rw [m.1, if_neg (nI_ge hi (by omega)), mb_ok hn m hg c hw e0 hr hi, Option.bind_some, nI_1, cntN_s]
    by_cases e : boB g (Wo g (sh g d x)) w r i = true
    · rw [e, if_neg (by decide), show (1 : Int32) = nI 1 from rfl, nI_add]; rfl
    · rw [Bool.not_eq_true] at e; rw [e, if_pos (show bI false = 0 from rfl), show (0 : Int32) = nI 0 from rfl, nI_add]; rfl
theorem mp_ok {n : Nat} {w : Nat → Nat} {d x : Nat → Nat} (hn : 5 ≤ alen n) (m : MF g σ) (hg : okG g) (c : MW n w σ) (hw : okY g w) (e0 : MD d x σ) : F_X11_boltsOf n σ = some (nI (npB g (Wo g (sh g d x)) w g.2.1)) := by
  have := hg.2.1
  unfold F_X11_boltsOf
  refine lpD (fun k (b : Nat) i => F_X11_boltsOf_b4 n σ k (nI b) (nI i)) g.2.1 (fun i => npB g (Wo g (sh g d x)) w i) _ ?_ ?_ 4000 (by omega)
  · intro k
    simp only [F_X11_boltsOf_b4]
    rw [m.2.1, if_pos (nI_le (Nat.le_refl _) (by omega))]
  · intro k i hi
    simp only [F_X11_boltsOf_b4]
    rw [m.2.1, if_neg (nI_ge hi (by omega))]
    exact mp_in hn m hg c hw e0 hi _
theorem st_about : Step_about Inv := by
  intro a σ hI
  obtain ⟨g, P, R⟩ := id hI
  obtain ⟨hg, hP, c, d, e, i, j, k, l, m, z⟩ := id R
  have I20 := Inv_fr hI (fr20 σ 0)
  by_cases a0 : a = 0
  · subst a0
    exact ⟨nI g.1, σ, sI σ 20 0, by rw [show F_X10_about 0 σ = some (σ.1 1, σ) from rfl, cf_nh c], by rw [show F_X11_about 0 σ = some (σ.1 23, sI σ 20 0) from rfl, d.1], I20⟩
  by_cases a1 : a = 1
  · subst a1
    exact ⟨nI g.2.1, σ, sI σ 20 0, by rw [show F_X10_about 1 σ = some (σ.1 2, σ) from rfl, cf_nr c], by rw [show F_X11_about 1 σ = some (σ.1 24, sI σ 20 0) from rfl, d.2.1], I20⟩
  by_cases a2 : a = 2
  · subst a2
    refine ⟨nI (bits (tkB P.1) 5), σ, sI σ 20 0, ?_, ?_, I20⟩
    · rw [show F_X10_about 2 σ = Option.bind (F_X7_takenBits 0 σ) fun q1 => some (q1, σ) from rfl, tb_ok (by omega) (cw_R R) (fun x hx => okW_b (oY_R R) hg hx)]; rfl
    · rw [show F_X11_about 2 σ = Option.bind (F_X11_takenOf 58 (sI σ 20 0)) fun q1 => some (q1, (sI σ 20 0)) from rfl, to_ok (by decide) (R_20 R).2.2.2.1 hg (mw_R (R_20 R)) (oY_R R)]; rfl
  by_cases a3 : a = 3
  · subst a3
    refine ⟨P.2.2, σ, sI σ 20 0, ?_, ?_, I20⟩
    · rw [show F_X10_about 3 σ = some (σ.1 (40 + 0), σ) from rfl, e.2.2]
    · rw [show F_X11_about 3 σ = Option.bind (rdA (sI σ 20 0) 58 (20 : Int32)) fun v => some (v, sI σ 20 0) from rfl, show (20 : Int32) = nI 20 from rfl, rd_58 (by omega), Option.bind_some]
      have h := (R_20 R).2.2.2.2.2.1.2.2
      rw [Nat.zero_add] at h
      rw [h]
  by_cases a4 : a = 4
  · subst a4
    obtain ⟨f, n, Q, h1, h2, h3, h4, h5⟩ := k
    exact ⟨nI n, σ, sI σ 20 0, by rw [show F_X10_about 4 σ = some (σ.1 4, σ) from rfl, h4.2.1], by rw [show F_X11_about 4 σ = some (σ.1 27, sI σ 20 0) from rfl, h5.1], I20⟩
  by_cases a5 : a = 5
  · subst a5
    obtain ⟨n, h1, h2, h3, h4⟩ := m
    exact ⟨nI n, σ, sI σ 20 0, by rw [show F_X10_about 5 σ = some (σ.1 5, σ) from rfl, h2], by rw [show F_X11_about 5 σ = some (σ.1 28, sI σ 20 0) from rfl, h3], I20⟩
  by_cases a6 : a = 6
  · subst a6
    obtain ⟨n, h1, h2, h3, h4⟩ := j
    exact ⟨nI n, σ, sI σ 20 0, by rw [show F_X10_about 6 σ = some (σ.1 0, σ) from rfl, h2], by rw [show F_X11_about 6 σ = some (σ.1 21, sI σ 20 0) from rfl, h3], I20⟩
  by_cases a7 : a = 7
  · subst a7
    obtain ⟨σ1, w1, w2, w3⟩ := weigh0 R
    have R1 := Rel_fr R w2
    have R2 := R_20 R1
    refine ⟨nI (npB g (Wo g (sP g P)) P.1 g.2.1), σ1, sI σ1 20 0, ?_, ?_, ⟨g, P, R2⟩⟩
    · rw [show F_X10_about 7 σ = Option.bind (F_X10_boltingPairs σ) fun q2 => some (q2.1, q2.2) from rfl]
      unfold F_X10_boltingPairs
      rw [w1, Option.bind_some, show (0 : Int32) = nI 0 from rfl, xp_ok (cw_R R1) R1.2.2.1 hg (oY_R R) w3 (oS_P g P)]; rfl
    · rw [show F_X11_about 7 σ1 = Option.bind (F_X11_boltsOf 58 (sI σ1 20 0)) fun q => some (q, sI σ1 20 0) from rfl, mp_ok (by decide) R2.2.2.2.1 hg (mw_R R2) (oY_R R) (md_R R2)]; rfl
  refine ⟨-2, σ, sI σ 20 0, ?_, ?_, I20⟩
  · unfold F_X10_about
    rw [if_neg a0, if_neg a1, if_neg a2, if_neg a3, if_neg a4, if_neg a5, if_neg a6, if_neg a7]
  · unfold F_X11_about
    simp only [stI, Option.bind_some]
    rw [if_neg a0, if_neg a1, if_neg a2, if_neg a3, if_neg a4, if_neg a5, if_neg a6, if_neg a7]
theorem fig_1 {n i b : Nat} {x y w : Nat} (h : 3 * i + 2 < alen n) (h0 : σ.2.1 n (3 * i) = nI x) (h1 : σ.2.1 n (3 * i + 1) = nI y) (h2 : σ.2.1 n (3 * i + 2) = nI w) : F_X10_asFigures n (nI i) σ = some (nI (100 * x + 10 * y + w)) := by
  unfold F_X10_asFigures
  rw [show (3 : Int32) = nI 3 from rfl, show (1 : Int32) = nI 1 from rfl, show (2 : Int32) = nI 2 from rfl, show (100 : Int32) = nI 100 from rfl, show (10 : Int32) = nI 10 from rfl]
  simp only [pk_mul, nI_add]
  rw [at_ok (by omega), at_ok (by omega), at_ok (by omega), h0, h1, h2]
  simp only [Option.bind_some, pk_mul, nI_add]
theorem st_horse : Step_horse Inv := by
  intro a b σ hI
  obtain ⟨g, P, R⟩ := id hI
  obtain ⟨hg, hP, c, d, e, i, j, k, l, m, z⟩ := id R
  have I20 := Inv_fr hI (fr20 σ 0)
  have hg1 := hg.1
  have d2 : MF g (sI σ 20 0) := MF_20 d 0
  rcases horse_c hg a with ⟨x, hx, rfl⟩ | ⟨h1, h2⟩
  · have hA : F_X10_horse (nI x) b σ = (if b = 0 then some (σ.2.1 1 x) else if b = 1 then F_X10_asFigures 2 (nI x) σ else if b = 2 then some (σ.2.1 3 x) else if b = 3 then some (σ.2.1 4 x) else if b = 4 then some (σ.2.1 5 x) else if b = 5 then F_X7_keptBits 0 (nI x) σ else some (-2)) := by
      unfold F_X10_horse
      rw [hasH_1 c hg hx, Option.bind_some, if_neg (by decide), at_1 (by omega), at_3 (by omega), at_4 (by omega), at_5 (by omega)]
      simp only [Option.bind_some, Option.bind_fun_some]
    have hB : F_X11_horse (nI x) b σ = (if b = 0 then some (σ.2.1 54 (7 * x), sI σ 20 0) else if b = 1 then some (((nI 100 * σ.2.1 54 (7 * x + 1)) + (nI 10 * σ.2.1 54 (7 * x + 2))) + σ.2.1 54 (7 * x + 3), sI σ 20 0) else if b = 2 then some (σ.2.1 54 (7 * x + 4), sI σ 20 0) else if b = 3 then some (σ.2.1 54 (7 * x + 5), sI σ 20 0) else if b = 4 then some (σ.2.1 54 (7 * x + 6), sI σ 20 0) else if b = 5 then (F_X11_keeps 58 (nI x) (sI σ 20 0)).bind (fun q => some (q, sI σ 20 0)) else some (-2, sI σ 20 0)) := by
      unfold F_X11_horse
      simp only [stI, Option.bind_some]
      have q : ∀ k, k < 7 → rdA (sI σ 20 0) 54 (nI 7 * nI x + nI k) = some (σ.2.1 54 (7 * x + k)) := fun k hk => by rw [pk_mul, nI_add, rd_54 (by omega)]; rfl
      have q0 : rdA (sI σ 20 0) 54 (nI 7 * nI x) = some (σ.2.1 54 (7 * x)) := by rw [pk_mul, rd_54 (by omega)]; rfl
      rw [noH_1 d2 hg hx, Option.bind_some, if_pos rfl]
      have q1 := q 1 (by omega); have q2 := q 2 (by omega); have q3 := q 3 (by omega); have q4 := q 4 (by omega); have q5 := q 5 (by omega); have q6 := q 6 (by omega)
      rw [show rdA (sI σ 20 0) 54 ((7 : Int32) * nI x) = _ from q0, show rdA (sI σ 20 0) 54 ((7 : Int32) * nI x + 1) = _ from q1, show rdA (sI σ 20 0) 54 ((7 : Int32) * nI x + 2) = _ from q2, show rdA (sI σ 20 0) 54 ((7 : Int32) * nI x + 3) = _ from q3, show rdA (sI σ 20 0) 54 ((7 : Int32) * nI x + 4) = _ from q4, show rdA (sI σ 20 0) 54 ((7 : Int32) * nI x + 5) = _ from q5, show rdA (sI σ 20 0) 54 ((7 : Int32) * nI x + 6) = _ from q6]
      simp only [Option.bind_some]
      rfl
    have f0 := mf_h0 d hx
    have f := fun k (hk : k < 7) => mf_h d hx hk
    rw [hA, hB, f0, f 1 (by omega), f 2 (by omega), f 3 (by omega), f 4 (by omega), f 5 (by omega), f 6 (by omega), cf_k c hx, cf_s c hx, cf_a c hx, cf_l c hx, fig_1 (b := 0) (n := 2) (by show _ < 12; omega) (cf_w0 c hx) (cf_w1 c hx) (cf_w2 c hx), kb_ok (by omega) (cw_R R) (fun x hx => okW_b (oY_R R) hg hx) (by omega), ks_ok (by decide) (R_20 R).2.2.2.1 hg (mw_R (R_20 R)) (oY_R R) (by omega), pk_mul, pk_mul, nI_add, nI_add, Option.bind_some]
    by_cases b0 : b = 0
    · exact ⟨_, sI σ 20 0, by rw [if_pos b0], by rw [if_pos b0], I20⟩
    by_cases b1 : b = 1
    · exact ⟨_, sI σ 20 0, by rw [if_neg b0, if_pos b1], by rw [if_neg b0, if_pos b1], I20⟩
    by_cases b2 : b = 2
    · exact ⟨_, sI σ 20 0, by rw [if_neg b0, if_neg b1, if_pos b2], by rw [if_neg b0, if_neg b1, if_pos b2], I20⟩
    by_cases b3 : b = 3
    · exact ⟨_, sI σ 20 0, by rw [if_neg b0, if_neg b1, if_neg b2, if_pos b3], by rw [if_neg b0, if_neg b1, if_neg b2, if_pos b3], I20⟩
    by_cases b4 : b = 4
    · exact ⟨_, sI σ 20 0, by rw [if_neg b0, if_neg b1, if_neg b2, if_neg b3, if_pos b4], by rw [if_neg b0, if_neg b1, if_neg b2, if_neg b3, if_pos b4], I20⟩
    by_cases b5 : b = 5
    · exact ⟨_, sI σ 20 0, by rw [if_neg b0, if_neg b1, if_neg b2, if_neg b3, if_neg b4, if_pos b5], by rw [if_neg b0, if_neg b1, if_neg b2, if_neg b3, if_neg b4, if_pos b5], I20⟩
    exact ⟨-2, sI σ 20 0, by rw [if_neg b0, if_neg b1, if_neg b2, if_neg b3, if_neg b4, if_neg b5], by rw [if_neg b0, if_neg b1, if_neg b2, if_neg b3, if_neg b4, if_neg b5], I20⟩
  · refine ⟨-1, sI σ 20 0, ?_, ?_, I20⟩
    · unfold F_X10_horse; rw [h1 σ c, Option.bind_some, if_pos rfl]
    · unfold F_X11_horse; simp only [stI, Option.bind_some]; rw [h2 _ d2, Option.bind_some, if_neg (by decide)]
theorem st_worth : Step_worth Inv := by
  intro a b σ hI
  obtain ⟨g, P, R⟩ := id hI
  obtain ⟨hg, hP, c, d, e, i, j, k, l, m, z⟩ := id R
  have I20 := Inv_fr hI (fr20 σ 0)
  have d2 : MF g (sI σ 20 0) := MF_20 d 0
  rcases horse_c hg a with ⟨x, hx, rfl⟩ | ⟨h1, h2⟩
  · rcases rider_c hg b with ⟨y, hy, rfl⟩ | ⟨h1, h2⟩
    · obtain ⟨σ1, w1, w2, w3⟩ := weigh0 R
      have R1 := Rel_fr R w2
      have R2 := R_20 R1
      refine ⟨nI (Wo g (sP g P) x y), σ1, sI σ1 20 0, ?_, ?_, ⟨g, P, R2⟩⟩
      · unfold F_X10_worth
        rw [hasH_1 c hg hx, Option.bind_some, if_neg (by decide), hasR_1 c hg hy, Option.bind_some, if_neg (by decide), w1, Option.bind_some, of_ok w3 hg hx hy]; rfl
      · unfold F_X11_worth
        simp only [stI, Option.bind_some]
        rw [noH_1 R2.2.2.2.1 hg hx, Option.bind_some, if_pos rfl, noR_1 R2.2.2.2.1 hg hy, Option.bind_some, if_pos rfl, wo_ok R2.2.2.2.1 hg (md_R R2) hx hy]; rfl
    · refine ⟨-1, σ, sI σ 20 0, ?_, ?_, I20⟩
      · unfold F_X10_worth; rw [hasH_1 c hg hx, Option.bind_some, if_neg (by decide), h1 σ c]; rfl
      · unfold F_X11_worth; simp only [stI, Option.bind_some]; rw [noH_1 d2 hg hx, Option.bind_some, if_pos rfl, h2 _ d2]; rfl
  · refine ⟨-1, σ, sI σ 20 0, ?_, ?_, I20⟩
    · unfold F_X10_worth; rw [h1 σ c]; rfl
    · unfold F_X11_worth; simp only [stI, Option.bind_some]; rw [h2 _ d2]; rfl
theorem st_bolts : Step_bolts Inv := by
  intro a b σ hI
  obtain ⟨g, P, R⟩ := id hI
  obtain ⟨hg, hP, c, d, e, i, j, k, l, m, z⟩ := id R
  have I20 := Inv_fr hI (fr20 σ 0)
  have d2 : MF g (sI σ 20 0) := MF_20 d 0
  rcases rider_c hg a with ⟨x, hx, rfl⟩ | ⟨h1, h2⟩
  · rcases horse_c hg b with ⟨y, hy, rfl⟩ | ⟨h1, h2⟩
    · obtain ⟨σ1, w1, w2, w3⟩ := weigh0 R
      have R1 := Rel_fr R w2
      have R2 := R_20 R1
      refine ⟨bI (boB g (Wo g (sP g P)) P.1 x y), σ1, sI σ1 20 0, ?_, ?_, ⟨g, P, R2⟩⟩
      · unfold F_X10_bolts
        rw [hasR_1 c hg hx, Option.bind_some, if_neg (by decide), hasH_1 c hg hy, Option.bind_some, if_neg (by decide), w1, Option.bind_some, xb_ok (by omega) (cw_R R1) R1.2.2.1 hg (oY_R R) w3 (oS_P g P) hx hy, Option.bind_some]
        cases boB g (Wo g (sP g P)) P.1 x y <;> rfl
      · unfold F_X11_bolts
        simp only [stI, Option.bind_some]
        rw [noR_1 R2.2.2.2.1 hg hx, Option.bind_some, if_pos rfl, noH_1 R2.2.2.2.1 hg hy, Option.bind_some, if_pos rfl, mb_ok (by decide) R2.2.2.2.1 hg (mw_R R2) (oY_R R) (md_R R2) hx hy, Option.bind_some]
        show (if bI (boB g (Wo g (sP g P)) P.1 x y) = 0 then _ else _) = _
        cases boB g (Wo g (sP g P)) P.1 x y <;> rfl
    · refine ⟨-1, σ, sI σ 20 0, ?_, ?_, I20⟩
      · unfold F_X10_bolts; rw [hasR_1 c hg hx, Option.bind_some, if_neg (by decide), h1 σ c]; rfl
      · unfold F_X11_bolts; simp only [stI, Option.bind_some]; rw [noR_1 d2 hg hx, Option.bind_some, if_pos rfl, h2 _ d2]; rfl
  · refine ⟨-1, σ, sI σ 20 0, ?_, ?_, I20⟩
    · unfold F_X10_bolts; rw [h1 σ c]; rfl
    · unfold F_X11_bolts; simp only [stI, Option.bind_some]; rw [h2 _ d2]; rfl
