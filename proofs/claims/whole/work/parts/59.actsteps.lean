-- steps: led, dressed, given back, the bell, undone
variable {g : FD} {P P' : PD} {σ σ' : Mem}
def lI (n : Nat) : Bool := n != 3 && n != 4 && n != 20 && n != 27 && !(40 ≤ n && n < 55)
def lA (n : Nat) : Bool := n != 12 && !(15 ≤ n && n < 30) && !(36 ≤ n && n < 51) && n != 58 && n != 59
def mI (n : Nat) : Bool := n != 3 && n != 4 && n != 20 && !(40 ≤ n && n < 55)
def mA (n : Nat) : Bool := n != 12 && !(15 ≤ n && n < 30) && !(36 ≤ n && n < 51)
theorem Rel_mk (R : Rel g P σ) (f : Fq lI lA true σ σ') (hP' : okP g P') (e : CP 0 P' σ') (i : MP 58 0 P' σ') {fa c : Nat} {Q : Nat → PD} (hf : fa < 14) (hc : c ≤ 14) (hQ : ∀ j, j < c → okP g (Q j)) (hC : CA fa c Q σ') (hM : MA c Q σ') : Rel g P' σ' := by
  obtain ⟨hg, hP, c, d, e0, i0, j, k, l, m, z⟩ := R
  exact ⟨hg, hP', CF_fr c f, MF_fr d f, e, i, RT_fr j f, ⟨fa, _, Q, hf, hc, hQ, hC, hM⟩, RS_fr l f, RC_fr m f, RZ_fr z f⟩
theorem md_of (hP : okP g P) (i : MP 58 0 P σ) (z : ∀ x, x < 15 → σ.2.1 66 x = 0) : MD P.2.1 zN σ := by
  refine ⟨fun x hx => ⟨?_, hP.2.1 x hx⟩, fun x hx => ⟨z x hx, by show 0 ≤ 9; omega⟩⟩
  have h := i.2.1 x hx
  rw [Nat.zero_add] at h
  exact h
theorem mw_of (i : MP 58 0 P σ) : MW 58 P.1 σ := by
  intro r hr
  have h := i.1 r hr
  rw [Nat.zero_add] at h
  exact h
theorem mp_mk (h1 : MW 58 P.1 σ) (h2 : ∀ x, x < 15 → σ.2.1 58 (5 + x) = nI (P.2.1 x)) (h3 : σ.2.1 58 20 = P.2.2) : MP 58 0 P σ := by
  refine ⟨fun r hr => by rw [Nat.zero_add]; exact h1 r hr, fun x hx => by rw [Nat.zero_add]; exact h2 x hx, h3⟩
theorem inN (a : Int32) {n : Nat} (hn : n < 2 ^ 30) : (∃ t, t ≤ n ∧ a = nI t ∧ ∀ σ, F_X11_in a.toInt64 (nI 0).toInt64 (nI n).toInt64 σ = some 1) ∨ ((a < 0 ∨ nI (n + 1) ≤ a) ∧ ∀ σ, F_X11_in a.toInt64 (nI 0).toInt64 (nI n).toInt64 σ = some 0) := by
  rcases pk_ix a (n := n + 1) (by omega) with h | h | ⟨t, h1, h2⟩
  · exact .inr ⟨.inl h, fun σ => in_0 (b := nI 0) (.inl h)⟩
  · refine .inr ⟨.inr h, fun σ => in_0 (.inr ?_)⟩
    rw [Int32.le_iff_toInt_le, nI_toInt (by omega)] at h
    rw [Int32.lt_iff_toInt_lt, nI_toInt (by omega)]
    omega
  · subst h2
    refine .inl ⟨t, by omega, rfl, fun σ => in_1 ?_⟩
    rw [nI_neg (by omega), nI_l2 (by omega) (by omega), false_or]; omega
theorem xs_ok (c : CF g σ) (hg : okG g) (hP : okP g P) (e : CP 0 P σ) {x t : Nat} (hx : x < g.2.1) (ht : t < 3) : F_X10_shown (nI x) (nI t) σ = some (nI (sP g P x t)) ∧ sP g P x t = g.2.2 (7 + t) x + P.2.1 (3 * x + t) := by
  have := hg.2.1
  have h3 := hP.2.2 x t hx ht
  have q : sP g P x t = g.2.2 (7 + t) x + P.2.1 (3 * x + t) := by
    show min 9 (g.2.2 (7 + t) x + P.2.1 (3 * x + t) + 0) = _
    omega
  refine ⟨?_, q⟩
  unfold F_X10_shown
  have h4 : σ.2.1 36 (3 * x + t) = nI (P.2.1 (3 * x + t)) := e.2.1 (3 * x + t) (by omega)
  rw [show (3 : Int32) = nI 3 from rfl, pk_mul, nI_add, at_6 (by omega), Option.bind_some, cf_t c hx ht, show (36 + 0 : Nat) = 36 from rfl, at_36 (by omega), Option.bind_some, h4, nI_add, q]
theorem w_m {f1 f2 : Nat → Bool} (f : Fq f1 f2 true σ σ') (h1 : ∀ n, mI n = true → f1 n = true) (h2 : ∀ n, mA n = true → f2 n = true) : Fq mI mA true σ σ' := Fq_w f h1 h2 (fun h => h)
theorem w_r (f : Fq rI rA true σ σ') : Fq mI mA true σ σ' := w_m f (fun n h => by simp [mI, rI] at h ⊢; omega) (fun n h => by simp [mA, rA] at h ⊢; omega)
theorem w_1 {a : Nat} (f : Fq (fun _ => true) (fun n => n != a) true σ σ') (ha : mA a = false) : Fq mI mA true σ σ' := w_m f (fun _ _ => rfl) (fun n h => by
  by_cases e : n = a
  · subst e; rw [ha] at h; cases h
  · simp [e])
theorem w_l (f : Fq mI mA true σ σ') : Fq lI lA true σ σ' := Fq_w f (fun n h => by simp [mI, lI] at h ⊢; omega) (fun n h => by simp [mA, lA] at h ⊢; omega) (fun h => h)
def nN (n : Nat) : Bool := n != 20 && n != 27
def nA (n : Nat) : Bool := n != 58 && n != 59
theorem w_n (f : Fq nN nA true σ σ') : Fq lI lA true σ σ' := Fq_w f (fun n h => by simp [nN, lI] at h ⊢; omega) (fun n h => by simp [nA, lA] at h ⊢; omega) (fun h => h)
theorem st_lead : Step_lead Inv := by
  intro a b σ hI0
  obtain ⟨g, P, R⟩ := id hI0
  obtain ⟨hg, hP, c, d, e, i, j, k, l, m, z⟩ := id R
  have I20 := Inv_fr hI0 (fr20 σ 0)
  have hg1 := hg.1
  have hg2 := hg.2.1
  have R2 := R_20 R
  have d2 : MF g (sI σ 20 0) := MF_20 d 0
  rcases rider_c hg a with ⟨x, hx, rfl⟩ | ⟨h1, h2⟩
  · rcases horse_c hg b with ⟨y, hy, rfl⟩ | ⟨h1, h2⟩
    · have hx5 : x < 5 := by omega
      have hw := okY_v (oY_R R) hx5
      by_cases ht : P.1 x = 9
      · obtain ⟨fa, ca, Q, k1, k2, k3, k4, k5⟩ := k
        obtain ⟨σ1, f', r1, r2, r3, r4⟩ := rem_ok k4 k1 k2 e
        have c1 := CF_fr c r4
        have e1 := CP_fr e r4
        obtain ⟨σ2, w1, w2, w3⟩ := weigh1 c1 hg hP e1
        have c2 := CF_fr c1 w2
        have e2 := CP_fr e1 w2
        obtain ⟨σ3, l1, l2, l3⟩ := ld_ok (k := 0) (by omega) e2.1 c2 hg hP.1 w3 (oS_P g P) hx hy
        have F13 : Fq mI mA true σ σ3 := Fq_t (w_r r4) (Fq_t (w_1 w2 rfl) (w_1 l2 rfl))
        have F14 : Fq mI mA true σ (sI σ3 20 0) := Fq_sI F13
        have d4 := MF_fr d F14
        obtain ⟨σ5, n1, n2, n3⟩ := note_ok (MA_fr k5 F14) k2 (MP_fr i F14)
        have d5 := MF_fr d4 n3
        have i5 := MP_fr (MP_fr i F14) n3
        have z5 : ∀ q, q < 15 → σ5.2.1 66 q = 0 := by rw [n3.2.1 66 rfl, F14.2.1 66 rfl]; exact z.2.1
        obtain ⟨σ6, g1, g2, g3, g4⟩ := go_ok (n := 58) (by decide) d5 hg (mw_of i5) hP.1 (md_of hP i5 z5) hx hy
        have F36 : Fq nN nA true σ3 σ6 := Fq_t (Fq_sI (n := 20) (v := 0) (Fq_r σ3)) (Fq_t (Fq_w n3 (fun n h => by simp [nN] at h ⊢; omega) (fun n h => by simp [nA] at h ⊢; omega) (fun h => h)) (Fq_w g2 (fun _ _ => rfl) (fun n h => by simp [nA] at h ⊢; omega) (fun h => h)))
        refine ⟨bI (leadB g (Wo g (sP g P)) P.1 x y), σ3, σ6, ?_, ?_, g, (leadW g (Wo g (sP g P)) P.1 x y, P.2), ?_⟩
        · unfold F_X10_lead
          rw [hasR_1 c hg hx, Option.bind_some, if_neg (by decide), hasH_1 c hg hy, Option.bind_some, if_neg (by decide), hof_ok (by omega) (cw_R R) hx5, Option.bind_some, if_pos (by rw [ht]; rfl), r1, Option.bind_some, w1, Option.bind_some, l1, Option.bind_some]
          cases leadB g (Wo g (sP g P)) P.1 x y <;> rfl
        · unfold F_X11_lead
          have h58 : (sI σ3 20 0).2.1 58 x = hI (P.1 x) := by rw [F14.2.1 58 rfl]; exact mw_R R x hx5
          simp only [stI, Option.bind_some]
          rw [noR_1 d4 hg hx, Option.bind_some, if_pos rfl, noH_1 d4 hg hy, Option.bind_some, if_pos rfl, rd_58 (by omega), h58, Option.bind_some, if_pos (by rw [ht]; rfl), n1, Option.bind_some, g1, Option.bind_some]
          show (if bI (leadB g (Wo g (sP g P)) P.1 x y) = 0 then _ else _) = _
          cases leadB g (Wo g (sP g P)) P.1 x y <;> rfl
        · refine Rel_mk R (Fq_t (w_l F13) (w_n F36)) ⟨okW_ld hP.1 hx hy, hP.2⟩ ?_ ?_ r2 (cN_le k2) (okQ_push k2 k3 hP) ?_ ?_
          · have e3 : CP 0 (leadW g (Wo g (sP g P)) P.1 x y, P.2) σ3 := ⟨l3, by rw [l2.2.1 _ rfl]; exact e2.2.1, by rw [l2.1 _ rfl]; exact e2.2.2⟩
            exact CP_fr e3 F36
          · refine mp_mk g4 (fun q hq => ?_) ?_
            · rw [g3 _ (by omega)]; have h := i5.2.1 q hq; rw [Nat.zero_add] at h; exact h
            · rw [g3 _ (by omega)]; exact i5.2.2
          · exact CA_fr (CA_fr (CA_fr r3 w2) l2) F36
          · exact MA_fr n2 g2
      · refine ⟨-3, σ, sI σ 20 0, ?_, ?_, I20⟩
        · unfold F_X10_lead
          rw [hasR_1 c hg hx, Option.bind_some, if_neg (by decide), hasH_1 c hg hy, Option.bind_some, if_neg (by decide), hof_ok (by omega) (cw_R R) hx5, Option.bind_some, if_neg (by rw [hI_m9 (by omega)]; exact ht)]
        · unfold F_X11_lead
          simp only [stI, Option.bind_some]
          rw [noR_1 d2 hg hx, Option.bind_some, if_pos rfl, noH_1 d2 hg hy, Option.bind_some, if_pos rfl, rd_58 (by omega), mw_R R2 x hx5, Option.bind_some, if_neg (by rw [hI_m9 (by omega)]; exact ht)]
    · refine ⟨-1, σ, sI σ 20 0, ?_, ?_, I20⟩
      · unfold F_X10_lead; rw [hasR_1 c hg hx, Option.bind_some, if_neg (by decide), h1 σ c]; rfl
      · unfold F_X11_lead; simp only [stI, Option.bind_some]; rw [noR_1 d2 hg hx, Option.bind_some, if_pos rfl, h2 _ d2]; rfl
  · refine ⟨-1, σ, sI σ 20 0, ?_, ?_, I20⟩
    · unfold F_X10_lead; rw [h1 σ c]; rfl
    · unfold F_X11_lead; simp only [stI, Option.bind_some]; rw [h2 _ d2]; rfl
theorem st_giveBack : Step_giveBack Inv := by
  intro a σ hI0
  obtain ⟨g, P, R⟩ := id hI0
  obtain ⟨hg, hP, c, d, e, i, j, k, l, m, z⟩ := id R
  have I20 := Inv_fr hI0 (fr20 σ 0)
  have hg1 := hg.1
  have hg2 := hg.2.1
  have R2 := R_20 R
  have d2 : MF g (sI σ 20 0) := MF_20 d 0
  rcases rider_c hg a with ⟨x, hx, rfl⟩ | ⟨h1, h2⟩
  · have hx5 : x < 5 := by omega
    have hw := okY_v (oY_R R) hx5
    by_cases ht : P.1 x = 9
    · refine ⟨-3, σ, sI σ 20 0, ?_, ?_, I20⟩
      · unfold F_X10_giveBack
        rw [hasR_1 c hg hx, Option.bind_some, if_neg (by decide), hof_ok (by omega) (cw_R R) hx5, Option.bind_some, if_pos (by rw [ht]; rfl)]
      · unfold F_X11_giveBack
        simp only [stI, Option.bind_some]
        rw [noR_1 d2 hg hx, Option.bind_some, if_pos rfl, rd_58 (by omega), mw_R R2 x hx5, Option.bind_some, if_pos (by rw [ht]; rfl)]
    · obtain ⟨fa, ca, Q, k1, k2, k3, k4, k5⟩ := k
      obtain ⟨σ1, f', r1, r2, r3, r4⟩ := rem_ok k4 k1 k2 e
      have e1 := CP_fr e r4
      have s3 := set_ok (k := 0) (by omega) e1.1 (r := x) (h := 9) hx5
      rw [hI_9] at s3
      have l2 : Fq (fun _ => true) (fun n => n != 15 + 0) true σ1 (sA σ1 (15 + 0) x (-9)) := Fq_sA (Fq_r σ1)
      generalize sA σ1 (15 + 0) x (-9) = σ3 at *
      have F13 : Fq mI mA true σ σ3 := Fq_t (w_r r4) (w_1 l2 rfl)
      have F14 : Fq mI mA true σ (sI σ3 20 0) := Fq_sI F13
      have d4 := MF_fr d F14
      obtain ⟨σ5, n1, n2, n3⟩ := note_ok (MA_fr k5 F14) k2 (MP_fr i F14)
      have i5 := MP_fr (MP_fr i F14) n3
      have g2 : Fq (fun _ => true) (fun n => n != 58) true σ5 (sA σ5 58 x (-9)) := Fq_sA (Fq_r σ5)
      have F36 : Fq nN nA true σ3 (sA σ5 58 x (-9)) := Fq_t (Fq_sI (n := 20) (v := 0) (Fq_r σ3)) (Fq_t (Fq_w n3 (fun n h => by simp [nN] at h ⊢; omega) (fun n h => by simp [nA] at h ⊢; omega) (fun h => h)) (Fq_w g2 (fun _ _ => rfl) (fun n h => by simp [nA] at h ⊢; omega) (fun h => h)))
      have h58 : (sI σ3 20 0).2.1 58 x = hI (P.1 x) := by rw [F14.2.1 58 rfl]; exact mw_R R x hx5
      refine ⟨hI (P.1 x), σ3, sA σ5 58 x (-9), ?_, ?_, g, (upN P.1 x 9, P.2), ?_⟩
      · unfold F_X10_giveBack
        rw [hasR_1 c hg hx, Option.bind_some, if_neg (by decide), hof_ok (by omega) (cw_R R) hx5, Option.bind_some, if_neg (by rw [hI_m9 (by omega)]; exact ht), r1, Option.bind_some, s3.1]; rfl
      · unfold F_X11_giveBack
        simp only [stI, Option.bind_some]
        rw [noR_1 d4 hg hx, Option.bind_some, if_pos rfl, rd_58 (by omega), h58, Option.bind_some, if_neg (by rw [hI_m9 (by omega)]; exact ht), n1, Option.bind_some, wr_58 (by omega)]; rfl
      · refine Rel_mk R (Fq_t (w_l F13) (w_n F36)) ⟨okW_u9 hP.1, hP.2⟩ ?_ ?_ r2 (cN_le k2) (okQ_push k2 k3 hP) ?_ ?_
        · have e3 : CP 0 (upN P.1 x 9, P.2) σ3 := ⟨s3.2, by rw [l2.2.1 _ rfl]; exact e1.2.1, by rw [l2.1 _ rfl]; exact e1.2.2⟩
          exact CP_fr e3 F36
        · have g4 := mw_set (mw_of i5) (r := x) (h := 9)
          rw [hI_9] at g4
          refine mp_mk g4 (fun q hq => ?_) ?_
          · rw [sA_2, if_pos rfl, upd_ap, if_neg (by omega)]; have h := i5.2.1 q hq; rw [Nat.zero_add] at h; exact h
          · rw [sA_2, if_pos rfl, upd_ap, if_neg (by omega)]; exact i5.2.2
        · exact CA_fr (CA_fr r3 l2) F36
        · exact MA_fr n2 g2
  · refine ⟨-1, σ, sI σ 20 0, ?_, ?_, I20⟩
    · unfold F_X10_giveBack; rw [h1 σ c]; rfl
    · unfold F_X11_giveBack; simp only [stI, Option.bind_some]; rw [h2 _ d2]; rfl
theorem trait_c (a : Int32) : (∃ t, t < 3 ∧ a = nI t ∧ (∀ σ, F_X10_isTrait a σ = some 1) ∧ ∀ σ, F_X11_in a.toInt64 (0 : Int64) (2 : Int64) σ = some 1) ∨ ((∀ σ, F_X10_isTrait a σ = some 0) ∧ ∀ σ, F_X11_in a.toInt64 (0 : Int64) (2 : Int64) σ = some 0) := by
  rcases inN a (n := 2) (by omega) with ⟨t, h1, h2, h3⟩ | ⟨h1, h2⟩
  · subst h2
    refine .inl ⟨t, by omega, rfl, fun σ => ?_, h3⟩
    unfold F_X10_isTrait
    rw [if_neg (nI_pos (by omega)), if_neg (show ¬ (3 : Int32) ≤ nI t from nI_ge (b := 3) (by omega) (by omega))]
  · refine .inr ⟨fun σ => ?_, h2⟩
    unfold F_X10_isTrait
    by_cases e : a < 0
    · rw [if_pos e]
    · rcases h1 with h1 | h1
      · exact absurd h1 e
      · rw [if_neg e, if_pos (show (3 : Int32) ≤ a from h1)]
theorem st_dress : Step_dress Inv := by
  intro a b σ hI0
  obtain ⟨g, P, R⟩ := id hI0
  obtain ⟨hg, hP, c, d, e, i, j, k, l, m, z⟩ := id R
  have I20 := Inv_fr hI0 (fr20 σ 0)
  have hg1 := hg.1
  have hg2 := hg.2.1
  have R2 := R_20 R
  have d2 : MF g (sI σ 20 0) := MF_20 d 0
  rcases rider_c hg a with ⟨x, hx, rfl⟩ | ⟨h1, h2⟩
  · rcases trait_c b with ⟨t, ht, rfl, t1, t2⟩ | ⟨t1, t2⟩
    · have hs := xs_ok c hg hP e hx ht
      have hle := hP.2.2 x t hx ht
      have hm : ∀ τ, MF g τ → MP 58 0 P τ → (∀ q, q < 15 → τ.2.1 66 q = 0) → F_X11_shows (nI x) (nI t) τ = some (nI (sP g P x t)) := fun τ q1 q2 q3 => sh_ok q1 hg (md_of hP q2 q3) hx ht
      by_cases h9 : sP g P x t = 9
      · refine ⟨-4, σ, sI σ 20 0, ?_, ?_, I20⟩
        · unfold F_X10_dress
          rw [hasR_1 c hg hx, Option.bind_some, if_neg (by decide), t1 σ, Option.bind_some, if_neg (by decide), hs.1, Option.bind_some, h9, if_neg (by decide)]
        · unfold F_X11_dress
          simp only [stI, Option.bind_some]
          rw [noR_1 d2 hg hx, Option.bind_some, if_pos rfl, t2, Option.bind_some, if_neg (by decide), hm _ d2 R2.2.2.2.2.2.1 z.2.1, Option.bind_some, h9, if_pos (show nI 9 = (9 : Int32) from rfl)]
      · have hlt : sP g P x t < 9 := by have := hs.2; omega
        obtain ⟨fa, ca, Q, k1, k2, k3, k4, k5⟩ := k
        obtain ⟨σ1, f', r1, r2, r3, r4⟩ := rem_ok k4 k1 k2 e
        have c1 := CF_fr c r4
        have e1 := CP_fr e r4
        have hP' : okP g (P.1, upN P.2.1 (3 * x + t) (P.2.1 (3 * x + t) + 1), P.2.2 + 1) := by
          refine ⟨hP.1, fun q hq => ?_, fun r u hr hu => ?_⟩
          · show upN _ _ _ q ≤ 9
            unfold upN
            split
            · have := hs.2; omega
            · exact hP.2.1 q hq
          · show _ + upN _ _ _ (3 * r + u) ≤ 9
            unfold upN
            split
            · rename_i q
              have q1 : r = x := by omega
              have q2 : u = t := by omega
              subst q1; subst q2
              have := hs.2; omega
            · exact hP.2.2 r u hr hu
        have l2 : Fq (fun n => n != 40) (fun n => n != 36) true σ1 (sI (sA σ1 36 (3 * x + t) (nI (P.2.1 (3 * x + t) + 1))) 40 (P.2.2 + 1)) := Fq_sI (Fq_sA (Fq_r σ1))
        have e3 : CP 0 (P.1, upN P.2.1 (3 * x + t) (P.2.1 (3 * x + t) + 1), P.2.2 + 1) (sI (sA σ1 36 (3 * x + t) (nI (P.2.1 (3 * x + t) + 1))) 40 (P.2.2 + 1)) := by
          refine ⟨e1.1, fun q hq => ?_, rfl⟩
          show (if q = 3 * x + t then _ else σ1.2.1 36 q) = nI (upN _ _ _ q)
          unfold upN
          split
          · rfl
          · exact e1.2.1 q hq
        have hq0 : σ1.2.1 36 (3 * x + t) = nI (P.2.1 (3 * x + t)) := e1.2.1 _ (by omega)
        have ho : (sA σ1 36 (3 * x + t) (nI (P.2.1 (3 * x + t) + 1))).1 40 = P.2.2 := e1.2.2
        have hput : F_X10_put 36 (nI (3 * x + t)) (nI (P.2.1 (3 * x + t) + 1)) σ1 = some (sA σ1 36 (3 * x + t) (nI (P.2.1 (3 * x + t) + 1))) := put_36 (by omega)
        have c3 := CF_fr c1 l2
        have hs3 := xs_ok c3 hg hP' e3 hx ht
        have hA : F_X10_dress (nI x) (nI t) σ = some (nI (sP g (P.1, upN P.2.1 (3 * x + t) (P.2.1 (3 * x + t) + 1), P.2.2 + 1) x t), sI (sA σ1 36 (3 * x + t) (nI (P.2.1 (3 * x + t) + 1))) 40 (P.2.2 + 1)) := by
          unfold F_X10_dress
          rw [hasR_1 c hg hx, Option.bind_some, if_neg (by decide), t1 σ, Option.bind_some, if_neg (by decide), hs.1, Option.bind_some, if_pos (show nI (sP g P x t) < (9 : Int32) from nI_lt (b := 9) hlt (by omega)), r1, Option.bind_some, show (3 : Int32) = nI 3 from rfl, show (1 : Int32) = nI 1 from rfl, pk_mul, nI_add, show (36 + 0 : Nat) = 36 from rfl, show (40 + 0 : Nat) = 40 from rfl, at_36 (by omega), Option.bind_some, hq0, nI_add, hput, Option.bind_some, ho]
          simp only [stI, Option.bind_some]
          rw [show P.2.2 + nI 1 = P.2.2 + 1 from rfl, hs3.1]; rfl
        rw [hA]
        generalize sI (sA σ1 36 (3 * x + t) (nI (P.2.1 (3 * x + t) + 1))) 40 (P.2.2 + 1) = σ3 at *
        have F13 : Fq mI mA true σ σ3 := Fq_t (w_r r4) (w_m l2 (fun n h => by simp [mI] at h ⊢; omega) (fun n h => by simp [mA] at h ⊢; omega))
        have F14 : Fq mI mA true σ (sI σ3 20 0) := Fq_sI F13
        have d4 := MF_fr d F14
        obtain ⟨σ5, n1, n2, n3⟩ := note_ok (MA_fr k5 F14) k2 (MP_fr i F14)
        have d5 := MF_fr d4 n3
        have i4 := MP_fr i F14
        have i5 := MP_fr i4 n3
        have z4 : ∀ q, q < 15 → (sI σ3 20 0).2.1 66 q = 0 := by rw [F14.2.1 66 rfl]; exact z.2.1
        have z5 : ∀ q, q < 15 → σ5.2.1 66 q = 0 := by rw [n3.2.1 66 rfl]; exact z4
        have g2 : Fq (fun _ => true) (fun n => n != 58) true σ5 (sA (sA σ5 58 (5 + (3 * x + t)) (nI (P.2.1 (3 * x + t) + 1))) 58 20 (P.2.2 + 1)) := Fq_sA (Fq_sA (Fq_r σ5))
        have i6 : MP 58 0 (P.1, upN P.2.1 (3 * x + t) (P.2.1 (3 * x + t) + 1), P.2.2 + 1) (sA (sA σ5 58 (5 + (3 * x + t)) (nI (P.2.1 (3 * x + t) + 1))) 58 20 (P.2.2 + 1)) := by
          refine mp_mk (fun q hq => ?_) (fun q hq => ?_) ?_
          · simp only [sA_2, if_true, upd_ap]
            rw [if_neg (by omega), if_neg (by omega)]; exact mw_of i5 q hq
          · simp only [sA_2, if_true, upd_ap]
            rw [if_neg (by omega)]
            show _ = nI (upN _ _ _ q)
            unfold upN
            by_cases eq : q = 3 * x + t
            · rw [if_pos (by omega), if_pos eq]
            · rw [if_neg (by omega), if_neg eq]; have h := i5.2.1 q hq; rw [Nat.zero_add] at h; exact h
          · simp only [sA_2, if_true, upd_ap]
        have hq5 : σ5.2.1 58 (5 + (3 * x + t)) = nI (P.2.1 (3 * x + t)) := by have h := i5.2.1 (3 * x + t) (by omega); rw [Nat.zero_add] at h; exact h
        have ho5 : (sA σ5 58 (5 + (3 * x + t)) (nI (P.2.1 (3 * x + t) + 1))).2.1 58 20 = P.2.2 := by
          rw [sA_2, if_pos rfl, upd_ap, if_neg (by omega)]; exact i5.2.2
        have hs6 : F_X11_shows (nI x) (nI t) (sA (sA σ5 58 (5 + (3 * x + t)) (nI (P.2.1 (3 * x + t) + 1))) 58 20 (P.2.2 + 1)) = some (nI (sP g (P.1, upN P.2.1 (3 * x + t) (P.2.1 (3 * x + t) + 1), P.2.2 + 1) x t)) := sh_ok (MF_fr d5 g2) hg (md_of hP' i6 (by rw [g2.2.1 66 rfl]; exact z5)) hx ht
        have hB : F_X11_dress (nI x) (nI t) σ3 = some (nI (sP g (P.1, upN P.2.1 (3 * x + t) (P.2.1 (3 * x + t) + 1), P.2.2 + 1) x t), sA (sA σ5 58 (5 + (3 * x + t)) (nI (P.2.1 (3 * x + t) + 1))) 58 20 (P.2.2 + 1)) := by
          unfold F_X11_dress
          simp only [stI, Option.bind_some]
          rw [noR_1 d4 hg hx, Option.bind_some, if_pos rfl, t2, Option.bind_some, if_neg (by decide), hm _ d4 i4 z4, Option.bind_some, if_neg (by rw [show (9 : Int32) = nI 9 from rfl, nI_e (by omega) (by omega)]; exact h9), n1, Option.bind_some, show (3 : Int32) = nI 3 from rfl, show (1 : Int32) = nI 1 from rfl, show (5 : Int32) = nI 5 from rfl, show (20 : Int32) = nI 20 from rfl, pk_mul, nI_add, nI_add, Nat.add_assoc, rd_58 (by omega), Option.bind_some, hq5, nI_add, wr_58 (by omega), Option.bind_some, rd_58 (by omega), Option.bind_some, ho5, wr_58 (by omega), Option.bind_some, show P.2.2 + nI 1 = P.2.2 + 1 from rfl, hs6]; rfl
        have F36 : Fq nN nA true σ3 (sA (sA σ5 58 (5 + (3 * x + t)) (nI (P.2.1 (3 * x + t) + 1))) 58 20 (P.2.2 + 1)) := Fq_t (Fq_sI (n := 20) (v := 0) (Fq_r σ3)) (Fq_t (Fq_w n3 (fun n h => by simp [nN] at h ⊢; omega) (fun n h => by simp [nA] at h ⊢; omega) (fun h => h)) (Fq_w g2 (fun _ _ => rfl) (fun n h => by simp [nA] at h ⊢; omega) (fun h => h)))
        exact ⟨_, σ3, _, rfl, hB, g, _, Rel_mk R (Fq_t (w_l F13) (w_n F36)) hP' (CP_fr e3 F36) i6 r2 (cN_le k2) (okQ_push k2 k3 hP) (CA_fr (CA_fr r3 l2) F36) (MA_fr n2 g2)⟩
    · refine ⟨-2, σ, sI σ 20 0, ?_, ?_, I20⟩
      · unfold F_X10_dress; rw [hasR_1 c hg hx, Option.bind_some, if_neg (by decide), t1 σ]; rfl
      · unfold F_X11_dress; simp only [stI, Option.bind_some]; rw [noR_1 d2 hg hx, Option.bind_some, if_pos rfl, t2]; rfl
  · refine ⟨-1, σ, sI σ 20 0, ?_, ?_, I20⟩
    · unfold F_X10_dress; rw [h1 σ c]; rfl
    · unfold F_X11_dress; simp only [stI, Option.bind_some]; rw [h2 _ d2]; rfl
