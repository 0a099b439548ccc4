-- days
variable {g : FD} {P : PD} {σ σ' : Mem}
def dq (x : Int64) (D : Nat) : Nat := x.toBitVec.toNat / 2 ^ 33 % D
theorem rm_ok (x : Int64) {D : Nat} (h0 : 0 < D) (hD : D < 2 ^ 31) : rmJ (((x).toUInt64 >>> (((33 : Int32)).toInt64.toUInt64 &&& Int64.toUInt64 63)).toInt64) ((nI D).toInt64) = some (lN (dq x D)) := by
  obtain ⟨n, hn, rfl⟩ := wb_of x
  have e : ((lN n).toUInt64 >>> (((33 : Int32)).toInt64.toUInt64 &&& Int64.toUInt64 63)).toInt64 = lN (n / 2 ^ 33) := wb_shr (k := 33) hn (by omega)
  have hb : n / 2 ^ 33 < 2 ^ 31 := by omega
  unfold rmJ dq
  rw [e, nI_l hD, if_neg (by rw [show (0 : Int64) = lN 0 from rfl, lN_eq hD (by omega)]; omega), pk_lRem (by omega) h0 (by omega), wb_tn hn]
theorem dv_ok {a d : Nat} (ha : a < 2 ^ 31) (h0 : 0 < d) (hd : d < 2 ^ 31) : dvI (nI a) (nI d) = some (nI (a / d)) := by
  unfold dvI
  rw [if_neg (nI_ne0 h0 hd), pk_div ha h0 hd]
theorem rmI_ok {a d : Nat} (ha : a < 2 ^ 31) (h0 : 0 < d) (hd : d < 2 ^ 31) : rmI (nI a) (nI d) = some (nI (a % d)) := by
  unfold rmI
  rw [if_neg (nI_ne0 h0 hd), pk_rem ha h0 hd]
def dyS (g : FD) (W : Nat → Nat → Nat) (s : Int64 × (Nat → Nat)) : Int64 × (Nat → Nat) :=
  (s.1 * 6364136223846793005 + 1442695040888963407, if s.2 (dq (s.1 * 6364136223846793005 + 1442695040888963407) (g.2.1 * g.1) / g.1) = 9 then leadW g W s.2 (dq (s.1 * 6364136223846793005 + 1442695040888963407) (g.2.1 * g.1) / g.1) (dq (s.1 * 6364136223846793005 + 1442695040888963407) (g.2.1 * g.1) % g.1) else s.2)
def dyN (g : FD) (W : Nat → Nat → Nat) (s : Int64 × (Nat → Nat)) : Nat → Int64 × (Nat → Nat)
  | 0 => s
  | n + 1 => dyS g W (dyN g W s n)
theorem dq_lt (x : Int64) (h1 : 0 < g.1) (h2 : 0 < g.2.1) : dq x (g.2.1 * g.1) / g.1 < g.2.1 ∧ dq x (g.2.1 * g.1) % g.1 < g.1 ∧ dq x (g.2.1 * g.1) < g.2.1 * g.1 := by
  have h3 : dq x (g.2.1 * g.1) < g.2.1 * g.1 := Nat.mod_lt _ (Nat.mul_pos h2 h1)
  exact ⟨(Nat.div_lt_iff_lt_mul h1).mpr h3, Nat.mod_lt _ h1, h3⟩
theorem dyN_ok (hg : okG g) (W : Nat → Nat → Nat) {s : Int64 × (Nat → Nat)} (hs : okY g s.2) (h1 : 0 < g.1) (h2 : 0 < g.2.1) : ∀ n, okY g (dyN g W s n).2
  | 0 => hs
  | n + 1 => by
    have ih := dyN_ok hg W hs h1 h2 n
    have hq := dq_lt (g := g) ((dyN g W s n).1 * 6364136223846793005 + 1442695040888963407) h1 h2
    show okY g (if _ then _ else _)
    split
    · exact okW_ld ih hq.1 hq.2.1
    · exact ih
theorem prod_le (hg : okG g) : g.2.1 * g.1 ≤ 20 := Nat.mul_le_mul hg.2.1 hg.1
theorem xdays {s : Nat → Nat → Nat} {w : Nat → Nat} (c : CF g σ) (hg : okG g) (hw : okY g w) (h : CW 20 w σ) (t : T12 g s σ) (hs : okS g s) (h1 : 0 < g.1) (h2 : 0 < g.2.1) {m : Nat} (hm : m ≤ 40) : ∃ σ', F_X10_days_b76 4000 (nI m) (nI (g.2.1 * g.1)) (nI g.1) (nI 0) σ = some (nI (bits (tkB (dyN g (Wo g s) (σ.2.2 0, w) m).2) 5), σ') ∧ Fq (fun _ => true) (fun n => n != 35) false σ σ' ∧ σ'.2.2 0 = (dyN g (Wo g s) (σ.2.2 0, w) m).1 ∧ σ'.2.2 1 = σ.2.2 1 := by
  have hg1 := hg.1
  have hg2 := hg.2.1
  have hp := prod_le hg
  have hp0 : 0 < g.2.1 * g.1 := Nat.mul_pos h2 h1
  refine lp (fun n (a : Mem) i => F_X10_days_b76 n (nI m) (nI (g.2.1 * g.1)) (nI g.1) (nI i) a) (fun o => ∃ σ', o = some (nI (bits (tkB (dyN g (Wo g s) (σ.2.2 0, w) m).2) 5), σ') ∧ Fq (fun _ => true) (fun n => n != 35) false σ σ' ∧ σ'.2.2 0 = (dyN g (Wo g s) (σ.2.2 0, w) m).1 ∧ σ'.2.2 1 = σ.2.2 1) m (fun i a => Fq (fun _ => true) (fun n => n != 35) false σ a ∧ a.2.2 0 = (dyN g (Wo g s) (σ.2.2 0, w) i).1 ∧ a.2.2 1 = σ.2.2 1 ∧ CW 20 (dyN g (Wo g s) (σ.2.2 0, w) i).2 a) ?_ ?_ m 0 σ 4000 (by omega) (by omega) (by omega) ⟨Fq_r σ, rfl, rfl, h⟩
  · intro n a ⟨p1, p2, p3, p4⟩
    simp only [F_X10_days_b76]
    rw [if_pos (nI_le (Nat.le_refl _) (by omega)), tb_ok (by omega) p4 (fun x hx => okW_b (dyN_ok hg _ hw h1 h2 _) hg hx), Option.bind_some]
    exact ⟨a, rfl, p1, p2, p3⟩
  · intro n a i hi ⟨p1, p2, p3, p4⟩
    have ok := dyN_ok hg (Wo g s) (s := (σ.2.2 0, w)) hw h1 h2 i
    have es : dyN g (Wo g s) (σ.2.2 0, w) (i + 1) = dyS g (Wo g s) (dyN g (Wo g s) (σ.2.2 0, w) i) := rfl
    rw [es]
    generalize dyN g (Wo g s) (σ.2.2 0, w) i = q at *
    have hq := dq_lt (g := g) (q.1 * 6364136223846793005 + 1442695040888963407) h1 h2
    have F1 : Fq (fun _ => true) (fun n => n != 35) false a (sJ a 0 (q.1 * 6364136223846793005 + 1442695040888963407)) := Fq_sJ (Fq_r a)
    have c' := CF_fr (CF_fr c p1) F1
    have t' : T12 g s (sJ a 0 (q.1 * 6364136223846793005 + 1442695040888963407)) := by unfold T12; rw [F1.2.1 12 rfl, p1.2.1 12 rfl]; exact t
    have p4' : CW 20 q.2 (sJ a 0 (q.1 * 6364136223846793005 + 1442695040888963407)) := p4
    have j0 : (sJ a 0 (q.1 * 6364136223846793005 + 1442695040888963407)).2.2 0 = q.1 * 6364136223846793005 + 1442695040888963407 := rfl
    have j1 : (sJ a 0 (q.1 * 6364136223846793005 + 1442695040888963407)).2.2 1 = σ.2.2 1 := p3
    have hE : F_X10_days_b76 (n + 1) (nI m) (nI (g.2.1 * g.1)) (nI g.1) (nI i) a = (if hI (q.2 (dq (q.1 * 6364136223846793005 + 1442695040888963407) (g.2.1 * g.1) / g.1)) = (-9 : Int32) then Option.bind (F_X7_leadTo 20 (nI (dq (q.1 * 6364136223846793005 + 1442695040888963407) (g.2.1 * g.1) / g.1)) (nI (dq (q.1 * 6364136223846793005 + 1442695040888963407) (g.2.1 * g.1) % g.1)) (sJ a 0 (q.1 * 6364136223846793005 + 1442695040888963407))) (fun q9 => F_X10_days_b76 n (nI m) (nI (g.2.1 * g.1)) (nI g.1) (nI (i + 1)) q9.2) else F_X10_days_b76 n (nI m) (nI (g.2.1 * g.1)) (nI g.1) (nI (i + 1)) (sJ a 0 (q.1 * 6364136223846793005 + 1442695040888963407))) := by
      simp only [F_X10_days_b76]
      rw [if_neg (nI_ge hi (by omega)), p2, show stJ a 0 (q.1 * 6364136223846793005 + 1442695040888963407) = some (sJ a 0 (q.1 * 6364136223846793005 + 1442695040888963407)) from rfl, Option.bind_some, j0, rm_ok _ hp0 (by omega), Option.bind_some, lN_i, dv_ok (by omega) h1 (by omega), Option.bind_some, hof_ok (by omega) p4' (by omega), Option.bind_some, rmI_ok (by omega) h1 (by omega), Option.bind_some, nI_1]
    have e9 := okY_v ok (r := dq (q.1 * 6364136223846793005 + 1442695040888963407) (g.2.1 * g.1) / g.1) (by omega)
    unfold dyS
    generalize q.1 * 6364136223846793005 + 1442695040888963407 = y at *
    by_cases e : q.2 (dq y (g.2.1 * g.1) / g.1) = 9
    · obtain ⟨σ3, l1, l2, l3⟩ := ld_ok (k := 20) (by omega) p4' c' hg ok t' hs hq.1 hq.2.1
      refine .inr ⟨σ3, ⟨Fq_t p1 (Fq_t F1 (Fq_w l2 (fun _ _ => rfl) (fun n h => by simpa using h) (fun h => by cases h))), by rw [l2.2.2 rfl]; exact j0, by rw [l2.2.2 rfl]; exact j1, by rw [if_pos e]; exact l3⟩, ?_⟩
      rw [hE, e, if_pos hI_9, l1, Option.bind_some]
    · refine .inr ⟨_, ⟨Fq_t p1 F1, j0, j1, by rw [if_neg e]; exact p4'⟩, ?_⟩
      rw [hE, if_neg (by rw [hI_m9 (by omega)]; exact e)]
theorem mdays {d xx : Nat → Nat} {w : Nat → Nat} (m0 : MF g σ) (hg : okG g) (hw : okY g w) (h : MW 63 w σ) (e0 : MD d xx σ) (h1 : 0 < g.1) (h2 : 0 < g.2.1) {m : Nat} (hm : m ≤ 40) : ∃ σ', F_X11_days_b70 4000 (nI m) (nI 0) σ = some (nI (bits (tkB (dyN g (Wo g (sh g d xx)) (σ.2.2 1, w) m).2) 5), σ') ∧ Fq yI yA false σ σ' ∧ σ'.2.2 1 = (dyN g (Wo g (sh g d xx)) (σ.2.2 1, w) m).1 ∧ σ'.2.2 0 = σ.2.2 0 := by
  have hg1 := hg.1
  have hg2 := hg.2.1
  have hp := prod_le hg
  have hp0 : 0 < g.2.1 * g.1 := Nat.mul_pos h2 h1
  refine lp (fun n (a : Mem) i => F_X11_days_b70 n (nI m) (nI i) a) (fun o => ∃ σ', o = some (nI (bits (tkB (dyN g (Wo g (sh g d xx)) (σ.2.2 1, w) m).2) 5), σ') ∧ Fq yI yA false σ σ' ∧ σ'.2.2 1 = (dyN g (Wo g (sh g d xx)) (σ.2.2 1, w) m).1 ∧ σ'.2.2 0 = σ.2.2 0) m (fun i a => Fq yI yA false σ a ∧ a.2.2 1 = (dyN g (Wo g (sh g d xx)) (σ.2.2 1, w) i).1 ∧ a.2.2 0 = σ.2.2 0 ∧ MW 63 (dyN g (Wo g (sh g d xx)) (σ.2.2 1, w) i).2 a) ?_ ?_ m 0 σ 4000 (by omega) (by omega) (by omega) ⟨Fq_r σ, rfl, rfl, h⟩
  · intro n a ⟨p1, p2, p3, p4⟩
    simp only [F_X11_days_b70]
    rw [if_pos (nI_le (Nat.le_refl _) (by omega)), to_ok (by decide) (MF_fr m0 p1) hg p4 (dyN_ok hg _ hw h1 h2 _), Option.bind_some]
    exact ⟨a, rfl, p1, p2, p3⟩
  · intro n a i hi ⟨p1, p2, p3, p4⟩
    have ok := dyN_ok hg (Wo g (sh g d xx)) (s := (σ.2.2 1, w)) hw h1 h2 i
    have es : dyN g (Wo g (sh g d xx)) (σ.2.2 1, w) (i + 1) = dyS g (Wo g (sh g d xx)) (dyN g (Wo g (sh g d xx)) (σ.2.2 1, w) i) := rfl
    rw [es]
    generalize dyN g (Wo g (sh g d xx)) (σ.2.2 1, w) i = q at *
    have hq := dq_lt (g := g) (q.1 * 6364136223846793005 + 1442695040888963407) h1 h2
    have F1 : Fq yI yA false a (sJ a 1 (q.1 * 6364136223846793005 + 1442695040888963407)) := Fq_sJ (Fq_r a)
    have m' := MF_fr (MF_fr m0 p1) F1
    have e' : MD d xx (sJ a 1 (q.1 * 6364136223846793005 + 1442695040888963407)) := by unfold MD; rw [F1.2.1 58 rfl, F1.2.1 66 rfl, p1.2.1 58 rfl, p1.2.1 66 rfl]; exact e0
    have p4' : MW 63 q.2 (sJ a 1 (q.1 * 6364136223846793005 + 1442695040888963407)) := p4
    have j0 : (sJ a 1 (q.1 * 6364136223846793005 + 1442695040888963407)).2.2 1 = q.1 * 6364136223846793005 + 1442695040888963407 := rfl
    have j1 : (sJ a 1 (q.1 * 6364136223846793005 + 1442695040888963407)).2.2 0 = σ.2.2 0 := p3
    have hE : F_X11_days_b70 (n + 1) (nI m) (nI i) a = (if hI (q.2 (dq (q.1 * 6364136223846793005 + 1442695040888963407) (g.2.1 * g.1) / g.1)) = (-9 : Int32) then Option.bind (F_X11_goLead 63 (nI (dq (q.1 * 6364136223846793005 + 1442695040888963407) (g.2.1 * g.1) / g.1)) (nI (dq (q.1 * 6364136223846793005 + 1442695040888963407) (g.2.1 * g.1) % g.1)) (sJ a 1 (q.1 * 6364136223846793005 + 1442695040888963407))) (fun q9 => F_X11_days_b70 n (nI m) (nI (i + 1)) q9.2) else F_X11_days_b70 n (nI m) (nI (i + 1)) (sJ a 1 (q.1 * 6364136223846793005 + 1442695040888963407))) := by
      simp only [F_X11_days_b70]
      rw [if_neg (nI_ge hi (by omega)), p2, show stJ a 1 (q.1 * 6364136223846793005 + 1442695040888963407) = some (sJ a 1 (q.1 * 6364136223846793005 + 1442695040888963407)) from rfl, Option.bind_some, j0, m'.1, m'.2.1, pk_mul, rm_ok _ hp0 (by omega), Option.bind_some, lN_i, dv_ok (by omega) h1 (by omega), Option.bind_some, rd_63 (by omega), p4' _ (by omega), Option.bind_some, Option.bind_some, rmI_ok (by omega) h1 (by omega), Option.bind_some, nI_1]
    have e9 := okY_v ok (r := dq (q.1 * 6364136223846793005 + 1442695040888963407) (g.2.1 * g.1) / g.1) (by omega)
    unfold dyS
    generalize q.1 * 6364136223846793005 + 1442695040888963407 = y at *
    by_cases e : q.2 (dq y (g.2.1 * g.1) / g.1) = 9
    · obtain ⟨σ3, l1, l2, l4, l3⟩ := go_ok (n := 63) (by decide) m' hg p4' ok e' hq.1 hq.2.1
      refine .inr ⟨σ3, ⟨Fq_t p1 (Fq_t F1 (Fq_w l2 (fun _ _ => rfl) (fun n h => by simpa [yA] using h) (fun h => by cases h))), by rw [l2.2.2 rfl]; exact j0, by rw [l2.2.2 rfl]; exact j1, by rw [if_pos e]; exact l3⟩, ?_⟩
      rw [hE, e, if_pos hI_9, l1, Option.bind_some]
    · refine .inr ⟨_, ⟨Fq_t p1 F1, j0, j1, by rw [if_neg e]; exact p4'⟩, ?_⟩
      rw [hE, if_neg (by rw [hI_m9 (by omega)]; exact e)]
theorem md42 {w : Nat → Nat} {m : Int32} (d : MF g σ) (hg : okG g) (hw : okY g w) (h : MW 58 w σ) (h63 : MW 63 (fun _ => 9) σ) : ∃ σ', F_X11_days_b42 4000 m (nI 0) σ = F_X11_days_b70 4000 m (nI 0) σ' ∧ Fq yI yA true σ σ' ∧ MW 63 w σ' := by
  have hg2 := hg.2.1
  refine lp (fun n (a : Mem) i => F_X11_days_b42 n m (nI i) a) (fun o => ∃ σ', o = F_X11_days_b70 4000 m (nI 0) σ' ∧ Fq yI yA true σ σ' ∧ MW 63 w σ') g.2.1 (fun i a => Fq yI yA true σ a ∧ (∀ r, r < i → a.2.1 63 r = hI (w r)) ∧ ∀ r, i ≤ r → r < 5 → a.2.1 63 r = hI 9) ?_ ?_ g.2.1 0 σ 4000 (by omega) (by omega) (by omega) ⟨Fq_r σ, fun r hr => absurd hr (Nat.not_lt_zero _), fun r _ hr => h63 r hr⟩
  · intro n a ⟨p1, p2, p3⟩
    simp only [F_X11_days_b42]
    rw [(MF_fr d p1).2.1, if_pos (nI_le (Nat.le_refl _) (by omega))]
    refine ⟨a, rfl, p1, fun r hr => ?_⟩
    by_cases e : r < g.2.1
    · exact p2 r e
    · rw [p3 r (by omega) hr, okW_9 hw hr (by omega)]
  · intro n a i hi ⟨p1, p2, p3⟩
    refine .inr ⟨sA a 63 i (hI (w i)), ⟨Fq_sA p1, fun r hr => ?_, fun r h1 h2 => ?_⟩, ?_⟩
    · rw [sA_2, if_pos rfl, upd_ap]
      by_cases e : r = i
      · rw [if_pos e, e]
      · rw [if_neg e]; exact p2 r (by omega)
    · rw [sA_2, if_pos rfl, upd_ap, if_neg (by omega)]; exact p3 r (by omega) h2
    · simp only [F_X11_days_b42]
      rw [(MF_fr d p1).2.1, if_neg (nI_ge hi (by omega)), rd_58 (by omega), p1.2.1 58 rfl, h i (by omega), Option.bind_some, wr_63 (by omega), Option.bind_some, nI_1]
def wI (n : Nat) : Bool := n != 29 && n != 20
def wA (n : Nat) : Bool := n != 12 && n != 35 && n != 63
theorem st_days : Step_days Inv := by
  intro a σ hI0
  obtain ⟨g, P, R⟩ := id hI0
  obtain ⟨hg, hP, c, d, e, i, j, k, l, m, z⟩ := id R
  have hg1 := hg.1
  have hg2 := hg.2.1
  have I20 := Inv_fr hI0 (fr20 σ 0)
  have hp := prod_le hg
  have bad : (a < 1 ∨ nI 40 < a) → ∃ r σ1 σ2, F_X10_days a σ = some (r, σ1) ∧ F_X11_days a σ1 = some (r, σ2) ∧ Inv σ2 := fun h => by
    refine ⟨-2, σ, sI σ 20 0, ?_, ?_, I20⟩
    · unfold F_X10_days
      by_cases h2 : a < 1
      · rw [if_pos h2]
      · rw [if_neg h2, if_neg]
        rcases h with h | h
        · exact absurd h h2
        · intro h3
          rw [Int32.lt_iff_toInt_lt] at h
          rw [Int32.le_iff_toInt_le] at h3
          have : (nI 40).toInt = (40 : Int32).toInt := rfl
          omega
    · unfold F_X11_days
      rw [show stI σ 20 0 = some (sI σ 20 0) from rfl, Option.bind_some, L_1, show (40 : Int64) = (nI 40).toInt64 from rfl, in_0 (b := nI 1) h]; rfl
  rcases pk_ix a (n := 41) (by omega) with h | h | ⟨t, h1, h2⟩
  · exact bad (.inl (by
      rw [Int32.lt_iff_toInt_lt] at h ⊢
      have e1 : (1 : Int32).toInt = 1 := rfl
      have e2 : (0 : Int32).toInt = 0 := rfl
      omega))
  · exact bad (.inr (by
      rw [Int32.le_iff_toInt_le] at h
      rw [Int32.lt_iff_toInt_lt]
      have e1 : (nI 41).toInt = 41 := rfl
      have e2 : (nI 40).toInt = 40 := rfl
      omega))
  · subst h2
    by_cases ht : t = 0
    · subst ht; exact bad (.inl (by decide))
    · have hin : ∀ τ, F_X11_in ((nI t).toInt64) (1 : Int64) (40 : Int64) τ = some 1 := fun τ => by
        rw [L_1, show (40 : Int64) = (nI 40).toInt64 from rfl, in_1]
        rw [nI_l2 (by omega) (by omega), nI_l2 (by omega) (by omega)]; omega
      have c1 : ¬ nI t < (1 : Int32) := by rw [show (1 : Int32) = nI 1 from rfl, nI_l2 (by omega) (by omega)]; omega
      have c2 : nI t ≤ (40 : Int32) := nI_le (b := 40) (by omega) (by omega)
      by_cases hz : g.1 = 0 ∨ g.2.1 = 0
      · have hp0 : g.2.1 * g.1 = 0 := by rcases hz with h | h <;> rw [h] <;> simp
        refine ⟨0, σ, sI σ 20 0, ?_, ?_, I20⟩
        · unfold F_X10_days
          rw [if_neg c1, if_pos c2, c.1, c.2.1, pk_mul, hp0, if_neg (by decide)]
        · unfold F_X11_days
          have d2 : MF g (sI σ 20 0) := MF_20 d 0
          rw [show stI σ 20 0 = some (sI σ 20 0) from rfl, Option.bind_some, hin, Option.bind_some, if_neg (by decide), d2.1, d2.2.1]
          by_cases h0 : g.1 = 0
          · rw [h0, if_pos (show nI 0 = 0 from rfl)]
          · have h3 : g.2.1 = 0 := by omega
            rw [if_neg (nI_ne0 (by omega) (by omega)), h3, if_pos (show nI 0 = 0 from rfl)]
      · have h1 : 0 < g.1 := by omega
        have h2 : 0 < g.2.1 := by omega
        have hp0 : 0 < g.2.1 * g.1 := Nat.mul_pos h2 h1
        obtain ⟨σ1, w1, w2, w3⟩ := weigh1 c hg hP e
        have c1' := CF_fr c w2
        have e1' := CP_fr e w2
        obtain ⟨σ2, u1, u2, u3⟩ := c7_ok (k0 := 20) (k1 := 0) (by omega) (by omega) e1'.1
        have c2' := CF_fr c1' u3
        have t2 : T12 g (sP g P) σ2 := by unfold T12; rw [u3.2.1 12 rfl]; exact w3
        obtain ⟨σ3, x1, x2, x3, x4⟩ := xdays (m := t) c2' hg hP.1 u2 t2 (oS_P g P) h1 h2 (by omega)
        have F13 : Fq wI wA false σ σ3 := Fq_t (Fq_w w2 (fun _ _ => rfl) (fun n h => by simp [wA] at h ⊢; omega) (fun h => by cases h)) (Fq_t (Fq_w u3 (fun _ _ => rfl) (fun n h => by simp [wA] at h ⊢; omega) (fun h => by cases h)) (Fq_w x2 (fun _ _ => rfl) (fun n h => by simp [wA] at h ⊢; omega) (fun h => by cases h)))
        have F14 : Fq wI wA false σ (sI σ3 20 0) := Fq_sI F13
        have j2 : σ2.2.2 = σ.2.2 := by rw [u3.2.2 rfl, w2.2.2 rfl]
        obtain ⟨σ5, b1, b2, b3, b4⟩ := bg_ok (σ := sI σ3 20 0)
        have F15 : Fq wI wA false σ σ5 := Fq_t F14 (Fq_w b2 (fun n h => by simp [wI, yI] at h ⊢; omega) (fun n h => by simp [wA, yA] at h ⊢; omega) (fun h => by cases h))
        have d5 := MF_fr d F15
        have i5 := MP_fr i F15
        obtain ⟨σ6, y1, y2, y3⟩ := md42 (m := nI t) d5 hg hP.1 (mw_of i5) b3
        have F16 : Fq wI wA false σ σ6 := Fq_t F15 (Fq_w y2 (fun n h => by simp [wI, yI] at h ⊢; omega) (fun n h => by simp [wA, yA] at h ⊢; omega) (fun h => by cases h))
        have d6 := MF_fr d F16
        have i6 := MP_fr i F16
        obtain ⟨σ7, v1, v2, v3, v4⟩ := mdays (m := t) d6 hg hP.1 y3 (md_of hP i6 (by rw [F16.2.1 66 rfl]; exact z.2.1)) h1 h2 (by omega)
        have F17 : Fq wI wA false σ σ7 := Fq_t F16 (Fq_w v2 (fun n h => by simp [wI, yI] at h ⊢; omega) (fun n h => by simp [wA, yA] at h ⊢; omega) (fun h => by cases h))
        have j6 : σ6.2.2 = σ3.2.2 := by rw [y2.2.2 rfl, b2.2.2 rfl]; rfl
        have jA : σ2.2.2 0 = σ.2.2 0 := by rw [j2]
        have jB : σ6.2.2 1 = σ.2.2 0 := by rw [j6, x4, j2, z.1]
        refine ⟨nI (bits (tkB (dyN g (Wo g (sP g P)) (σ.2.2 0, P.1) t).2) 5), σ3, σ7, ?_, ?_, g, P, hg, hP, CF_fr c F17, MF_fr d F17, CP_fr e F17, MP_fr i F17, RT_fr j F17, RA_fr k F17, RS_fr l F17, RC_fr m F17, ?_, ?_, ?_⟩
        · unfold F_X10_days
          rw [if_neg c1, if_pos c2, c.1, c.2.1, pk_mul, if_pos (show (0 : Int32) < nI (g.2.1 * g.1) from nI_lt (a := 0) hp0 (by omega)), w1, Option.bind_some, u1, Option.bind_some]
          have hmax : (if (1 : Int32) < nI g.1 then nI g.1 else (1 : Int32)) = nI g.1 := by
            by_cases h5 : g.1 = 1
            · rw [h5]; rfl
            · rw [if_pos (show (1 : Int32) < nI g.1 from nI_lt (a := 1) (by omega) (by omega))]
          rw [jA] at x1
          rw [hmax]
          exact x1
        · unfold F_X11_days
          have d2 : MF g (sI σ3 20 0) := MF_fr d F14
          rw [show stI σ3 20 0 = some (sI σ3 20 0) from rfl, Option.bind_some, hin, Option.bind_some, if_neg (by decide), d2.1, d2.2.1, if_neg (nI_ne0 h1 (by omega)), if_neg (nI_ne0 h2 (by omega)), b1, Option.bind_some, show (0 : Int32) = nI 0 from rfl, y1, v1, jB]
          rfl
        · rw [v3, v4, jB, j6, x3, jA]
          rfl
        · rw [F17.2.1 66 rfl]; exact z.2.1
        · rw [F17.2.1 33 rfl]; exact z.2.2
