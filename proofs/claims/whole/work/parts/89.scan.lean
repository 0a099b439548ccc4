-- the text: class, reference and reading side by side
variable {g : FD} {P : PD} {σ σ' : Mem} {T : Nat → Nat} {n p : Nat}
def rdI (n : Nat) : Bool := n != 1 && n != 2
def rdQ (n : Nat) : Bool := n != 1 && n != 2 && n != 3 && n != 4 && n != 5 && n != 6 && n != 7
theorem gN_k {nh nr k i : Nat} {ph pr : Nat → Nat} (hk : k < 7) : (gN T nh nr ph pr).2.2 k i = hd T (ph i) k := if_pos hk
theorem gN_7 {nh nr i : Nat} {ph pr : Nat → Nat} (k : Nat) : (gN T nh nr ph pr).2.2 (7 + k) i = rd T (pr i) k := by
  rw [show (gN T nh nr ph pr).2.2 (7 + k) i = rd T (pr i) (7 + k - 7) from if_neg (by omega), Nat.add_sub_cancel_left]
theorem gN_10 {nh nr i : Nat} {ph pr : Nat → Nat} : (gN T nh nr ph pr).2.2 10 i = rd T (pr i) 3 := gN_7 3
theorem bad_b (ok : Nat → Bool) {S : Nat} (hS : S ≤ 8) : bad ok S ≤ 9 := by
  rcases lf_c (fun k => !ok k) S (by omega) with ⟨i1, _⟩ | ⟨i1, _, _⟩
  · have h2 : bad ok S = 9 := i1
    omega
  · have h2 : bad ok S < S := i1
    omega
theorem n9F {a : Nat} (h : a < 2 ^ 31) : ¬ nI a = (-9 : Int32) := by rw [nI_n9 h]; exact id
theorem ph_1 {nh : Nat} {s2 : Mem} (hp : p < n) (t : TM T n σ) (h22 : σ.1 22 = nI p) (h25 : σ.1 25 = nI nh) (hT : T p = 72) (hnh : nh < 4) {v : Int32} (hv : v = 0 ∨ v = 1) (h : F_X11_readHorse (sI σ 22 (nI (p + 1))) = some (v, s2)) : F_X11_readPart σ = some (v, s2) := by
  have hn := t.1
  unfold F_X11_readPart
  rw [h22, rd_53 (by omega), (t.2.2 p hp).1, Option.bind_some, hT, if_pos (show nI 72 = (72 : Int32) from rfl), h25, if_neg (show ¬ (4 : Int32) ≤ nI nh from nI_ge (b := 4) hnh (by omega)), nI_1, show stI σ 22 (nI (p + 1)) = some (sI σ 22 (nI (p + 1))) from rfl, Option.bind_some, h, Option.bind_some]
  rcases hv with rfl | rfl <;> rfl
theorem pr_1 {nr : Nat} {s2 : Mem} (hp : p < n) (t : TM T n σ) (h22 : σ.1 22 = nI p) (h26 : σ.1 26 = nI nr) (hT : T p = 82) (hnr : nr < 5) {v : Int32} (hv : v = 0 ∨ v = 1) (h : F_X11_readRider (sI σ 22 (nI (p + 1))) = some (v, s2)) : F_X11_readPart σ = some (v, s2) := by
  have hn := t.1
  unfold F_X11_readPart
  rw [h22, rd_53 (by omega), (t.2.2 p hp).1, Option.bind_some, hT, if_neg (show ¬ nI 82 = (72 : Int32) by decide), if_pos (show nI 82 = (82 : Int32) from rfl), h26, if_neg (show ¬ (5 : Int32) ≤ nI nr from nI_ge (b := 5) hnr (by omega)), nI_1, show stI σ 22 (nI (p + 1)) = some (sI σ 22 (nI (p + 1))) from rfl, Option.bind_some, h, Option.bind_some]
  rcases hv with rfl | rfl <;> rfl
theorem p0_1 {nh nr : Nat} (hp : p < n) (t : TM T n σ) (h22 : σ.1 22 = nI p) (h25 : σ.1 25 = nI nh) (h26 : σ.1 26 = nI nr) (hnh : nh ≤ 4) (hnr : nr ≤ 5) (hT : (T p = 72 → nh = 4) ∧ (T p = 82 → nr = 5)) : F_X11_readPart σ = some (0, σ) := by
  have hn := t.1
  have h2 := (t.2.2 p hp).2
  unfold F_X11_readPart
  rw [h22, rd_53 (by omega), (t.2.2 p hp).1, Option.bind_some, show (72 : Int32) = nI 72 from rfl, show (82 : Int32) = nI 82 from rfl, if_eq (by omega) (by omega), if_eq (by omega) (by omega), h25, h26]
  by_cases z : T p = 72
  · rw [if_pos z, hT.1 z, if_pos (show (4 : Int32) ≤ nI 4 from Int32.le_refl _), if_neg (by omega)]
  · rw [if_neg z]
    by_cases z2 : T p = 82
    · rw [if_pos z2, hT.2 z2, if_pos (show (5 : Int32) ≤ nI 5 from Int32.le_refl _)]
    · rw [if_neg z2]
theorem scan {sc : Mem} (t : TX T n sc) : ∀ m p nh nr ph pr x4 f1 f3 (sr : Mem), n - p ≤ m → p ≤ n → 5 * x4 + 1 ≤ p → m < f1 → m < f3 → okG (gN T nh nr ph pr) → TM T n sr → RF (gN T nh nr ph pr) sr → sr.1 22 = nI p →
    (∃ q s', q ≤ 100 ∧ F_X6_firstFault_b21 sc f1 (nI (4 - nh)) (nI (5 - nr)) (nI p) (nI x4) = some (nI q) ∧ F_X11_readFair_b40 f3 sr = some (nI q, s') ∧ Fq sq1 sqA true sr s') ∨
    (∃ nh' nr' ph' pr' s', okG (gN T nh' nr' ph' pr') ∧ F_X6_firstFault_b21 sc f1 (nI (4 - nh)) (nI (5 - nr)) (nI p) (nI x4) = some (-9) ∧ F_X11_readFair_b40 f3 sr = some (-9, s') ∧ Fq sq1 sqA true sr s' ∧ RF (gN T nh' nr' ph' pr') s' ∧ ∀ s2 f2, TX T n s2 → CF0 (gN T nh nr ph pr) s2 → m < f2 → ∃ s3, F_X3_readFrom_b14 f2 (nI p) (nI (nh + nr)) s2 = F_X3_readFrom_b67 4000 (0 : Int32) s3 ∧ Fq rdI rdQ true s2 s3 ∧ CF0 (gN T nh' nr' ph' pr') s3) := by
  intro m
  induction m with
  | zero =>
    intro p nh nr ph pr x4 f1 f3 sr h1 h2 h3 h4 h5 hg tm rf h22
    have hn := t.1
    obtain ⟨k1, rfl⟩ : ∃ k, f1 = k + 1 := ⟨f1 - 1, by omega⟩
    obtain ⟨k3, rfl⟩ : ∃ k, f3 = k + 1 := ⟨f3 - 1, by omega⟩
    have e : p = n := by omega
    subst e
    refine .inr ⟨nh, nr, ph, pr, sr, hg, ?_, ?_, Fq_r sr, rf, fun s2 f2 t2 c2 hf => ⟨s2, ?_, Fq_r s2, c2⟩⟩
    · simp only [F_X6_firstFault_b21]
      rw [if_neg (show ¬ (64 : Int32) ≤ nI x4 from nI_ge (b := 64) (by omega) (by omega)), t.2.1, if_pos (nI_le (Nat.le_refl _) (by omega))]
    · simp only [F_X11_readFair_b40]
      rw [tm.2.1, h22, if_pos (nI_le (Nat.le_refl _) (by omega))]
    · obtain ⟨k2, rfl⟩ : ∃ k, f2 = k + 1 := ⟨f2 - 1, by omega⟩
      simp only [F_X3_readFrom_b14]
      rw [t2.2.1, if_pos (nI_le (Nat.le_refl _) (by omega))]
      split <;> rfl
  | succ m ih =>
    intro p nh nr ph pr x4 f1 f3 sr h1 h2 h3 h4 h5 hg tm rf h22
    have hn := t.1
    have hnh : nh ≤ 4 := hg.1
    have hnr : nr ≤ 5 := hg.2.1
    obtain ⟨k1, rfl⟩ : ∃ k, f1 = k + 1 := ⟨f1 - 1, by omega⟩
    obtain ⟨k3, rfl⟩ : ∃ k, f3 = k + 1 := ⟨f3 - 1, by omega⟩
    by_cases e : p = n
    · subst e
      refine .inr ⟨nh, nr, ph, pr, sr, hg, ?_, ?_, Fq_r sr, rf, fun s2 f2 t2 c2 hf => ⟨s2, ?_, Fq_r s2, c2⟩⟩
      · simp only [F_X6_firstFault_b21]
        rw [if_neg (show ¬ (64 : Int32) ≤ nI x4 from nI_ge (b := 64) (by omega) (by omega)), t.2.1, if_pos (nI_le (Nat.le_refl _) (by omega))]
      · simp only [F_X11_readFair_b40]
        rw [tm.2.1, h22, if_pos (nI_le (Nat.le_refl _) (by omega))]
      · obtain ⟨k2, rfl⟩ : ∃ k, f2 = k + 1 := ⟨f2 - 1, by omega⟩
        simp only [F_X3_readFrom_b14]
        rw [t2.2.1, if_pos (nI_le (Nat.le_refl _) (by omega))]
        split <;> rfl
    · have hp : p < n := by omega
      have hTb := (t.2.2 p hp).2
      have h25 : sr.1 25 = nI nh := rf.1
      have h26 : sr.1 26 = nI nr := rf.2.1
      -- one turn of either loop
      have ec : F_X6_firstFault_b21 sc (k1 + 1) (nI (4 - nh)) (nI (5 - nr)) (nI p) (nI x4) = if T p = 72 ∧ nh < 4 then Option.bind (F_X6_firstFaultOfPart (nI p) sc) (fun q6 => if q6 = (-9 : Int32) then Option.bind (F_X6_partSize (nI p) sc) (fun q7 => F_X6_firstFault_b21 sc k1 (nI (4 - (nh + 1))) (nI (5 - nr)) (nI p + q7) (nI (x4 + 1))) else some q6) else if T p = 82 ∧ nr < 5 then Option.bind (F_X6_firstFaultOfPart (nI p) sc) (fun q6 => if q6 = (-9 : Int32) then Option.bind (F_X6_partSize (nI p) sc) (fun q7 => F_X6_firstFault_b21 sc k1 (nI (4 - nh)) (nI (5 - (nr + 1))) (nI p + q7) (nI (x4 + 1))) else some q6) else some (nI p) := by
        simp only [F_X6_firstFault_b21]
        rw [if_neg (show ¬ (64 : Int32) ≤ nI x4 from nI_ge (b := 64) (by omega) (by omega)), t.2.1, if_neg (nI_ge hp (by omega)), ih_ok t hp, Option.bind_some]
        unfold F_X6_firstFault_b54
        rw [by_ok t hp, Option.bind_some, show (82 : Int32) = nI 82 from rfl, if_eq (by omega) (by omega), show (0 : Int32) = nI 0 from rfl, if_le (by omega) (by omega), if_le (by omega) (by omega), nI_1]
        by_cases z : T p = 72
        · rw [decide_eq_true z, if_neg (show ¬ bI true = nI 0 by decide)]
          by_cases z2 : nh < 4
          · rw [if_neg (by omega), if_pos ⟨z, z2⟩, dec1 (a := 4 - nh) (by omega)]; rfl
          · rw [if_pos (by omega), if_neg (by omega), if_neg (fun q => z2 q.2), if_neg (by omega)]
        · rw [decide_eq_false z, if_pos (show bI false = nI 0 from rfl), if_neg (show ¬ (T p = 72 ∧ nh < 4) from fun q => z q.1)]
          by_cases z3 : T p = 82
          · rw [if_pos z3]
            by_cases z2 : nr < 5
            · rw [if_neg (by omega), if_pos ⟨z3, z2⟩, dec1 (a := 5 - nr) (by omega)]; rfl
            · rw [if_pos (by omega), if_neg (fun q => z2 q.2)]
          · rw [if_neg z3, if_neg (fun q => z3 q.1)]
      have er : F_X11_readFair_b40 (k3 + 1) sr = Option.bind (F_X11_readPart sr) fun q6 => if q6.1 = 0 then some ((q6.2.1 22), q6.2) else F_X11_readFair_b40 k3 q6.2 := by
        simp only [F_X11_readFair_b40]
        rw [tm.2.1, h22, if_neg (nI_ge hp (by omega))]
      have f8 : Fq sq1 sqA true sr (sI sr 22 (nI (p + 1))) := Fq_sI (Fq_r sr)
      have tm8 := TM_fr tm f8
      by_cases zh : T p = 72 ∧ nh < 4
      · rw [if_pos zh, fp_h t hp zh.1, Option.bind_some] at ec
        obtain ⟨s1, m1, m2, m3, m4⟩ := mrh (nh := nh) tm8 hp rfl h25 zh.2
        rcases m4 with ⟨b1, b2, b3, b4, b5, b6⟩ | ⟨b1, b2, b3⟩
        · have k7 := okh b1 (k := 7) (by omega)
          have hTk : ∀ k, k < 8 → 48 ≤ T (p + 1 + k) := fun k hk => Nat.le_trans (Nat.le_add_right _ _) (okh b1 hk).2.1
          rw [ph_1 hp tm h22 h25 zh.1 zh.2 (.inr rfl) b2, Option.bind_some, if_neg (show ¬ ((1, s1) : Int32 × Mem).1 = 0 from (by show ¬ (1 : Int32) = 0; decide))] at er
          rw [if_pos b1, if_pos rfl, ps_h t hp zh.1, Option.bind_some, nI_add] at ec
          have F1 := Fq_t f8 m1
          have hg' := gN_h (p := p) hg zh.2 b1
          have rf' : RF (gN T (nh + 1) nr (upN ph nh p) pr) s1 := by
            refine ⟨b4, by rw [m2]; exact h26, fun h k hh hk => ?_, fun r k hr hk => by rw [m3, gN_7]; have := rf.2.2.2 r k hr hk; rw [gN_7] at this; exact this⟩
            show _ = nI (if k < 7 then hd T (upN ph nh p h) k else _)
            rw [if_pos hk]
            have hh2 : h < nh + 1 := hh
            by_cases z : h = nh
            · rw [z, up_e]; exact b5 k hk
            · rw [up_n z, b6 _ (by omega)]
              have := rf.2.2.1 h k (show h < nh by omega) hk
              rw [show (gN T nh nr ph pr).2.2 k h = hd T (ph h) k from if_pos hk] at this
              exact this
          rcases ih (p + 9) (nh + 1) nr (upN ph nh p) pr (x4 + 1) k1 k3 s1 (by omega) (by omega) (by omega) (by omega) (by omega) hg' (TM_fr tm F1) rf' b3 with ⟨q, s', c1, c2, c3, c4⟩ | ⟨nh', nr', ph', pr', s', c0, c1, c2, c3, c4, c5⟩
          · exact .inl ⟨q, s', c1, by rw [ec]; exact c2, by rw [er]; exact c3, Fq_t F1 c4⟩
          · refine .inr ⟨nh', nr', ph', pr', s', c0, by rw [ec]; exact c1, by rw [er]; exact c2, Fq_t F1 c3, c4, fun s2 f2 t2 cf hf => ?_⟩
            obtain ⟨k2, rfl⟩ : ∃ k, f2 = k + 1 := ⟨f2 - 1, by omega⟩
            obtain ⟨s7, d1, d2, d3, d4, d5, d6, d7, d8⟩ := xrh (p := p) (nh := nh) t2 cf.1 zh.2 (by omega) hTk
            have t7 : TX T n s7 := TX_fr t2 d2
            have cf' : CF0 (gN T (nh + 1) nr (upN ph nh p) pr) s7 := by
              refine ⟨d3, by rw [d2.1 2 rfl]; exact cf.2.1, fun h hh => ?_, fun r hr => by
                have old := cf.2.2.2 r hr
                rw [d2.2.1 6 rfl, d2.2.1 7 rfl]
                refine ⟨fun u hu => ?_, ?_⟩
                · rw [gN_7, old.1 u hu, gN_7]
                · rw [gN_10, old.2, gN_10]⟩
              have hh2 : h < nh + 1 := hh
              have ev : ∀ k, k < 7 → (gN T (nh + 1) nr (upN ph nh p) pr).2.2 k h = hd T (upN ph nh p h) k := fun k hk => if_pos hk
              rw [ev 0 (by omega), ev 4 (by omega), ev 5 (by omega), ev 6 (by omega), d4, d6, d7, d8]
              by_cases z : h = nh
              · rw [if_pos z, if_pos z, if_pos z, if_pos z, z, up_e]
                refine ⟨rfl, fun u hu => ?_, rfl, rfl, rfl⟩
                rw [d5, if_pos (by omega), show 3 * nh + u - 3 * nh = u by omega]
                show _ = nI (if 1 + u < 7 then hd T (upN ph nh p nh) (1 + u) else _)
                rw [if_pos (by omega), up_e]
              · rw [if_neg z, if_neg z, if_neg z, if_neg z, up_n z]
                have old := cf.2.2.1 h (show h < nh by omega)
                refine ⟨old.1, fun u hu => ?_, old.2.2.1, old.2.2.2.1, old.2.2.2.2⟩
                rw [d5, if_neg (by omega), old.2.1 u hu]
                show nI (if 1 + u < 7 then hd T (ph h) (1 + u) else _) = nI (if 1 + u < 7 then hd T (upN ph nh p h) (1 + u) else _)
                rw [up_n z]
            obtain ⟨s3, g1, g2, g3⟩ := c5 s7 k2 t7 cf' (by omega)
            refine ⟨s3, ?_, Fq_t (Fq_w d2 (fun n h => by simp [rdI] at h ⊢; omega) (fun n h => by simp [rdQ, rhA] at h ⊢; omega) (fun h => h)) g2, g3⟩
            simp only [F_X3_readFrom_b14]
            rw [if_neg (show ¬ (9 : Int32) ≤ nI (nh + nr) from nI_ge (b := 9) (by omega) (by omega)), t2.2.1, if_neg (nI_ge hp (by omega)), ih_ok t2 hp, Option.bind_some, decide_eq_true zh.1, if_neg (by decide), d1, Option.bind_some, ps_h t7 hp zh.1, Option.bind_some, nI_add, nI_1, show nh + nr + 1 = nh + 1 + nr by omega]
            exact g1
        · have hb := bad_b (hOk T n p) (S := 8) (by omega)
          rw [ph_1 hp tm h22 h25 zh.1 zh.2 (.inl rfl) b2, Option.bind_some, if_pos rfl, b3] at er
          rw [if_neg b1, if_neg (n9F (by omega))] at ec
          exact .inl ⟨_, s1, by omega, ec, er, Fq_t f8 m1⟩
      · rw [if_neg zh] at ec
        by_cases zr : T p = 82 ∧ nr < 5
        · have z72 : T p ≠ 72 := by omega
          rw [if_pos zr, fp_r t hp z72, Option.bind_some] at ec
          obtain ⟨s1, m1, m2, m3, m4⟩ := mrr (nr := nr) tm8 hp rfl h26 zr.2
          rcases m4 with ⟨b1, b2, b3, b4, b5, b6⟩ | ⟨b1, b2, b3⟩
          · have k7 := okr b1 (k := 3) (by omega)
            have hTk : ∀ k, k < 4 → 48 ≤ T (p + 1 + k) := fun k hk => (okr b1 hk).2.1
            rw [pr_1 hp tm h22 h26 zr.1 zr.2 (.inr rfl) b2, Option.bind_some, if_neg (show ¬ ((1, s1) : Int32 × Mem).1 = 0 from (by show ¬ (1 : Int32) = 0; decide))] at er
            rw [if_pos b1, if_pos rfl, ps_r t hp z72, Option.bind_some, nI_add] at ec
            have F1 := Fq_t f8 m1
            have hg' := gN_r (p := p) hg zr.2 b1
            have rf' : RF (gN T nh (nr + 1) ph (upN pr nr p)) s1 := by
              refine ⟨by rw [m2]; exact h25, b4, fun h k hh hk => ?_, fun r k hr hk => ?_⟩
              · rw [m3]
                have := rf.2.2.1 h k hh hk
                rw [show (gN T nh nr ph pr).2.2 k h = hd T (ph h) k from if_pos hk] at this
                rw [show (gN T nh (nr + 1) ph (upN pr nr p)).2.2 k h = hd T (ph h) k from if_pos hk]
                exact this
              · have hr2 : r < nr + 1 := hr
                rw [show (gN T nh (nr + 1) ph (upN pr nr p)).2.2 (7 + k) r = rd T (upN pr nr p r) (7 + k - 7) from if_neg (by omega), Nat.add_sub_cancel_left]
                by_cases z : r = nr
                · rw [z, up_e]; exact b5 k hk
                · rw [up_n z, b6 _ (by omega)]
                  have := rf.2.2.2 r k (show r < nr by omega) hk
                  rw [show (gN T nh nr ph pr).2.2 (7 + k) r = rd T (pr r) (7 + k - 7) from if_neg (by omega), Nat.add_sub_cancel_left] at this
                  exact this
            rcases ih (p + 5) nh (nr + 1) ph (upN pr nr p) (x4 + 1) k1 k3 s1 (by omega) (by omega) (by omega) (by omega) (by omega) hg' (TM_fr tm F1) rf' b3 with ⟨q, s', c1, c2, c3, c4⟩ | ⟨nh', nr', ph', pr', s', c0, c1, c2, c3, c4, c5⟩
            · exact .inl ⟨q, s', c1, by rw [ec]; exact c2, by rw [er]; exact c3, Fq_t F1 c4⟩
            · refine .inr ⟨nh', nr', ph', pr', s', c0, by rw [ec]; exact c1, by rw [er]; exact c2, Fq_t F1 c3, c4, fun s2 f2 t2 cf hf => ?_⟩
              obtain ⟨k2, rfl⟩ : ∃ k, f2 = k + 1 := ⟨f2 - 1, by omega⟩
              obtain ⟨s7, d1, d2, d3, d5, d6⟩ := xrr (p := p) (nr := nr) t2 cf.2.1 zr.2 (by omega) hTk
              have t7 : TX T n s7 := TX_fr t2 d2
              have cf' : CF0 (gN T nh (nr + 1) ph (upN pr nr p)) s7 := by
                refine ⟨by rw [d2.1 1 rfl]; exact cf.1, d3, fun h hh => ?_, fun r hr => ?_⟩
                · rw [d2.2.1 1 rfl, d2.2.1 2 rfl, d2.2.1 3 rfl, d2.2.1 4 rfl, d2.2.1 5 rfl]
                  have ev : ∀ k, k < 7 → (gN T nh (nr + 1) ph (upN pr nr p)).2.2 k h = (gN T nh nr ph pr).2.2 k h := fun k hk => by
                    rw [show (gN T nh (nr + 1) ph (upN pr nr p)).2.2 k h = hd T (ph h) k from if_pos hk, show (gN T nh nr ph pr).2.2 k h = hd T (ph h) k from if_pos hk]
                  rw [ev 0 (by omega), ev 4 (by omega), ev 5 (by omega), ev 6 (by omega)]
                  have old := cf.2.2.1 h hh
                  exact ⟨old.1, fun u hu => by rw [ev (1 + u) (by omega)]; exact old.2.1 u hu, old.2.2⟩
                · have hr2 : r < nr + 1 := hr
                  have ev : ∀ k, (gN T nh (nr + 1) ph (upN pr nr p)).2.2 (7 + k) r = rd T (upN pr nr p r) k := fun k => by
                    rw [show (gN T nh (nr + 1) ph (upN pr nr p)).2.2 (7 + k) r = rd T (upN pr nr p r) (7 + k - 7) from if_neg (by omega), Nat.add_sub_cancel_left]
                  have ev0 : ∀ k, (gN T nh nr ph pr).2.2 (7 + k) r = rd T (pr r) k := fun k => by
                    rw [show (gN T nh nr ph pr).2.2 (7 + k) r = rd T (pr r) (7 + k - 7) from if_neg (by omega), Nat.add_sub_cancel_left]
                  rw [show (gN T nh (nr + 1) ph (upN pr nr p)).2.2 10 r = rd T (upN pr nr p r) 3 from ev 3, d6]
                  by_cases z : r = nr
                  · rw [if_pos z]
                    refine ⟨fun u hu => ?_, by rw [z, up_e]⟩
                    rw [ev u, d5, if_pos (by omega), z, up_e, show 3 * nr + u - 3 * nr = u by omega]
                  · rw [if_neg z]
                    have old := cf.2.2.2 r (show r < nr by omega)
                    refine ⟨fun u hu => ?_, by rw [up_n z, old.2, show (gN T nh nr ph pr).2.2 10 r = rd T (pr r) 3 from ev0 3]⟩
                    rw [ev u, d5, if_neg (by omega), up_n z, old.1 u hu, ev0 u]
              obtain ⟨s3, g1, g2, g3⟩ := c5 s7 k2 t7 cf' (by omega)
              refine ⟨s3, ?_, Fq_t (Fq_w d2 (fun n h => by simp [rdI] at h ⊢; omega) (fun n h => by simp [rdQ, rrA] at h ⊢; omega) (fun h => h)) g2, g3⟩
              simp only [F_X3_readFrom_b14]
              rw [if_neg (show ¬ (9 : Int32) ≤ nI (nh + nr) from nI_ge (b := 9) (by omega) (by omega)), t2.2.1, if_neg (nI_ge hp (by omega)), ih_ok t2 hp, Option.bind_some, decide_eq_false z72, if_pos (show bI false = 0 from rfl), d1, Option.bind_some, ps_r t7 hp z72, Option.bind_some, nI_add, nI_1]
              exact g1
          · have hb := bad_b (rOk T n p) (S := 4) (by omega)
            rw [pr_1 hp tm h22 h26 zr.1 zr.2 (.inl rfl) b2, Option.bind_some, if_pos rfl, b3] at er
            rw [if_neg b1, if_neg (n9F (by omega))] at ec
            exact .inl ⟨_, s1, by omega, ec, er, Fq_t f8 m1⟩
        · rw [if_neg zr] at ec
          rw [p0_1 hp tm h22 h25 h26 hnh hnr ⟨fun z => by omega, fun z => by omega⟩, Option.bind_some, if_pos rfl, h22] at er
          exact .inl ⟨p, sr, by omega, ec, er, Fq_r sr⟩
