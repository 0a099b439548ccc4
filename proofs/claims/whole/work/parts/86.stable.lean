-- there is a way that holds: held by riders
variable {g : FD} {P : PD} {σ σ' : Mem}
theorem hl_tr {W : Nat → Nat → Nat} {h a b c : Nat} (h1 : hlB W h a b = true) (h2 : hlB W h b c = true) : hlB W h a c = true := by
  rw [hlB_t] at *; omega
theorem hl_tot {W : Nat → Nat → Nat} {h a b : Nat} (e : a ≠ b) (h1 : hlB W h a b = false) : hlB W h b a = true := by
  rw [← Bool.not_eq_true, hlB_t] at h1; rw [hlB_t]; omega
theorem hl_as {W : Nat → Nat → Nat} {h a b : Nat} (h1 : hlB W h a b = true) : hlB W h b a = false := by
  rw [← Bool.not_eq_true]; intro h2; rw [hlB_t] at *; omega
theorem lst_mn (W : Nat → Nat → Nat) (w : Nat → Nat) (h : Nat) : ∀ n, n ≤ 9 → ∀ r, r < n → w r = h → lst W w h n = r ∨ hlB W h r (lst W w h n) = true
  | 0, _, r, hr, _ => absurd hr (Nat.not_lt_zero _)
  | n + 1, hn, r, hr, e => by
    have ih := lst_mn W w h n (by omega)
    have hi := lst_in W w h n
    show (if w n = h then (if lst W w h n = 9 then n else if hlB W h (lst W w h n) n then n else lst W w h n) else lst W w h n) = r ∨ hlB W h r (if w n = h then (if lst W w h n = 9 then n else if hlB W h (lst W w h n) n then n else lst W w h n) else lst W w h n) = true
    by_cases e0 : w n = h
    · rw [if_pos e0]
      by_cases e1 : lst W w h n = 9
      · rw [if_pos e1]
        rcases hi with ⟨_, i2⟩ | ⟨i1, i2⟩
        · by_cases q : r = n
          · exact .inl q.symm
          · exact absurd e (i2 r (by omega))
        · omega
      · rw [if_neg e1]
        have hl : lst W w h n < n := by
          rcases hi with ⟨i1, _⟩ | ⟨i1, _⟩
          · exact absurd i1 e1
          · exact i1
        by_cases e2 : hlB W h (lst W w h n) n = true
        · rw [if_pos e2]
          by_cases q : r = n
          · exact .inl q.symm
          · rcases ih r (by omega) e with k | k
            · exact .inr (by rw [← k]; exact e2)
            · exact .inr (hl_tr k e2)
        · rw [if_neg e2]
          by_cases q : r = n
          · rw [q]; exact .inr (hl_tot (by omega) ((Bool.not_eq_true _).mp e2))
          · exact ih r (by omega) e
    · rw [if_neg e0]
      by_cases q : r = n
      · rw [q] at e; exact absurd e e0
      · exact ih r (by omega) e
theorem cnt_up {p q : Nat → Bool} {r : Nat} (h : ∀ x, x ≠ r → p x = q x) : ∀ n, r < n → cntN q n + (if p r then 1 else 0) = cntN p n + (if q r then 1 else 0)
  | 0, hr => absurd hr (Nat.not_lt_zero _)
  | n + 1, hr => by
    rw [cntN_s, cntN_s]
    by_cases e : r = n
    · subst e
      rw [cntN_cg (p := p) (q := q) r (fun x hx => h x (by omega))]; omega
    · have ih := cnt_up h n (by omega)
      rw [h n (by omega)]; omega
theorem kc_1 {w : Nat → Nat} {r h : Nat} (hr : r < 5) (e : w r ≠ h) : kc (upN w r h) h = kc w h + 1 := by
  have := cnt_up (p := kpB w h) (q := kpB (upN w r h) h) (r := r) (fun x hx => by unfold kpB upN; rw [if_neg hx]) 5 hr
  rw [show kpB w h r = false from decide_eq_false e, show kpB (upN w r h) h r = true from decide_eq_true (by unfold upN; rw [if_pos rfl])] at this
  unfold kc
  simp only [Bool.false_eq_true, if_false, if_true] at this
  omega
theorem kc_0 {w : Nat → Nat} {r x h : Nat} (hr : r < 5) (e : w r ≠ h) (e2 : x ≠ h) : kc (upN w r x) h = kc w h := by
  have := cnt_up (p := kpB w h) (q := kpB (upN w r x) h) (r := r) (fun y hy => by unfold kpB upN; rw [if_neg hy]) 5 hr
  rw [show kpB w h r = false from decide_eq_false e, show kpB (upN w r x) h r = false from decide_eq_false (by unfold upN; rw [if_pos rfl]; exact e2)] at this
  unfold kc
  simp only [Bool.false_eq_true, if_false] at this
  omega
theorem kc_m {w : Nat → Nat} {r x h : Nat} (hr : r < 5) (e : w r = h) (e2 : x ≠ h) : kc (upN w r x) h + 1 = kc w h := by
  have := cnt_up (p := kpB w h) (q := kpB (upN w r x) h) (r := r) (fun y hy => by unfold kpB upN; rw [if_neg hy]) 5 hr
  rw [show kpB w h r = true from decide_eq_true e, show kpB (upN w r x) h r = false from decide_eq_false (by unfold upN; rw [if_pos rfl]; exact e2)] at this
  unfold kc
  simp only [Bool.false_eq_true, if_false, if_true] at this
  omega
theorem up_e (w : Nat → Nat) (r h : Nat) : upN w r h r = h := if_pos rfl
theorem up_n {w : Nat → Nat} {r h x : Nat} (e : x ≠ r) : upN w r h x = w x := if_neg e
-- what stays so while they are led
def sbI (g : FD) (W : Nat → Nat → Nat) (w l : Nat → Nat) : Prop := okY g w ∧ (∀ r, 5 ≤ r → w r = 9) ∧ (∀ h, h < g.1 → kc w h ≤ g.2.2 0 h) ∧ (∀ r, r < g.2.1 → w r ≠ 9 → enB g W (w r) r = true ∧ rk g r (w r) < l r) ∧ ∀ r h, r < g.2.1 → h < g.1 → rk g r h < l r → w r ≠ h → enB g W h r = false ∨ (g.2.2 0 h ≤ kc w h ∧ ∀ q, q < 5 → w q = h → hlB W h q r = true)
theorem sb_st (hg : okG g) {W : Nat → Nat → Nat} {w l : Nat → Nat} (I : sbI g W w l) {r0 h0 : Nat} (hr : r0 < g.2.1) (h9 : w r0 = 9) (hh : h0 < g.1) (hk : rk g r0 h0 = l r0) : sbI g W (leadW g W w r0 h0) (upN l r0 (l r0 + 1)) := by
  have hg1 := hg.1
  have hg2 := hg.2.1
  obtain ⟨i1, i0, i2, i3, i4⟩ := I
  have hr5 : r0 < 5 := by omega
  have n0 : w r0 ≠ h0 := by omega
  have lmono : ∀ r, l r ≤ upN l r0 (l r0 + 1) r := fun r => by
    unfold upN; split
    · rename_i e; rw [e]; omega
    · omega
  have inj : ∀ h, h < g.1 → rk g r0 h < upN l r0 (l r0 + 1) r0 → h ≠ h0 → rk g r0 h < l r0 := fun h h1 h2 h3 => by
    rw [up_e] at h2
    have : rk g r0 h ≠ l r0 := fun q => h3 (rk_inj h1 hh (by rw [hk]; exact q))
    omega
  have oth : ∀ r h, r ≠ r0 → rk g r h < upN l r0 (l r0 + 1) r → rk g r h < l r := fun r h e h2 => by rw [up_n e] at h2; exact h2
  have old : ∀ r h, r < g.2.1 → h < g.1 → (r = r0 → h ≠ h0) → rk g r h < upN l r0 (l r0 + 1) r → rk g r h < l r := fun r h h1 h2 h3 h4 => by
    by_cases e : r = r0
    · subst e; exact inj h h2 h4 (h3 rfl)
    · exact oth r h e h4
  unfold leadW
  by_cases e : leadB g W w r0 h0 = true
  · rw [if_pos e]
    unfold leadB at e
    rw [Bool.and_eq_true] at e
    by_cases f : fuB g w h0 = true
    · rw [if_pos f]
      have fd : g.2.2 0 h0 ≤ kc w h0 := of_decide_eq_true f
      have e2 : hlB W h0 r0 (lst W w h0 5) = true := by rw [f] at e; exact e.2
      have L := lst_full hg W hh (w := w) fd
      have mn := lst_mn W w h0 5 (by omega)
      generalize lst W w h0 5 = lo at *
      have hlo : lo ≠ r0 := fun q => by rw [q] at L; omega
      have hloR : lo < g.2.1 := by rcases i1 lo L.1 with q | q <;> omega
      -- values
      have v1 : ∀ x, x ≠ r0 → x ≠ lo → upN (upN w lo 9) r0 h0 x = w x := fun x q1 q2 => by rw [up_n q1, up_n q2]
      have v2 : upN (upN w lo 9) r0 h0 lo = 9 := by rw [up_n hlo, up_e]
      have v3 : upN (upN w lo 9) r0 h0 r0 = h0 := up_e _ _ _
      have k0 : kc (upN (upN w lo 9) r0 h0) h0 = kc w h0 := by
        have a1 := kc_m (w := w) (x := 9) L.1 L.2 (by omega)
        have a2 := kc_1 (w := upN w lo 9) (h := h0) hr5 (by rw [up_n (Ne.symm hlo)]; exact n0)
        omega
      have k1 : ∀ h, h < g.1 → h ≠ h0 → kc (upN (upN w lo 9) r0 h0) h = kc w h := fun h q1 q2 => by
        rw [kc_0 hr5 (by rw [up_n (Ne.symm hlo)]; omega) (Ne.symm q2), kc_0 L.1 (by omega) (by omega)]
      have s1 : ∀ h q, h < g.1 → h ≠ h0 → upN (upN w lo 9) r0 h0 q = h → w q = h := fun h q q1 q2 q3 => by
        by_cases z : q = r0
        · rw [z, v3] at q3; omega
        · by_cases z2 : q = lo
          · rw [z2, v2] at q3; omega
          · rw [v1 q z z2] at q3; exact q3
      refine ⟨okW_up (okW_u9 i1) hr hh, fun r h5 => by rw [v1 r (by omega) (by omega)]; exact i0 r h5, fun h hh2 => ?_, fun r hr2 hr9 => ?_, fun r h hr2 hh2 hlt hne => ?_⟩
      · by_cases z : h = h0
        · rw [z, k0]; exact i2 h0 hh
        · rw [k1 h hh2 z]; exact i2 h hh2
      · by_cases z : r = r0
        · subst z; rw [v3, up_e]; exact ⟨e.1, by omega⟩
        · by_cases z2 : r = lo
          · rw [z2, v2] at hr9; exact absurd rfl hr9
          · rw [v1 r z z2] at hr9 ⊢
            have := i3 r hr2 hr9
            exact ⟨this.1, Nat.lt_of_lt_of_le this.2 (lmono r)⟩
      · by_cases z : h = h0
        · subst z
          have z1 : r ≠ r0 := fun q => by rw [q, v3] at hne; exact hne rfl
          have hlt2 := oth r h z1 hlt
          by_cases z2 : r = lo
          · subst z2
            refine .inr ⟨by rw [k0]; exact fd, fun q hq hv => ?_⟩
            by_cases z3 : q = r0
            · rw [z3]; exact e2
            · by_cases z4 : q = r
              · rw [z4, v2] at hv; omega
              · rw [v1 q z3 z4] at hv
                exact (mn q hq hv).resolve_left (Ne.symm z4)
          · rw [v1 r z1 z2] at hne
            rcases i4 r h hr2 hh2 hlt2 hne with k | ⟨k2, k3⟩
            · exact .inl k
            · refine .inr ⟨by rw [k0]; exact fd, fun q hq hv => ?_⟩
              by_cases z3 : q = r0
              · rw [z3]; exact hl_tr e2 (k3 lo L.1 L.2)
              · by_cases z4 : q = lo
                · rw [z4, v2] at hv; omega
                · rw [v1 q z3 z4] at hv
                  exact k3 q hq hv
        · have hlt2 := old r h hr2 hh2 (fun _ => z) hlt
          have hne2 : w r ≠ h := fun q => by
            by_cases z1 : r = r0
            · rw [z1] at q; omega
            · by_cases z2 : r = lo
              · rw [z2, L.2] at q; exact z q.symm
              · rw [v1 r z1 z2] at hne; exact hne q
          rcases i4 r h hr2 hh2 hlt2 hne2 with k | ⟨k2, k3⟩
          · exact .inl k
          · exact .inr ⟨by rw [k1 h hh2 z]; exact k2, fun q hq hv => k3 q hq (s1 h q hh2 z hv)⟩
    · rw [if_neg f]
      have fd : ¬ g.2.2 0 h0 ≤ kc w h0 := fun q => f (decide_eq_true q)
      refine ⟨okW_up i1 hr hh, fun r h5 => by rw [up_n (by omega)]; exact i0 r h5, fun h hh2 => ?_, fun r hr2 hr9 => ?_, fun r h hr2 hh2 hlt hne => ?_⟩
      · by_cases z : h = h0
        · rw [z, kc_1 hr5 n0]; omega
        · rw [kc_0 hr5 (by omega) (Ne.symm z)]; exact i2 h hh2
      · by_cases z : r = r0
        · subst z; rw [up_e, up_e]; exact ⟨e.1, by omega⟩
        · rw [up_n z] at hr9 ⊢
          have := i3 r hr2 hr9
          exact ⟨this.1, Nat.lt_of_lt_of_le this.2 (lmono r)⟩
      · have zz : r = r0 → h ≠ h0 := fun q q2 => by rw [q, q2, up_e] at hne; exact hne rfl
        have hlt2 := old r h hr2 hh2 zz hlt
        have hne2 : w r ≠ h := fun q => by
          by_cases z1 : r = r0
          · rw [z1] at q; omega
          · rw [up_n z1] at hne; exact hne q
        rcases i4 r h hr2 hh2 hlt2 hne2 with k | ⟨k2, k3⟩
        · exact .inl k
        · by_cases z : h = h0
          · rw [z] at k2; exact absurd k2 fd
          · refine .inr ⟨by rw [kc_0 hr5 (by omega) (Ne.symm z)]; exact k2, fun q hq hv => ?_⟩
            by_cases z1 : q = r0
            · rw [z1, up_e] at hv; exact absurd hv.symm z
            · rw [up_n z1] at hv; exact k3 q hq hv
  · rw [if_neg e]
    refine ⟨i1, i0, i2, fun r hr2 hr9 => ?_, fun r h hr2 hh2 hlt hne => ?_⟩
    · have := i3 r hr2 hr9
      exact ⟨this.1, Nat.lt_of_lt_of_le this.2 (lmono r)⟩
    · by_cases z : r = r0 ∧ h = h0
      · obtain ⟨z1, z2⟩ := z
        subst z1; subst z2
        unfold leadB at e
        by_cases z3 : enB g W h r = true
        · rw [z3, Bool.true_and] at e
          rw [Bool.or_eq_true] at e
          have z4 : fuB g w h = true := by
            cases q : fuB g w h with
            | true => rfl
            | false => exact absurd (.inl (by rw [q]; rfl)) e
          have fd : g.2.2 0 h ≤ kc w h := of_decide_eq_true z4
          have z5 : hlB W h r (lst W w h 5) = false := (Bool.not_eq_true _).mp (fun q => e (.inr q))
          have L := lst_full hg W hh2 (w := w) fd
          have mn := lst_mn W w h 5 (by omega)
          generalize lst W w h 5 = lo at *
          have z6 : hlB W h lo r = true := hl_tot (fun q => by rw [← q] at L; omega) z5
          refine .inr ⟨fd, fun q hq hv => ?_⟩
          rcases mn q hq hv with k | k
          · rw [← k]; exact z6
          · exact hl_tr k z6
        · exact .inl ((Bool.not_eq_true _).mp z3)
      · have zz : r = r0 → h ≠ h0 := fun q q2 => z ⟨q, q2⟩
        exact i4 r h hr2 hh2 (old r h hr2 hh2 zz hlt) hne
theorem sb_hR (hg : okG g) (A : Nat → Bool) (W : Nat → Nat → Nat) : ∀ k, sbI g W (hR g A W k).1 (hR g A W k).2
  | 0 => ⟨fun r _ => .inl rfl, fun r _ => rfl, fun h hh => by
      have hg1 := hg.1
      show cntN (fun _ => decide (9 = h)) 5 ≤ _
      rw [cntN_0 5 (fun _ _ => decide_eq_false (by omega))]; exact Nat.zero_le _, fun r _ h => absurd rfl h, fun r h _ _ hlt => absurd hlt (Nat.not_lt_zero _)⟩
  | k + 1 => by
    have ih := sb_hR hg A W k
    have hg2 := hg.2.1
    show sbI g W (stR g A W (hR g A W k)).1 (stR g A W (hR g A W k)).2
    unfold stR
    rcases lf_c (pR g A (hR g A W k)) g.2.1 (by omega) with ⟨i1, i2⟩ | ⟨i1, i2, i3⟩
    · rw [if_pos i1]; exact ih
    · rw [if_neg (by omega)]
      generalize lf (pR g A (hR g A W k)) g.2.1 = r at *
      unfold pR at i2
      simp only [Bool.and_eq_true, decide_eq_true_eq] at i2
      have hp := prf_ok hg (r := r) i2.2.2
      exact sb_st hg ih i1 i2.2.1 hp.1 hp.2
theorem sb_he (hg : okG g) {W : Nat → Nat → Nat} {w l : Nat → Nat} (I : sbI g W w l) (he : ∀ r, r < g.2.1 → w r = 9 → g.1 ≤ l r) : heB g W w = true := by
  have hg1 := hg.1
  have hg2 := hg.2.1
  obtain ⟨i1, i0, i2, i3, i4⟩ := I
  have a1 : isW g w = true := al_t g.1 (fun h hh => decide_eq_true (i2 h hh))
  have a2 : alE g W w g.2.1 = true := al_t g.2.1 (fun r hr => by
    by_cases q : w r = 9
    · rw [decide_eq_true q]; rfl
    · rw [(i3 r hr q).1, Bool.or_true])
  have a3 : noB g W w g.2.1 = true := al_t g.2.1 (fun r hr => al_t g.1 (fun h hh => by
    cases hb : boB g W w r h with
    | false => rfl
    | true =>
      exfalso
      unfold boB at hb
      rw [Bool.and_eq_true, Bool.and_eq_true] at hb
      have hlt : rk g r h < l r ∧ w r ≠ h := by
        have hq := hb.2.1
        by_cases q : w r = 9
        · exact ⟨Nat.lt_of_lt_of_le (rk_b hh) (he r hr q), by omega⟩
        · unfold rlO at hq
          rw [decide_eq_false q, Bool.false_or] at hq
          have h1 := rk_lt hh hq
          have h2 := (i3 r hr q).2
          exact ⟨by omega, fun z => by rw [z, rl_irr] at hq; cases hq⟩
      rcases i4 r h hr hh hlt.1 hlt.2 with k | ⟨k1, k2⟩
      · rw [k] at hb; cases hb.1
      · have hf : fuB g w h = true := decide_eq_true k1
        have L := lst_full hg W hh (w := w) k1
        have z1 := k2 _ L.1 L.2
        have z2 := hb.2.2
        rw [hf, hl_as z1] at z2
        cases z2))
  unfold heB
  rw [a1, a2, a3]; rfl
-- each way has a number
def enc (b : Nat) : Nat → (Nat → Nat) → Nat
  | 0, _ => 0
  | k + 1, d => d 0 + b * enc b k (fun j => d (j + 1))
theorem enc_lt {b : Nat} : ∀ k d, (∀ j, j < k → d j < b) → enc b k d < pw b k
  | 0, d, _ => by show 0 < 1; omega
  | k + 1, d, h => by
    have ih := enc_lt k (fun j => d (j + 1)) (fun j hj => h (j + 1) (by omega))
    have h0 := h 0 (by omega)
    have h1 := Nat.mul_le_mul_left b (Nat.succ_le_of_lt ih)
    rw [Nat.mul_succ] at h1
    show d 0 + b * enc b k (fun j => d (j + 1)) < pw b k * b
    rw [Nat.mul_comm (pw b k) b]; omega
theorem enc_dg {b : Nat} : ∀ k d, (∀ j, j < k → d j < b) → ∀ j, j < k → dg b (enc b k d) j = d j
  | 0, d, _, j, hj => absurd hj (Nat.not_lt_zero _)
  | k + 1, d, h, 0, _ => by
    show (d 0 + b * enc b k (fun j => d (j + 1))) % b = d 0
    rw [Nat.add_mul_mod_self_left, Nat.mod_eq_of_lt (h 0 (by omega))]
  | k + 1, d, h, j + 1, hj => by
    have h0 := h 0 (by omega)
    show dg b ((d 0 + b * enc b k (fun j => d (j + 1))) / b) j = d (j + 1)
    rw [Nat.add_mul_div_left _ _ (by omega), Nat.div_eq_of_lt h0, Nat.zero_add]
    exact enc_dg k (fun j => d (j + 1)) (fun j hj => h (j + 1) (by omega)) j (by omega)
theorem wN_su (hg : okG g) {w : Nat → Nat} (hw : okY g w) (h5 : ∀ r, 5 ≤ r → w r = 9) : ∃ n, n < wM g ∧ wN g n = w := by
  have hg1 := hg.1
  have hg2 := hg.2.1
  have hd : ∀ j, j < g.2.1 → (fun j => if w (g.2.1 - 1 - j) = 9 then g.1 else w (g.2.1 - 1 - j)) j < g.1 + 1 := fun j hj => by
    show (if w (g.2.1 - 1 - j) = 9 then g.1 else w (g.2.1 - 1 - j)) < g.1 + 1
    split
    · omega
    · rcases hw (g.2.1 - 1 - j) (by omega) with q | q
      · omega
      · omega
  refine ⟨enc (g.1 + 1) g.2.1 (fun j => if w (g.2.1 - 1 - j) = 9 then g.1 else w (g.2.1 - 1 - j)), enc_lt _ _ hd, ?_⟩
  funext r
  unfold wN
  by_cases hr : r < g.2.1
  · rw [if_pos hr, enc_dg _ _ hd _ (by omega)]
    show (if (if w (g.2.1 - 1 - (g.2.1 - 1 - r)) = 9 then g.1 else w (g.2.1 - 1 - (g.2.1 - 1 - r))) < g.1 then (if w (g.2.1 - 1 - (g.2.1 - 1 - r)) = 9 then g.1 else w (g.2.1 - 1 - (g.2.1 - 1 - r))) else 9) = w r
    rw [show g.2.1 - 1 - (g.2.1 - 1 - r) = r by omega]
    by_cases q : w r = 9
    · rw [if_pos q, if_neg (Nat.lt_irrefl _), q]
    · rw [if_neg q, if_pos]
      rcases hw r (by omega) with z | z
      · exact absurd z q
      · exact z.1
  · rw [if_neg hr]
    by_cases q : r < 5
    · rw [okW_9 hw q (by omega)]
    · rw [h5 r (by omega)]
theorem hoS_e (hg : okG g) (W : Nat → Nat → Nat) : (hoS g W (wM g)).1 ≠ 0 := by
  have hg2 := hg.2.1
  have I := sb_hR hg (fun _ => true) W 20
  have he : ∀ r, r < g.2.1 → (hR g (fun _ => true) W 20).1 r = 9 → g.1 ≤ (hR g (fun _ => true) W 20).2 r := fun r hr h9 => by
    have hE := hR_end hg (fun _ => true) W
    rcases lf_c (pR g (fun _ => true) (hR g (fun _ => true) W 20)) g.2.1 (by omega) with ⟨i1, i2⟩ | ⟨i1, i2, i3⟩
    · have := i2 r hr
      unfold pR at this
      rw [Bool.true_and, decide_eq_true h9, Bool.true_and] at this
      have := of_decide_eq_false this
      omega
    · omega
  have h1 := sb_he hg I he
  obtain ⟨n, hn, e⟩ := wN_su hg I.1 I.2.1
  rw [← e] at h1
  have h2 := hoS_m g W (n + 1) (wM g - (n + 1))
  rw [show n + 1 + (wM g - (n + 1)) = wM g by omega, hoS_1 h1] at h2
  have h3 : (hoS g W n).1 + 1 ≤ (hoS g W (wM g)).1 := h2
  omega
theorem st_sure : Step_sure Inv := by
  intro u σ hI0
  obtain ⟨g, P, R⟩ := id hI0
  have hg := R.1
  have hg2 := hg.2.1
  have I20 := Inv_fr hI0 (fr20 σ 0)
  rcases rider_c hg u with ⟨r, hr, rfl⟩ | ⟨h1, h2⟩
  · obtain ⟨σ1, w1, w2, w3⟩ := weigh0 R
    have R1 := Rel_fr R w2
    obtain ⟨σ2, x1, x2, x3, x4, x5, x6⟩ := xfh_ok R1.2.2.1 hg w3 (oS_P g P) R1.2.2.2.2.2.2.2.2.2.2.2.2
    have R2 := Rel_33 (qI := hqI) (qA := rqA) R1 (Fq_hq x2) x6
    have R3 := R_20 R2
    obtain ⟨σ4, q1, q2, q3, q4⟩ := mfh_ok R3.2.2.2.1 hg (md_R R3)
    have R4 := Rel_fr R3 (Fr_mq q2 pI_30)
    have hf := okW_b (hoS_ok g (Wo g (sP g P)) (wM g)).1 hg (r := r) (by omega)
    have hb := (q4.resolve_left (hoS_e hg _)) r hr
    refine ⟨if (hoS g (Wo g (sP g P)) (wM g)).2.2 r = true then -9 else nI ((hoS g (Wo g (sP g P)) (wM g)).2.1 r), σ2, σ4, ?_, ?_, g, P, R4⟩
    · unfold F_X10_sure
      rw [hasR_1 R.2.2.1 hg hr, Option.bind_some, if_neg (by decide), w1, Option.bind_some, x1, Option.bind_some, ct_ok _ (by omega), Option.bind_some, x5 r hr]
      cases (hoS g (Wo g (sP g P)) (wM g)).2.2 r with
      | true => rw [if_neg (by decide), if_pos rfl]
      | false =>
        rw [if_pos (show bI false = 0 from rfl), hof_ok (by omega) x4 (by omega), Option.bind_some, if_neg (show ¬ (false = true) by decide), if_h9 (by omega)]
        by_cases q : (hoS g (Wo g (sP g P)) (wM g)).2.1 r = 9
        · rw [if_pos q, q]; rfl
        · rw [if_neg q, hI_n q]
    · unfold F_X11_sure
      rw [show stI σ2 20 0 = some (sI σ2 20 0) from rfl, Option.bind_some, noR_1 R3.2.2.2.1 hg hr, Option.bind_some, if_pos rfl, q1, Option.bind_some, rd_65 (by omega), Option.bind_some]
      rw [hb]; rfl
  · refine ⟨-1, σ, sI σ 20 0, ?_, ?_, I20⟩
    · unfold F_X10_sure; rw [h1 σ R.2.2.1]; rfl
    · unfold F_X11_sure
      rw [show stI σ 20 0 = some (sI σ 20 0) from rfl, Option.bind_some, h2 _ (MF_20 R.2.2.2.1 0)]; rfl
