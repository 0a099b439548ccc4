-- ways by number
variable {g : FD} {P : PD} {σ σ' : Mem}
def rs (b : Nat) : Nat → Nat → Nat
  | n, 0 => n
  | n, j + 1 => rs b (n / b) j
def dg (b n j : Nat) : Nat := rs b n j % b
def pw (b : Nat) : Nat → Nat
  | 0 => 1
  | k + 1 => pw b k * b
theorem rs_s (b : Nat) : ∀ j n, rs b n (j + 1) = rs b n j / b
  | 0, n => rfl
  | j + 1, n => rs_s b j (n / b)
theorem rs_add (b : Nat) : ∀ i n m, rs b n (i + m) = rs b (rs b n i) m
  | 0, n, m => by rw [Nat.zero_add]; rfl
  | i + 1, n, m => by rw [show i + 1 + m = (i + m) + 1 by omega]; exact rs_add b i (n / b) m
theorem rs_0 {b : Nat} (hb : 0 < b) : ∀ k n, rs b n k = 0 ↔ n < pw b k
  | 0, n => by show n = 0 ↔ n < 1; omega
  | k + 1, n => by
    show rs b (n / b) k = 0 ↔ n < pw b k * b
    rw [rs_0 hb k (n / b), Nat.div_lt_iff_lt_mul hb]
theorem pw_p {b : Nat} (hb : 0 < b) : ∀ k, 0 < pw b k
  | 0 => by show 0 < 1; omega
  | k + 1 => Nat.mul_pos (pw_p hb k) hb
theorem pw_5 {b : Nat} (hb : b ≤ 5) : ∀ k, pw b k ≤ 5 ^ k
  | 0 => Nat.le_refl 1
  | k + 1 => by
    show pw b k * b ≤ 5 ^ (k + 1)
    rw [Nat.pow_succ]
    exact Nat.mul_le_mul (pw_5 hb k) hb
theorem pw_b {b k : Nat} (hb : b ≤ 5) (hk : k ≤ 5) : pw b k ≤ 3125 :=
  Nat.le_trans (pw_5 hb k) (show 5 ^ k ≤ 5 ^ 5 from Nat.pow_le_pow_right (by decide) hk)
theorem inc_d {b : Nat} (h1 : 1 ≤ b) (h2 : b ≤ 5) (n : Nat) : (n % b = b - 1 → (n + 1) / b = n / b + 1 ∧ (n + 1) % b = 0) ∧ (n % b ≠ b - 1 → (n + 1) / b = n / b ∧ (n + 1) % b = n % b + 1) := by
  have : b = 1 ∨ b = 2 ∨ b = 3 ∨ b = 4 ∨ b = 5 := by omega
  rcases this with rfl | rfl | rfl | rfl | rfl <;> constructor <;> intro h <;> constructor <;> omega
theorem rs_inc {b : Nat} (h1 : 1 ≤ b) (h2 : b ≤ 5) : ∀ k n, (∀ j, j < k → dg b n j = b - 1) → rs b (n + 1) k = rs b n k + 1
  | 0, n, _ => rfl
  | k + 1, n, h => by
    have e := ((inc_d h1 h2 n).1 (h 0 (by omega))).1
    show rs b ((n + 1) / b) k = rs b (n / b) k + 1
    rw [e]
    exact rs_inc h1 h2 k (n / b) (fun j hj => h (j + 1) (by omega))
theorem dg_inc0 {b : Nat} (h1 : 1 ≤ b) (h2 : b ≤ 5) {k n j : Nat} (h : ∀ j, j < k → dg b n j = b - 1) (hj : j < k) : dg b (n + 1) j = 0 := by
  unfold dg
  rw [rs_inc h1 h2 j n (fun i hi => h i (by omega))]
  exact ((inc_d h1 h2 _).1 (h j hj)).2
theorem dg_inc1 {b : Nat} (h1 : 1 ≤ b) (h2 : b ≤ 5) {k n : Nat} (h : ∀ j, j < k → dg b n j = b - 1) (hk : dg b n k ≠ b - 1) : dg b (n + 1) k = dg b n k + 1 ∧ ∀ m, rs b (n + 1) (k + 1 + m) = rs b n (k + 1 + m) := by
  have e := rs_inc h1 h2 k n h
  have i := (inc_d h1 h2 (rs b n k)).2 hk
  refine ⟨?_, fun m => ?_⟩
  · unfold dg; rw [e]; exact i.2
  · rw [rs_add, rs_add b (k + 1) n m, rs_s, rs_s, e, i.1]
-- the way of a number
def wN (g : FD) (n r : Nat) : Nat := if r < g.2.1 then (if dg (g.1 + 1) n (g.2.1 - 1 - r) < g.1 then dg (g.1 + 1) n (g.2.1 - 1 - r) else 9) else 9
theorem wN_ok (g : FD) (n : Nat) : okY g (wN g n) := fun r _ => by
  unfold wN
  by_cases h : r < g.2.1
  · rw [if_pos h]
    by_cases h2 : dg (g.1 + 1) n (g.2.1 - 1 - r) < g.1
    · rw [if_pos h2]; exact .inr ⟨h2, h⟩
    · rw [if_neg h2]; exact .inl rfl
  · rw [if_neg h]; exact .inl rfl
def wM (g : FD) : Nat := pw (g.1 + 1) g.2.1
theorem wM_b (hg : okG g) : wM g ≤ 3125 := by have := hg.1; have := hg.2.1; exact pw_b (by omega) (by omega)
theorem wM_p (g : FD) : 0 < wM g := pw_p (by omega) _
theorem dg_top {b : Nat} (h1 : 1 ≤ b) (h2 : b ≤ 5) : ∀ k j, j < k → dg b (pw b k - 1) j = b - 1
  | 0, j, hj => absurd hj (Nat.not_lt_zero _)
  | k + 1, j, hj => by
    have hp := pw_p (b := b) (by omega) k
    have e : (pw b (k + 1) - 1) / b = pw b k - 1 ∧ (pw b (k + 1) - 1) % b = b - 1 := by
      show (pw b k * b - 1) / b = _ ∧ (pw b k * b - 1) % b = _
      generalize pw b k = q at *
      have : b = 1 ∨ b = 2 ∨ b = 3 ∨ b = 4 ∨ b = 5 := by omega
      rcases this with rfl | rfl | rfl | rfl | rfl <;> constructor <;> omega
    cases j with
    | zero => exact e.2
    | succ j =>
      show rs b ((pw b (k + 1) - 1) / b) j % b = b - 1
      rw [e.1]
      exact dg_top h1 h2 k j (by omega)
theorem wN_top (hg : okG g) (r : Nat) : wN g (wM g - 1) r = 9 := by
  have := hg.1
  unfold wN
  by_cases h : r < g.2.1
  · rw [if_pos h, if_neg]
    rw [show wM g = pw (g.1 + 1) g.2.1 from rfl, dg_top (by omega) (by omega) g.2.1 _ (by omega)]; omega
  · rw [if_neg h]
-- the class
theorem nw_ok (c : CF g σ) (hg : okG g) : F_X8_numberOfWays σ = some (nI (wM g)) := by
  have hg2 := hg.2.1
  unfold F_X8_numberOfWays
  refine lpD (fun n (a : Nat) i => F_X8_numberOfWays_b4 σ n (nI a) (nI i)) g.2.1 (fun i => pw (g.1 + 1) i) _ ?_ ?_ 4000 (by omega)
  · intro n
    simp only [F_X8_numberOfWays_b4]
    rw [c.2.1, if_pos (nI_le (Nat.le_refl _) (by omega))]; rfl
  · intro n i hi
    simp only [F_X8_numberOfWays_b4]
    rw [c.2.1, if_neg (nI_ge hi (by omega)), c.1, nI_1, nI_1, pk_mul]; rfl
theorem set33 {r : Nat} (hr : r < 5) (v : Int32) : F_X7_set 18 (nI r) v σ = some (sA σ 33 r v) := by
  unfold F_X7_set
  rw [put_ok (by rw [al_w (by omega)]; exact hr)]; rfl
def zA (n : Nat) : Bool := n != 33
theorem sw_ok (c : CF g σ) (hg : okG g) {N : Nat} (hN : N < 2 ^ 31) (h9 : ∀ r, r < 5 → g.2.1 ≤ r → σ.2.1 33 r = -9) : ∃ σ', F_X8_setWay (nI N) σ = some σ' ∧ Fq (fun _ => true) zA true σ σ' ∧ CW 18 (wN g N) σ' := by
  have hg1 := hg.1
  have hg2 := hg.2.1
  have e0 : (if (1 : Int32) < ((σ.1 1) + (1 : Int32)) then ((σ.1 1) + (1 : Int32)) else (1 : Int32)) = nI (g.1 + 1) := by
    rw [c.1, nI_1, show (1 : Int32) = nI 1 from rfl, if_lt (by omega) (by omega)]
    by_cases q : 1 < g.1 + 1
    · rw [if_pos q]
    · rw [if_neg q]; congr 1; omega
  unfold F_X8_setWay
  rw [e0, c.2.1]
  have hrsb : ∀ j, rs (g.1 + 1) N j < 2 ^ 31 := fun j => by
    induction j with
    | zero => exact hN
    | succ j ih => rw [rs_s]; exact Nat.lt_of_le_of_lt (Nat.div_le_self _ _) ih
  refine lp (fun n (s : Mem) j => F_X8_setWay_b27 n (nI (g.1 + 1)) (nI (rs (g.1 + 1) N j)) (nI (g.2.1 - j) - 1) s) (fun o => ∃ σ', o = some σ' ∧ Fq (fun _ => true) zA true σ σ' ∧ CW 18 (wN g N) σ') g.2.1 (fun j s => Fq (fun _ => true) zA true σ s ∧ ∀ r, r < 5 → g.2.1 - j ≤ r → s.2.1 33 r = hI (wN g N r)) ?_ ?_ g.2.1 0 σ 4000 (by omega) (by omega) (by omega) ⟨Fq_r σ, fun r hr h => by
    rw [h9 r hr (by omega)]
    unfold wN; rw [if_neg (by omega)]; rfl⟩
  · intro n s ⟨p1, p2⟩
    refine ⟨s, ?_, p1, fun r hr => p2 r hr (by omega)⟩
    simp only [F_X8_setWay_b27]
    rw [Nat.sub_self, if_pos (by decide)]
  · intro n s j hj ⟨p1, p2⟩
    have c' := CF_fr c p1
    have hr : g.2.1 - (j + 1) < 5 := by omega
    have e1 : nI (g.2.1 - j) - 1 = nI (g.2.1 - (j + 1)) := by rw [show g.2.1 - j = (g.2.1 - (j + 1)) + 1 by omega, nI_pred]
    have hd : rs (g.1 + 1) N j % (g.1 + 1) < g.1 + 1 := Nat.mod_lt _ (by omega)
    have hw : wN g N (g.2.1 - (j + 1)) = if rs (g.1 + 1) N j % (g.1 + 1) < g.1 then rs (g.1 + 1) N j % (g.1 + 1) else 9 := by
      unfold wN dg
      rw [if_pos (by omega), show g.2.1 - 1 - (g.2.1 - (j + 1)) = j by omega]
    have hI1 : (if nI g.1 ≤ nI (rs (g.1 + 1) N j % (g.1 + 1)) then F_X8_setWay_b27 n (nI (g.1 + 1)) (nI (rs (g.1 + 1) N j / (g.1 + 1))) (nI (g.2.1 - (j + 1)) + (-1)) (sA s 33 (g.2.1 - (j + 1)) (-9)) else F_X8_setWay_b27 n (nI (g.1 + 1)) (nI (rs (g.1 + 1) N j / (g.1 + 1))) (nI (g.2.1 - (j + 1)) + (-1)) (sA s 33 (g.2.1 - (j + 1)) (nI (rs (g.1 + 1) N j % (g.1 + 1))))) = F_X8_setWay_b27 n (nI (g.1 + 1)) (nI (rs (g.1 + 1) N j / (g.1 + 1))) (nI (g.2.1 - (j + 1)) + (-1)) (sA s 33 (g.2.1 - (j + 1)) (hI (wN g N (g.2.1 - (j + 1))))) := by
      rw [hw, if_le (by omega) (by omega)]
      by_cases q : rs (g.1 + 1) N j % (g.1 + 1) < g.1
      · rw [if_neg (by omega), if_pos q, hI_n (by omega)]
      · rw [if_pos (by omega), if_neg q, hI_9]
    refine .inr ⟨sA s 33 (g.2.1 - (j + 1)) (hI (wN g N (g.2.1 - (j + 1)))), ⟨Fq_sA p1, fun r hr5 hrj => ?_⟩, ?_⟩
    · rw [sA_2, if_pos rfl, upd_ap]
      by_cases q : r = g.2.1 - (j + 1)
      · rw [if_pos q, q]
      · rw [if_neg q]; exact p2 r hr5 (by omega)
    · show F_X8_setWay_b27 (n + 1) (nI (g.1 + 1)) (nI (rs (g.1 + 1) N j)) (nI (g.2.1 - j) - 1) s = F_X8_setWay_b27 n (nI (g.1 + 1)) (nI (rs (g.1 + 1) N (j + 1))) (nI (g.2.1 - (j + 1)) - 1) (sA s 33 (g.2.1 - (j + 1)) (hI (wN g N (g.2.1 - (j + 1)))))
      simp only [F_X8_setWay_b27]
      rw [e1, if_neg (nI_pos (by omega)), rmI_ok (hrsb j) (by omega) (by omega), Option.bind_some, dv_ok (hrsb j) (by omega) (by omega), Option.bind_some, c'.1, set33 hr, Option.bind_some, set33 hr, Option.bind_some, hI1, rs_s, Int32.sub_eq_add_neg]
-- the reference
def MV (g : FD) (n : Nat) (w : Nat → Nat) (σ : Mem) : Prop := ∀ r, r < g.2.1 → σ.2.1 n r = hI (w r)
def zB (n : Nat) : Bool := n != 64
theorem rs_z (b : Nat) : ∀ j, rs b 0 j = 0
  | 0 => rfl
  | j + 1 => by rw [rs_s, rs_z b j, Nat.zero_div]
theorem fw_ok (m : MF g σ) (hg : okG g) : ∃ σ', F_X11_firstWay σ = some σ' ∧ Fq (fun _ => true) zB true σ σ' ∧ MV g 64 (wN g 0) σ' := by
  have hg1 := hg.1
  have hg2 := hg.2.1
  have e0 : ∀ r, r < g.2.1 → hI (wN g 0 r) = if g.1 = 0 then -9 else 0 := fun r hr => by
    unfold wN dg
    rw [if_pos hr, rs_z, Nat.zero_mod]
    by_cases q : g.1 = 0
    · rw [if_pos q, if_neg (by omega), hI_9]
    · rw [if_neg q, if_pos (by omega)]; rfl
  unfold F_X11_firstWay
  refine lp (fun n (s : Mem) i => F_X11_firstWay_b2 n (nI i) s) (fun o => ∃ σ', o = some σ' ∧ Fq (fun _ => true) zB true σ σ' ∧ MV g 64 (wN g 0) σ') 5 (fun i s => Fq (fun _ => true) zB true σ s ∧ ∀ r, r < i → s.2.1 64 r = if g.1 = 0 then -9 else 0) ?_ ?_ 5 0 σ 4000 (by omega) (by omega) (by omega) ⟨Fq_r σ, fun r hr => absurd hr (Nat.not_lt_zero _)⟩
  · intro n s ⟨p1, p2⟩
    simp only [F_X11_firstWay_b2]
    rw [if_pos (show (5 : Int32) ≤ nI 5 from Int32.le_refl _)]
    exact ⟨s, rfl, p1, fun r hr => by rw [p2 r (by omega), e0 r hr]⟩
  · intro n s i hi ⟨p1, p2⟩
    have m' := MF_fr m p1
    refine .inr ⟨sA s 64 i (if g.1 = 0 then -9 else 0), ⟨Fq_sA p1, fun r hr => ?_⟩, ?_⟩
    · rw [sA_2, if_pos rfl, upd_ap]
      by_cases q : r = i
      · rw [if_pos q]
      · rw [if_neg q]; exact p2 r (by omega)
    · simp only [F_X11_firstWay_b2]
      rw [if_neg (show ¬ (5 : Int32) ≤ nI i from nI_ge (b := 5) hi (by omega)), m'.1, wr_64 hi, Option.bind_some, wr_64 hi, Option.bind_some, nI_1, show (0 : Int32) = nI 0 from rfl, if_eq (by omega) (by omega)]
      by_cases q : g.1 = 0
      · rw [if_pos q, if_pos q]
      · rw [if_neg q, if_neg q]
theorem nx_ok (m : MF g σ) (hg : okG g) {N : Nat} (hN : N < wM g) (h0 : MV g 64 (wN g N) σ) : ∃ σ', F_X11_nextWay σ = some (bI (decide (N + 1 < wM g)), σ') ∧ Fq (fun _ => true) zB true σ σ' ∧ MV g 64 (wN g (N + 1)) σ' := by
  have hg1 := hg.1
  have hg2 := hg.2.1
  have hb1 : 1 ≤ g.1 + 1 := by omega
  have hb2 : g.1 + 1 ≤ 5 := by omega
  have hz := (rs_0 (b := g.1 + 1) (by omega) g.2.1 N).mpr hN
  unfold F_X11_nextWay
  rw [m.2.1]
  refine lp (fun n (s : Mem) j => F_X11_nextWay_b7 n (nI (g.2.1 - j) - 1) s) (fun o => ∃ σ', o = some (bI (decide (N + 1 < wM g)), σ') ∧ Fq (fun _ => true) zB true σ σ' ∧ MV g 64 (wN g (N + 1)) σ') g.2.1 (fun j s => Fq (fun _ => true) zB true σ s ∧ (∀ i, i < j → dg (g.1 + 1) N i = g.1 + 1 - 1) ∧ (∀ r, r < g.2.1 → g.2.1 - j ≤ r → s.2.1 64 r = hI (wN g (N + 1) r)) ∧ ∀ r, r < g.2.1 - j → s.2.1 64 r = hI (wN g N r)) ?_ ?_ g.2.1 0 σ 4000 (by omega) (by omega) (by omega) ⟨Fq_r σ, fun i hi => absurd hi (Nat.not_lt_zero _), fun r h1 h2 => by omega, fun r hr => h0 r (by omega)⟩
  · intro n s ⟨p1, p2, p3, p4⟩
    have e1 := rs_inc hb1 hb2 g.2.1 N p2
    have e2 : ¬ N + 1 < wM g := fun q => by
      have := (rs_0 (b := g.1 + 1) (by omega) g.2.1 (N + 1)).mpr q
      omega
    refine ⟨s, ?_, p1, fun r hr => p3 r hr (by omega)⟩
    simp only [F_X11_nextWay_b7]
    rw [Nat.sub_self, if_pos (by decide), decide_eq_false e2]; rfl
  · intro n s j hj ⟨p1, p2, p3, p4⟩
    have m' := MF_fr m p1
    have hr : g.2.1 - (j + 1) < 5 := by omega
    have hrR : g.2.1 - (j + 1) < g.2.1 := by omega
    have e1 : nI (g.2.1 - j) - 1 = nI (g.2.1 - (j + 1)) := by rw [show g.2.1 - j = (g.2.1 - (j + 1)) + 1 by omega, nI_pred]
    have hd : dg (g.1 + 1) N j < g.1 + 1 := Nat.mod_lt _ (by omega)
    have hwn : ∀ M, wN g M (g.2.1 - (j + 1)) = if dg (g.1 + 1) M j < g.1 then dg (g.1 + 1) M j else 9 := fun M => by
      unfold wN
      rw [if_pos (by omega), show g.2.1 - 1 - (g.2.1 - (j + 1)) = j by omega]
    have hv := p4 (g.2.1 - (j + 1)) (by omega)
    by_cases q : dg (g.1 + 1) N j < g.1
    · refine .inl ?_
      have hne : dg (g.1 + 1) N j ≠ g.1 + 1 - 1 := by omega
      have hi := dg_inc1 hb1 hb2 p2 hne
      have e2 : N + 1 < wM g := by
        refine (rs_0 (b := g.1 + 1) (by omega) g.2.1 (N + 1)).mp ?_
        have h3 := hi.2 (g.2.1 - (j + 1))
        rw [show j + 1 + (g.2.1 - (j + 1)) = g.2.1 by omega] at h3
        rw [h3]; exact hz
      have hv2 : wN g N (g.2.1 - (j + 1)) = dg (g.1 + 1) N j := by rw [hwn, if_pos q]
      have hrest : ∀ v, v = hI (wN g (N + 1) (g.2.1 - (j + 1))) → MV g 64 (wN g (N + 1)) (sA s 64 (g.2.1 - (j + 1)) v) := fun v hv0 r hr1 => by
        rw [sA_2, if_pos rfl, upd_ap]
        by_cases q1 : r = g.2.1 - (j + 1)
        · rw [if_pos q1, hv0, q1]
        · rw [if_neg q1]
          by_cases q2 : g.2.1 - j ≤ r
          · exact p3 r hr1 q2
          · rw [p4 r (by omega)]
            congr 1
            unfold wN dg
            have h4 := hi.2 (g.2.1 - 1 - r - (j + 1))
            rw [show j + 1 + (g.2.1 - 1 - r - (j + 1)) = g.2.1 - 1 - r by omega] at h4
            rw [h4]
      by_cases q3 : dg (g.1 + 1) N j = g.1 - 1
      · refine ⟨sA s 64 (g.2.1 - (j + 1)) (-9), ?_, Fq_sA p1, hrest _ (by rw [hwn, hi.1, if_neg (by omega), hI_9])⟩
        simp only [F_X11_nextWay_b7]
        rw [e1, if_neg (nI_pos (by omega)), rd_64 hr, hv, hv2, Option.bind_some, hI_n (by omega), if_neg (by rw [nI_n9 (by omega)]; exact id), Option.bind_some, m'.1, show (1 : Int32) = nI 1 from rfl, pk_sub (by omega), if_pos (by rw [q3]), wr_64 hr, Option.bind_some, decide_eq_true e2]
        rfl
      · refine ⟨sA s 64 (g.2.1 - (j + 1)) (nI (dg (g.1 + 1) N j + 1)), ?_, Fq_sA p1, hrest _ (by rw [hwn, hi.1, if_pos (by omega), hI_n (by omega)])⟩
        simp only [F_X11_nextWay_b7]
        rw [e1, if_neg (nI_pos (by omega)), rd_64 hr, hv, hv2, Option.bind_some, hI_n (by omega), if_neg (by rw [nI_n9 (by omega)]; exact id), Option.bind_some, m'.1, show (1 : Int32) = nI 1 from rfl, pk_sub (by omega), if_neg (by rw [nI_e (by omega) (by omega)]; exact q3), Option.bind_some, nI_add, wr_64 hr, Option.bind_some, decide_eq_true e2]
        rfl
    · refine .inr ⟨sA s 64 (g.2.1 - (j + 1)) (hI (wN g (N + 1) (g.2.1 - (j + 1)))), ⟨Fq_sA p1, ?_, ?_, ?_⟩, ?_⟩
      · intro i hi
        by_cases q1 : i = j
        · rw [q1]; omega
        · exact p2 i (by omega)
      · intro r hr1 hr2
        rw [sA_2, if_pos rfl, upd_ap]
        by_cases q1 : r = g.2.1 - (j + 1)
        · rw [if_pos q1, q1]
        · rw [if_neg q1]; exact p3 r hr1 (by omega)
      · intro r hr1
        rw [sA_2, if_pos rfl, upd_ap, if_neg (by omega)]
        exact p4 r (by omega)
      · have h5 : dg (g.1 + 1) (N + 1) j = 0 := dg_inc0 hb1 hb2 (k := j + 1) (fun i hi => by
          by_cases q1 : i = j
          · rw [q1]; omega
          · exact p2 i (by omega)) (by omega)
        show F_X11_nextWay_b7 (n + 1) (nI (g.2.1 - j) - 1) s = F_X11_nextWay_b7 n (nI (g.2.1 - (j + 1)) - 1) (sA s 64 (g.2.1 - (j + 1)) (hI (wN g (N + 1) (g.2.1 - (j + 1)))))
        simp only [F_X11_nextWay_b7]
        rw [e1, if_neg (nI_pos (by omega)), rd_64 hr, hv, hwn, if_neg q, Option.bind_some, if_pos hI_9, m'.1, wr_64 hr, Option.bind_some, wr_64 hr, Option.bind_some, hwn, h5, show (0 : Int32) = nI 0 from rfl, if_eq (by omega) (by omega), Int32.sub_eq_add_neg]
        by_cases q4 : g.1 = 0
        · rw [if_pos q4, if_neg (by omega), hI_9]
        · rw [if_neg q4, if_pos (by omega), hI_n (by omega)]
