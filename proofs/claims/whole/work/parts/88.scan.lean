-- the text: part by part
variable {g : FD} {P : PD} {σ σ' : Mem} {T : Nat → Nat} {n p : Nat}
theorem fgv (t : TX T n σ) {q : Nat} (hq : q < n) (h : 48 ≤ T q) : F_X6_figureAt (nI q) σ = some (nI (T q - 48)) := by
  rw [fg_ok t hq, pk_sub h]
def rhA (n : Nat) : Bool := n != 1 && n != 2 && n != 3 && n != 4 && n != 5
theorem xrh {nh : Nat} (t : TX T n σ) (h1 : σ.1 1 = nI nh) (hnh : nh < 4) (hp : p + 8 < n) (hT : ∀ k, k < 8 → 48 ≤ T (p + 1 + k)) : ∃ σ', F_X3_readHorse (nI p) σ = some σ' ∧ Fq (fun n => n != 1) rhA true σ σ' ∧ σ'.1 1 = nI (nh + 1) ∧ (∀ i, σ'.2.1 1 i = if i = nh then nI (hd T p 0) else σ.2.1 1 i) ∧ (∀ i, σ'.2.1 2 i = if 3 * nh ≤ i ∧ i < 3 * nh + 3 then nI (hd T p (1 + (i - 3 * nh))) else σ.2.1 2 i) ∧ (∀ i, σ'.2.1 3 i = if i = nh then nI (hd T p 4) else σ.2.1 3 i) ∧ (∀ i, σ'.2.1 4 i = if i = nh then nI (hd T p 5) else σ.2.1 4 i) ∧ ∀ i, σ'.2.1 5 i = if i = nh then nI (hd T p 6) else σ.2.1 5 i := by
  have hn := t.1
  unfold F_X3_readHorse
  rw [h1, if_pos (show nI nh < (4 : Int32) from nI_lt (b := 4) hnh (by omega)), show (1 : Int32) = nI 1 from rfl, nI_add, fgv t (by omega) (hT 0 (by omega)), Option.bind_some, put_1 (by omega), Option.bind_some]
  refine lp (fun f (s : Mem) k => F_X3_readHorse_b29 f (nI p) (nI k) s) (fun o => ∃ σ', o = some σ' ∧ Fq (fun n => n != 1) rhA true σ σ' ∧ σ'.1 1 = nI (nh + 1) ∧ (∀ i, σ'.2.1 1 i = if i = nh then nI (hd T p 0) else σ.2.1 1 i) ∧ (∀ i, σ'.2.1 2 i = if 3 * nh ≤ i ∧ i < 3 * nh + 3 then nI (hd T p (1 + (i - 3 * nh))) else σ.2.1 2 i) ∧ (∀ i, σ'.2.1 3 i = if i = nh then nI (hd T p 4) else σ.2.1 3 i) ∧ (∀ i, σ'.2.1 4 i = if i = nh then nI (hd T p 5) else σ.2.1 4 i) ∧ ∀ i, σ'.2.1 5 i = if i = nh then nI (hd T p 6) else σ.2.1 5 i) 3 (fun k s => Fq (fun _ => true) (fun n => n != 1 && n != 2) true σ s ∧ (∀ i, s.2.1 1 i = if i = nh then nI (hd T p 0) else σ.2.1 1 i) ∧ ∀ i, s.2.1 2 i = if 3 * nh ≤ i ∧ i < 3 * nh + k then nI (hd T p (1 + (i - 3 * nh))) else σ.2.1 2 i) ?_ ?_ 3 0 (sA σ 1 nh (nI (T (p + 1) - 48))) 4000 (by omega) (by omega) (by omega) ⟨Fq_sA (Fq_r σ), fun i => by rw [sA_2, if_pos rfl, upd_ap]; rfl, fun i => by rw [if_neg (by omega)]; rfl⟩
  · intro f s ⟨p1, p2, p3⟩
    have t' : TX T n s := TX_fr t p1
    have e1 : s.1 1 = nI nh := by rw [p1.1 1 rfl]; exact h1
    have t2 : ∀ v, TX T n (sA s 3 nh v) := fun v => t'
    have t3 : ∀ v w, TX T n (sA (sA s 3 nh v) 4 nh w) := fun v w => t'
    refine ⟨sI (sA (sA (sA s 3 nh (nI (T (p + 5) - 48))) 4 nh (nI (T (p + 6) - 48))) 5 nh (nI (10 * (T (p + 7) - 48) + (T (p + 8) - 48)))) 1 (nI (nh + 1)), ?_, ?_, rfl, ?_, ?_, ?_, ?_, ?_⟩
    · simp only [F_X3_readHorse_b29]
      rw [if_pos (show (3 : Int32) ≤ nI 3 from Int32.le_refl _), show (5 : Int32) = nI 5 from rfl, show (6 : Int32) = nI 6 from rfl, show (7 : Int32) = nI 7 from rfl, show (8 : Int32) = nI 8 from rfl, show (10 : Int32) = nI 10 from rfl, nI_add p 5, nI_add p 6, nI_add p 7, nI_add p 8, fgv t' (by omega) (hT 4 (by omega)), Option.bind_some, e1, put_3 (by omega), Option.bind_some, fgv (t2 _) (by omega) (hT 5 (by omega)), Option.bind_some, sA_1, e1, put_4 (by omega), Option.bind_some, fgv (t3 _ _) (by omega) (hT 6 (by omega)), Option.bind_some, fgv (t3 _ _) (by omega) (hT 7 (by omega)), Option.bind_some, sA_1, sA_1, e1, pk_mul, nI_add, put_5 (by omega), Option.bind_some, sA_1, sA_1, sA_1, e1, nI_1]
      rfl
    · exact Fq_sI (Fq_sA (Fq_sA (Fq_sA (Fq_w p1 (fun _ _ => rfl) (fun n h => by simp [rhA] at h ⊢; omega) (fun h => h)))))
    · exact p2
    · exact p3
    · intro i
      rw [sI_2, sA_2, if_neg (by decide), sA_2, if_neg (by decide), sA_2, if_pos rfl, upd_ap, p1.2.1 3 rfl]; rfl
    · intro i
      rw [sI_2, sA_2, if_neg (show ¬ (4 = 5) by decide), sA_2, if_pos rfl, upd_ap, sA_2, if_neg (show ¬ (4 = 3) by decide), p1.2.1 4 rfl]; rfl
    · intro i
      rw [sI_2, sA_2, if_pos rfl, upd_ap, sA_2, if_neg (show ¬ (5 = 4) by decide), sA_2, if_neg (show ¬ (5 = 3) by decide), p1.2.1 5 rfl]; rfl
  · intro f s k hk ⟨p1, p2, p3⟩
    have t' : TX T n s := TX_fr t p1
    have e1 : s.1 1 = nI nh := by rw [p1.1 1 rfl]; exact h1
    refine .inr ⟨sA s 2 (3 * nh + k) (nI (T (p + 2 + k) - 48)), ⟨Fq_sA p1, p2, fun i => ?_⟩, ?_⟩
    · rw [sA_2, if_pos rfl, upd_ap]
      by_cases q : i = 3 * nh + k
      · rw [if_pos q, if_pos (by omega), q, show 3 * nh + k - 3 * nh = k by omega]
        unfold hd
        rw [if_neg (by omega), show p + 1 + (1 + k) = p + 2 + k by omega]
      · rw [if_neg q, p3]
        by_cases q2 : 3 * nh ≤ i ∧ i < 3 * nh + k
        · rw [if_pos q2, if_pos (by omega)]
        · rw [if_neg q2, if_neg (by omega)]
    · simp only [F_X3_readHorse_b29]
      rw [if_neg (show ¬ (3 : Int32) ≤ nI k from nI_ge (b := 3) hk (by omega)), show (2 : Int32) = nI 2 from rfl, show (3 : Int32) = nI 3 from rfl, nI_add, nI_add, fgv t' (by omega) (by have := hT (k + 1) (by omega); rw [show p + 1 + (k + 1) = p + 2 + k by omega] at this; exact this), Option.bind_some, e1, pk_mul, nI_add, put_2 (by omega), Option.bind_some, nI_1]
def rrA (n : Nat) : Bool := n != 6 && n != 7
theorem xrr {nr : Nat} (t : TX T n σ) (h1 : σ.1 2 = nI nr) (hnr : nr < 5) (hp : p + 4 < n) (hT : ∀ k, k < 4 → 48 ≤ T (p + 1 + k)) : ∃ σ', F_X3_readRider (nI p) σ = some σ' ∧ Fq (fun n => n != 2) rrA true σ σ' ∧ σ'.1 2 = nI (nr + 1) ∧ (∀ i, σ'.2.1 6 i = if 3 * nr ≤ i ∧ i < 3 * nr + 3 then nI (rd T p (i - 3 * nr)) else σ.2.1 6 i) ∧ ∀ i, σ'.2.1 7 i = if i = nr then nI (rd T p 3) else σ.2.1 7 i := by
  have hn := t.1
  unfold F_X3_readRider
  rw [h1, if_pos (show nI nr < (5 : Int32) from nI_lt (b := 5) hnr (by omega))]
  refine lp (fun f (s : Mem) k => F_X3_readRider_b11 f (nI p) (nI k) s) (fun o => ∃ σ', o = some σ' ∧ Fq (fun n => n != 2) rrA true σ σ' ∧ σ'.1 2 = nI (nr + 1) ∧ (∀ i, σ'.2.1 6 i = if 3 * nr ≤ i ∧ i < 3 * nr + 3 then nI (rd T p (i - 3 * nr)) else σ.2.1 6 i) ∧ ∀ i, σ'.2.1 7 i = if i = nr then nI (rd T p 3) else σ.2.1 7 i) 3 (fun k s => Fq (fun _ => true) (fun n => n != 6) true σ s ∧ ∀ i, s.2.1 6 i = if 3 * nr ≤ i ∧ i < 3 * nr + k then nI (rd T p (i - 3 * nr)) else σ.2.1 6 i) ?_ ?_ 3 0 σ 4000 (by omega) (by omega) (by omega) ⟨Fq_r σ, fun i => by rw [if_neg (by omega)]⟩
  · intro f s ⟨p1, p3⟩
    have t' : TX T n s := TX_fr t p1
    have e1 : s.1 2 = nI nr := by rw [p1.1 2 rfl]; exact h1
    refine ⟨sI (sA s 7 nr (nI (T (p + 4) - 48))) 2 (nI (nr + 1)), ?_, ?_, rfl, p3, ?_⟩
    · simp only [F_X3_readRider_b11]
      rw [if_pos (show (3 : Int32) ≤ nI 3 from Int32.le_refl _), show (4 : Int32) = nI 4 from rfl, nI_add, fgv t' (by omega) (hT 3 (by omega)), Option.bind_some, e1, put_7 (by omega), Option.bind_some, sA_1, e1, nI_1]
      rfl
    · exact Fq_sI (Fq_sA (Fq_w p1 (fun _ _ => rfl) (fun n h => by simp [rrA] at h ⊢; omega) (fun h => h)))
    · intro i
      rw [sI_2, sA_2, if_pos rfl, upd_ap, p1.2.1 7 rfl]; rfl
  · intro f s k hk ⟨p1, p3⟩
    have t' : TX T n s := TX_fr t p1
    have e1 : s.1 2 = nI nr := by rw [p1.1 2 rfl]; exact h1
    refine .inr ⟨sA s 6 (3 * nr + k) (nI (T (p + 1 + k) - 48)), ⟨Fq_sA p1, fun i => ?_⟩, ?_⟩
    · rw [sA_2, if_pos rfl, upd_ap]
      by_cases q : i = 3 * nr + k
      · rw [if_pos q, if_pos (by omega), q, show 3 * nr + k - 3 * nr = k by omega]; rfl
      · rw [if_neg q, p3]
        by_cases q2 : 3 * nr ≤ i ∧ i < 3 * nr + k
        · rw [if_pos q2, if_pos (by omega)]
        · rw [if_neg q2, if_neg (by omega)]
    · simp only [F_X3_readRider_b11]
      rw [if_neg (show ¬ (3 : Int32) ≤ nI k from nI_ge (b := 3) hk (by omega)), show (1 : Int32) = nI 1 from rfl, show (3 : Int32) = nI 3 from rfl, nI_add, nI_add, fgv t' (by omega) (hT k (by omega)), Option.bind_some, e1, pk_mul, nI_add, put_6 (by omega), Option.bind_some, nI_add]
-- what is read, as data
def gN (T : Nat → Nat) (nh nr : Nat) (ph pr : Nat → Nat) : FD := (nh, nr, fun k i => if k < 7 then hd T (ph i) k else rd T (pr i) (k - 7))
def CF0 (g : FD) (σ : Mem) : Prop := σ.1 1 = nI g.1 ∧ σ.1 2 = nI g.2.1 ∧ (∀ h, h < g.1 → σ.2.1 1 h = nI (g.2.2 0 h) ∧ (∀ t, t < 3 → σ.2.1 2 (3 * h + t) = nI (g.2.2 (1 + t) h)) ∧ σ.2.1 3 h = nI (g.2.2 4 h) ∧ σ.2.1 4 h = nI (g.2.2 5 h) ∧ σ.2.1 5 h = nI (g.2.2 6 h)) ∧ ∀ r, r < g.2.1 → (∀ t, t < 3 → σ.2.1 6 (3 * r + t) = nI (g.2.2 (7 + t) r)) ∧ σ.2.1 7 r = nI (g.2.2 10 r)
def RF (g : FD) (σ : Mem) : Prop := σ.1 25 = nI g.1 ∧ σ.1 26 = nI g.2.1 ∧ (∀ h k, h < g.1 → k < 7 → σ.2.1 56 (7 * h + k) = nI (g.2.2 k h)) ∧ ∀ r k, r < g.2.1 → k < 4 → σ.2.1 57 (4 * r + k) = nI (g.2.2 (7 + k) r)
theorem okh {k : Nat} (h : bad (hOk T n p) 8 = 9) (hk : k < 8) : p + 1 + k < n ∧ 48 + hlo k ≤ T (p + 1 + k) ∧ T (p + 1 + k) ≤ 48 + hhi T p k := by
  rcases lf_c (fun k => !hOk T n p k) 8 (by omega) with ⟨_, i2⟩ | ⟨i1, _, _⟩
  · have := i2 k hk
    rw [Bool.not_eq_false'] at this
    exact okF_t.mp this
  · have h2 : lf (fun k => !hOk T n p k) 8 = 9 := h
    omega
theorem okr {k : Nat} (h : bad (rOk T n p) 4 = 9) (hk : k < 4) : p + 1 + k < n ∧ 48 + 0 ≤ T (p + 1 + k) ∧ T (p + 1 + k) ≤ 48 + rm k := by
  rcases lf_c (fun k => !rOk T n p k) 4 (by omega) with ⟨_, i2⟩ | ⟨i1, _, _⟩
  · have := i2 k hk
    rw [Bool.not_eq_false'] at this
    exact okF_t.mp this
  · have h2 : lf (fun k => !rOk T n p k) 4 = 9 := h
    omega
theorem gN_h {nh nr : Nat} {ph pr : Nat → Nat} (hg : okG (gN T nh nr ph pr)) (hnh : nh < 4) (h : bad (hOk T n p) 8 = 9) : okG (gN T (nh + 1) nr (upN ph nh p) pr) := by
  refine ⟨by show nh + 1 ≤ 4; omega, hg.2.1, fun i hi => ?_, hg.2.2.2⟩
  have hi2 : i < nh + 1 := hi
  by_cases e : i = nh
  · have e2 : ∀ k, k < 7 → (gN T (nh + 1) nr (upN ph nh p) pr).2.2 k i = hd T p k := fun k hk => by
      show (if k < 7 then hd T (upN ph nh p i) k else _) = _
      rw [if_pos hk, e, up_e]
    rw [e2 0 (by omega), e2 1 (by omega), e2 2 (by omega), e2 3 (by omega), e2 4 (by omega), e2 5 (by omega), e2 6 (by omega)]
    have k0 := okh h (k := 0) (by omega)
    have k1 := okh h (k := 1) (by omega)
    have k2 := okh h (k := 2) (by omega)
    have k3 := okh h (k := 3) (by omega)
    have k4 := okh h (k := 4) (by omega)
    have k5 := okh h (k := 5) (by omega)
    have k6 := okh h (k := 6) (by omega)
    have k7 := okh h (k := 7) (by omega)
    have v0 : hhi T p 0 = 3 := rfl
    have v1 : hhi T p 1 = 3 := rfl
    have v2 : hhi T p 2 = 3 := rfl
    have v3 : hhi T p 3 = 3 := rfl
    have v4 : hhi T p 4 = 9 := rfl
    have v5 : hhi T p 5 = 9 := rfl
    have v6 : hhi T p 6 = 8 := rfl
    have v7 : hhi T p 7 = if T (p + 7) = 56 then 1 else 9 := by
      unfold hhi
      by_cases z : T (p + 7) = 56
      · rw [if_pos ⟨rfl, z⟩, if_pos z]
      · rw [if_neg (fun q => z q.2), if_neg z]; rfl
    have w0 : hlo 0 = 1 := rfl
    unfold hd
    rw [if_neg (by omega), if_neg (by omega), if_neg (by omega), if_neg (by omega), if_neg (by omega), if_neg (by omega), if_pos rfl]
    rw [v0, w0] at k0
    rw [v1] at k1
    rw [v2] at k2
    rw [v3] at k3
    rw [v4] at k4
    rw [v5] at k5
    rw [v6, show p + 1 + 6 = p + 7 by omega] at k6
    rw [v7, show p + 1 + 7 = p + 8 by omega] at k7
    refine ⟨by omega, by omega, by omega, by omega, by omega, by omega, by omega, ?_⟩
    by_cases z : T (p + 7) = 56
    · rw [if_pos z] at k7; omega
    · rw [if_neg z] at k7; omega
  · have e2 : ∀ k, (gN T (nh + 1) nr (upN ph nh p) pr).2.2 k i = (gN T nh nr ph pr).2.2 k i := fun k => by
      show (if k < 7 then hd T (upN ph nh p i) k else _) = (if k < 7 then hd T (ph i) k else _)
      rw [up_n e]
    rw [e2 0, e2 1, e2 2, e2 3, e2 4, e2 5, e2 6]
    exact hg.2.2.1 i (show i < nh by omega)
theorem gN_r {nh nr : Nat} {ph pr : Nat → Nat} (hg : okG (gN T nh nr ph pr)) (hnr : nr < 5) (h : bad (rOk T n p) 4 = 9) : okG (gN T nh (nr + 1) ph (upN pr nr p)) := by
  refine ⟨hg.1, by show nr + 1 ≤ 5; omega, hg.2.2.1, fun i hi => ?_⟩
  have hi2 : i < nr + 1 := hi
  by_cases e : i = nr
  · have e2 : ∀ k, (gN T nh (nr + 1) ph (upN pr nr p)).2.2 (7 + k) i = rd T p k := fun k => by
      show (if 7 + k < 7 then _ else rd T (upN pr nr p i) (7 + k - 7)) = _
      rw [if_neg (by omega), e, up_e, Nat.add_sub_cancel_left]
    rw [show (7 : Nat) = 7 + 0 from rfl, show (8 : Nat) = 7 + 1 from rfl, show (9 : Nat) = 7 + 2 from rfl, show (10 : Nat) = 7 + 3 from rfl, e2 0, e2 1, e2 2, e2 3]
    have k0 := okr h (k := 0) (by omega)
    have k1 := okr h (k := 1) (by omega)
    have k2 := okr h (k := 2) (by omega)
    have k3 := okr h (k := 3) (by omega)
    have v0 : rm 0 = 9 := rfl
    have v1 : rm 1 = 9 := rfl
    have v2 : rm 2 = 9 := rfl
    have v3 : rm 3 = 3 := rfl
    unfold rd
    refine ⟨?_, ?_, ?_, ?_⟩ <;> omega
  · have e2 : ∀ k, (gN T nh (nr + 1) ph (upN pr nr p)).2.2 k i = (gN T nh nr ph pr).2.2 k i := fun k => by
      show (if k < 7 then _ else rd T (upN pr nr p i) _) = (if k < 7 then _ else rd T (pr i) _)
      rw [up_n e]
    rw [e2 7, e2 8, e2 9, e2 10]
    exact hg.2.2.2 i (show i < nr by omega)
