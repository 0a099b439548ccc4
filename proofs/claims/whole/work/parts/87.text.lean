-- the text: a part
variable {g : FD} {P : PD} {σ σ' : Mem} {T : Nat → Nat} {n p : Nat}
def TX (T : Nat → Nat) (n : Nat) (σ : Mem) : Prop := n ≤ 64 ∧ σ.1 0 = nI n ∧ ∀ i, i < n → σ.2.1 0 i = nI (T i) ∧ T i < 256
def TM (T : Nat → Nat) (n : Nat) (σ : Mem) : Prop := n ≤ 64 ∧ σ.1 21 = nI n ∧ ∀ i, i < n → σ.2.1 53 i = nI (T i) ∧ T i < 256
theorem RT_u (h : RT σ) : ∃ n T, TX T n σ ∧ TM T n σ := by
  obtain ⟨n, h1, h2, h3, h4⟩ := h
  have q : ∀ i, i < n → σ.2.1 53 i = nI (if q : i < n then (h4 i q).2.choose else 0) ∧ (if q : i < n then (h4 i q).2.choose else 0) < 256 := fun i hi => by
    rw [dif_pos hi]
    exact ⟨(h4 i hi).2.choose_spec.2, (h4 i hi).2.choose_spec.1⟩
  exact ⟨n, fun i => if q : i < n then (h4 i q).2.choose else 0, ⟨h1, h2, fun i hi => ⟨by rw [(h4 i hi).1]; exact (q i hi).1, (q i hi).2⟩⟩, ⟨h1, h3, q⟩⟩
theorem TX_fr {qI qA : Nat → Bool} {qJ : Bool} (h : TX T n σ) (f : Fq qI qA qJ σ σ') (q : (qI 0 && qA 0) = true := by rfl) : TX T n σ' := by
  rw [Bool.and_eq_true] at q
  unfold TX; rw [f.1 0 q.1, f.2.1 0 q.2]; exact h
theorem TM_fr {qI qA : Nat → Bool} {qJ : Bool} (h : TM T n σ) (f : Fq qI qA qJ σ σ') (q : (qI 21 && qA 53) = true := by rfl) : TM T n σ' := by
  rw [Bool.and_eq_true] at q
  unfold TM; rw [f.1 21 q.1, f.2.1 53 q.2]; exact h
theorem s_lt1 {a b c : Nat} (ha : a < 2 ^ 30) (hb : b < 2 ^ 30) (hc : c < 2 ^ 30) : (nI a - nI b < nI c) = (a < b + c) := by
  apply propext; rw [Int32.lt_iff_toInt_lt, s_toInt ha hb, nI_toInt (by omega)]; omega
theorem s_gt1 {a b c : Nat} (ha : a < 2 ^ 30) (hb : b < 2 ^ 30) (hc : c < 2 ^ 30) : (nI c < nI a - nI b) = (b + c < a) := by
  apply propext; rw [Int32.lt_iff_toInt_lt, s_toInt ha hb, nI_toInt (by omega)]; omega
theorem s_le1 {a b c : Nat} (ha : a < 2 ^ 30) (hb : b < 2 ^ 30) (hc : c < 2 ^ 30) : (nI a - nI b ≤ nI c) = (a ≤ b + c) := by
  apply propext; rw [Int32.le_iff_toInt_le, s_toInt ha hb, nI_toInt (by omega)]; omega
theorem s_eq1 {a b c : Nat} (ha : a < 2 ^ 30) (hb : b < 2 ^ 30) (hc : c < 2 ^ 30) : (nI a - nI b = nI c) = (a = b + c) := by
  apply propext; rw [← Int32.toInt_inj, s_toInt ha hb, nI_toInt (by omega)]; omega
theorem dec1 {a : Nat} (h : 1 ≤ a) : nI a + (-1) = nI (a - 1) := by
  rw [← pk_sub h, Int32.sub_eq_add_neg]; rfl
theorem i48 : (48 : Int32) = nI 48 := rfl
theorem by_ok (t : TX T n σ) {q : Nat} (hq : q < n) : F_X6_byteAt (nI q) σ = some (nI (T q)) := by
  have h1 := t.1
  unfold F_X6_byteAt
  rw [t.2.1, if_neg (nI_ge hq (by omega)), at_0 (by omega), (t.2.2 q hq).1]; rfl
theorem fg_ok (t : TX T n σ) {q : Nat} (hq : q < n) : F_X6_figureAt (nI q) σ = some (nI (T q) - nI 48) := by
  unfold F_X6_figureAt
  rw [by_ok t hq]; rfl
theorem ih_ok (t : TX T n σ) {q : Nat} (hq : q < n) : F_X6_isHorse (nI q) σ = some (bI (decide (T q = 72))) := by
  have h2 := (t.2.2 q hq).2
  unfold F_X6_isHorse
  rw [by_ok t hq, Option.bind_some, show (72 : Int32) = nI 72 from rfl, if_eq (by omega) (by omega)]
  by_cases e : T q = 72
  · rw [if_pos e, decide_eq_true e]; rfl
  · rw [if_neg e, decide_eq_false e]; rfl
theorem ps_h (t : TX T n σ) (hp : p < n) (h : T p = 72) : F_X6_partSize (nI p) σ = some (nI 9) := by
  unfold F_X6_partSize
  rw [ih_ok t hp, Option.bind_some, decide_eq_true h, if_neg (by decide)]; rfl
theorem ps_r (t : TX T n σ) (hp : p < n) (h : T p ≠ 72) : F_X6_partSize (nI p) σ = some (nI 5) := by
  unfold F_X6_partSize
  rw [ih_ok t hp, Option.bind_some, decide_eq_false h, if_pos (show bI false = 0 from rfl)]; rfl
def hm (k : Nat) : Nat := if k < 4 then 3 else if k = 6 then 8 else 9
def hhi (T : Nat → Nat) (p k : Nat) : Nat := if k = 7 ∧ T (p + 7) = 56 then 1 else hm k
def hlo (k : Nat) : Nat := if k = 0 then 1 else 0
def rm (k : Nat) : Nat := if k < 3 then 9 else 3
theorem hm_b (k : Nat) : hm k ≤ 9 := by unfold hm; split; omega; split <;> omega
theorem hhi_b (T : Nat → Nat) (p k : Nat) : hhi T p k ≤ 9 := by unfold hhi; split; omega; exact hm_b k
theorem hlo_b (k : Nat) : hlo k ≤ 1 := by unfold hlo; split <;> omega
theorem rm_b (k : Nat) : rm k ≤ 9 := by unfold rm; split <;> omega
theorem az_0 : ∀ k, k < 8 → F_X10_atZ 0 (nI (k + 1)) mem0 = some (nI (hm k)) := by unfold F_X10_atZ; decide +kernel
theorem az_1 : ∀ k, k < 4 → F_X10_atZ 1 (nI (k + 1)) mem0 = some (nI (rm k)) := by unfold F_X10_atZ; decide +kernel
theorem az0 {k : Nat} (hk : k < 8) : F_X10_atZ 0 (nI (k + 1)) σ = some (nI (hm k)) := az_0 k hk
theorem az1 {k : Nat} (hk : k < 4) : F_X10_atZ 1 (nI (k + 1)) σ = some (nI (rm k)) := az_1 k hk
theorem lw_h (t : TX T n σ) (hp : p < n) (h : T p = 72) {k : Nat} (hk : k < 8) : F_X6_leastFigure (nI p) (nI (k + 1)) σ = some (nI (hlo k)) := by
  unfold F_X6_leastFigure hlo
  rw [ih_ok t hp, Option.bind_some, decide_eq_true h, if_neg (by decide), show (1 : Int32) = nI 1 from rfl, if_eq (by omega) (by omega)]
  by_cases e : k = 0
  · rw [if_pos e, if_pos (by omega)]
  · rw [if_neg e, if_neg (by omega)]; rfl
theorem lw_r (t : TX T n σ) (hp : p < n) (h : T p ≠ 72) (k : Nat) : F_X6_leastFigure (nI p) (nI (k + 1)) σ = some (nI 0) := by
  unfold F_X6_leastFigure
  rw [ih_ok t hp, Option.bind_some, decide_eq_false h, if_pos (show bI false = 0 from rfl)]; rfl
theorem mf_h' (t : TX T n σ) (hp : p < n) (h : T p = 72) {k : Nat} (hk : k < 8) (hn : p + 1 + k < n) : F_X6_mostFigure (nI p) (nI (k + 1)) σ = some (nI (hhi T p k)) := by
  unfold F_X6_mostFigure hhi
  rw [ih_ok t hp, Option.bind_some, decide_eq_true h, if_neg (by decide), az0 hk, Option.bind_some, show (8 : Int32) = nI 8 from rfl, if_eq (by omega) (by omega)]
  by_cases e : k = 7
  · subst e
    have h2 := (t.2.2 (p + 7) (by omega)).2
    rw [if_pos rfl, nI_add, show p + (7 + 1) = (p + 7) + 1 by omega, nI_pred, fg_ok t (by omega), Option.bind_some]
    by_cases q : T (p + 7) = 56
    · rw [if_pos (by rw [s_eq1 (by omega) (by omega) (by omega)]; omega), if_neg (by decide), if_pos ⟨rfl, q⟩]; rfl
    · rw [if_neg (by rw [s_eq1 (by omega) (by omega) (by omega)]; omega), if_pos rfl, if_neg (fun z => q z.2)]
  · rw [if_neg (by omega), if_pos rfl, if_neg (fun z => e z.1)]
theorem mf_r' (t : TX T n σ) (hp : p < n) (h : T p ≠ 72) {k : Nat} (hk : k < 4) : F_X6_mostFigure (nI p) (nI (k + 1)) σ = some (nI (rm k)) := by
  unfold F_X6_mostFigure
  rw [ih_ok t hp, Option.bind_some, decide_eq_false h, if_pos (show bI false = 0 from rfl), az1 hk]; rfl
def okF (T : Nat → Nat) (n p lo hi k : Nat) : Bool := decide (p + 1 + k < n) && (decide (48 + lo ≤ T (p + 1 + k)) && decide (T (p + 1 + k) ≤ 48 + hi))
def hOk (T : Nat → Nat) (n p k : Nat) : Bool := okF T n p (hlo k) (hhi T p k) k
def rOk (T : Nat → Nat) (n p k : Nat) : Bool := okF T n p 0 (rm k) k
theorem okF_t {lo hi k : Nat} : okF T n p lo hi k = true ↔ p + 1 + k < n ∧ 48 + lo ≤ T (p + 1 + k) ∧ T (p + 1 + k) ≤ 48 + hi := by
  unfold okF; rw [Bool.and_eq_true, Bool.and_eq_true, decide_eq_true_iff, decide_eq_true_iff, decide_eq_true_iff]
def bad (ok : Nat → Bool) (S : Nat) : Nat := lf (fun k => !ok k) S
theorem fp_gen {S : Nat} {ok : Nat → Bool} {lo hi : Nat → Nat} (t : TX T n σ) (hp : p < n) (hS : S ≤ 8) (h1 : ∀ k, k < S → F_X6_leastFigure (nI p) (nI (k + 1)) σ = some (nI (lo k))) (h2 : ∀ k, k < S → p + 1 + k < n → F_X6_mostFigure (nI p) (nI (k + 1)) σ = some (nI (hi k))) (hlb : ∀ k, lo k ≤ 1) (hhb : ∀ k, hi k ≤ 9) (hok : ∀ k, ok k = okF T n p (lo k) (hi k) k) : F_X6_firstFaultOfPart_b8 σ 4000 (nI p) (nI (S + 1)) (nI (0 + 1)) = some (if bad ok S = 9 then -9 else nI (p + 1 + bad ok S)) := by
  have hn := t.1
  refine lp (fun f (_ : Unit) k => F_X6_firstFaultOfPart_b8 σ f (nI p) (nI (S + 1)) (nI (k + 1))) (fun o => o = some (if bad ok S = 9 then -9 else nI (p + 1 + bad ok S))) S (fun k _ => ∀ j, j < k → ok j = true) ?_ ?_ S 0 () 4000 (by omega) (by omega) (by omega) (fun j hj => absurd hj (Nat.not_lt_zero _))
  · intro f _ hp2
    simp only [F_X6_firstFaultOfPart_b8]
    have e : bad ok S = 9 := lf_n S (fun j hj => by rw [hp2 j hj]; rfl)
    rw [if_pos (nI_le (Nat.le_refl _) (by omega)), if_pos e]
  · intro f _ k hk hp2
    have hl := hlb k
    have hh := hhb k
    have done : ok k = false → bad ok S = k := fun e => lf_s (fun j hj => by rw [hp2 j hj]; rfl) (by rw [e]; rfl) (by omega) S hk
    simp only [F_X6_firstFaultOfPart_b8]
    rw [if_neg (nI_ge (by omega) (by omega)), nI_add, t.2.1, if_lt (by omega) (by omega), show p + (k + 1) = p + 1 + k by omega]
    by_cases q : p + 1 + k < n
    · have h3 := (t.2.2 _ q).2
      rw [if_pos q, fg_ok t q, Option.bind_some, h1 k hk, Option.bind_some, h2 k hk q, Option.bind_some, nI_1]
      by_cases q1 : T (p + 1 + k) < 48 + lo k
      · have e : ok k = false := by
          rw [hok, ← Bool.not_eq_true, okF_t]; omega
        have hb := done e
        exact .inl (by rw [if_pos (by rw [s_lt1 (by omega) (by omega) (by omega)]; exact q1), hb, if_neg (by omega)])
      · rw [if_neg (by rw [s_lt1 (by omega) (by omega) (by omega)]; exact q1)]
        by_cases q2 : T (p + 1 + k) ≤ 48 + hi k
        · refine .inr ⟨(), fun j hj => ?_, by rw [if_pos (by rw [s_le1 (by omega) (by omega) (by omega)]; exact q2)]⟩
          by_cases z : j = k
          · rw [z, hok, okF_t]; omega
          · exact hp2 j (by omega)
        · have e : ok k = false := by
            rw [hok, ← Bool.not_eq_true, okF_t]; omega
          have hb := done e
          exact .inl (by rw [if_neg (by rw [s_le1 (by omega) (by omega) (by omega)]; exact q2), hb, if_neg (by omega)])
    · have e : ok k = false := by
        rw [hok, ← Bool.not_eq_true, okF_t]; omega
      have hb := done e
      have hnk : n = p + 1 + k := by
        by_cases z : k = 0
        · omega
        · have h5 := hp2 (k - 1) (by omega)
          rw [hok, okF_t] at h5
          omega
      exact .inl (by rw [if_neg q, hb, if_neg (by omega), hnk])
theorem fp_h (t : TX T n σ) (hp : p < n) (h : T p = 72) : F_X6_firstFaultOfPart (nI p) σ = some (if bad (hOk T n p) 8 = 9 then -9 else nI (p + 1 + bad (hOk T n p) 8)) := by
  unfold F_X6_firstFaultOfPart
  rw [ps_h t hp h, Option.bind_some]
  exact fp_gen (S := 8) t hp (Nat.le_refl _) (fun k hk => lw_h t hp h hk) (fun k hk hn => mf_h' t hp h hk hn) hlo_b (hhi_b T p) (fun k => rfl)
theorem fp_r (t : TX T n σ) (hp : p < n) (h : T p ≠ 72) : F_X6_firstFaultOfPart (nI p) σ = some (if bad (rOk T n p) 4 = 9 then -9 else nI (p + 1 + bad (rOk T n p) 4)) := by
  unfold F_X6_firstFaultOfPart
  rw [ps_r t hp h, Option.bind_some]
  exact fp_gen (S := 4) t hp (by omega) (lo := fun _ => 0) (hi := rm) (fun k hk => lw_r t hp h k) (fun k hk hn => mf_r' t hp h hk) (fun _ => by omega) rm_b (fun k => rfl)
-- the reference
theorem fgm {lo hi q : Nat} (t : TM T n σ) (h22 : σ.1 22 = nI (p + 1 + q)) (hq : p + 1 + q ≤ n) (hl : lo ≤ 1) (hh : hi ≤ 9) : F_X11_figure (nI lo) (nI hi) σ = if okF T n p lo hi q = true then some (nI (T (p + 1 + q) - 48), sI σ 22 (nI (p + 1 + q + 1))) else some (-9, σ) := by
  have hn := t.1
  unfold F_X11_figure
  rw [h22, t.2.1, if_eq (by omega) (by omega)]
  by_cases e : p + 1 + q = n
  · rw [if_pos e, if_neg (by rw [okF_t]; omega)]
  · have hlt : p + 1 + q < n := by omega
    have h3 := (t.2.2 _ hlt).2
    rw [if_neg e, rd_53 (by omega), (t.2.2 _ hlt).1, Option.bind_some, in_ok, Option.bind_some, i48]
    by_cases q1 : 48 + lo ≤ T (p + 1 + q) ∧ T (p + 1 + q) ≤ 48 + hi
    · rw [if_neg (show ¬ (nI (T (p + 1 + q)) - nI 48 < nI lo ∨ nI hi < nI (T (p + 1 + q)) - nI 48) by rw [s_lt1 (by omega) (by omega) (by omega), s_gt1 (by omega) (by omega) (by omega)]; omega), if_neg (by decide), nI_1, show stI σ 22 (nI (p + 1 + q + 1)) = some (sI σ 22 (nI (p + 1 + q + 1))) from rfl, Option.bind_some, sI_1, if_pos rfl, nI_pred, rd_53 (by omega), Option.bind_some, if_pos (okF_t.mpr ⟨hlt, q1⟩), sI_2, (t.2.2 _ hlt).1, pk_sub (by omega)]
    · rw [if_pos (show (nI (T (p + 1 + q)) - nI 48 < nI lo ∨ nI hi < nI (T (p + 1 + q)) - nI 48) by rw [s_lt1 (by omega) (by omega) (by omega), s_gt1 (by omega) (by omega) (by omega)]; omega), if_pos rfl, if_neg (by rw [okF_t]; omega)]
def hd (T : Nat → Nat) (p k : Nat) : Nat := if k = 6 then 10 * (T (p + 7) - 48) + (T (p + 8) - 48) else T (p + 1 + k) - 48
def rd (T : Nat → Nat) (p k : Nat) : Nat := T (p + 1 + k) - 48
def tn (T : Nat → Nat) (p k : Nat) : Int32 := if k = 7 then nI (T (p + 7) - 48) else if k = 8 then nI (T (p + 8) - 48) else 0
theorem b12_s {f k : Nat} {x1 : Int32} {s : Mem} (hk : k < 8) (h : k = 7 → 48 ≤ T (p + 7) ∧ T (p + 7) < 256) : F_X11_readHorse_b12 (f + 1) x1 (tn T p k) (nI k) s = Option.bind (F_X11_figure (nI (hlo k)) (nI (hhi T p k)) s) fun q => F_X11_readHorse_b94 (F_X11_readHorse_b12 f) x1 (tn T p k) (nI k) q.1 q.2 := by
  simp only [F_X11_readHorse_b12]
  rw [if_neg (show ¬ (8 : Int32) ≤ nI k from nI_ge (b := 8) hk (by omega))]
  unfold hhi
  rcases k with _|_|_|_|_|_|_|_|k
  · rw [if_pos (by decide), if_neg (by omega)]; rfl
  · rw [if_neg (by decide), if_neg (by decide), if_neg (by omega)]; rfl
  · rw [if_neg (by decide), if_neg (by decide), if_neg (by omega)]; rfl
  · rw [if_neg (by decide), if_neg (by decide), if_neg (by omega)]; rfl
  · rw [if_neg (by decide), if_pos (by decide), if_neg (by decide), if_neg (by omega)]; rfl
  · rw [if_neg (by decide), if_pos (by decide), if_neg (by decide), if_neg (by omega)]; rfl
  · rw [if_neg (by decide), if_pos (by decide), if_pos (by decide), if_pos (by decide), if_neg (by omega)]; rfl
  · have h2 := h rfl
    rw [if_neg (by decide), if_pos (by decide), if_pos (by decide), if_neg (by decide)]
    have e : tn T p (0 + 1 + 1 + 1 + 1 + 1 + 1 + 1) = nI (T (p + 7) - 48) := rfl
    rw [e, show (8 : Int32) = nI 8 from rfl, if_eq (by omega) (by omega)]
    by_cases z : T (p + 7) = 56
    · rw [if_pos (by omega), if_pos ⟨rfl, z⟩]; rfl
    · rw [if_neg (by omega), if_neg (fun y => z y.2)]; rfl
  · omega
def sq1 (n : Nat) : Bool := n != 22 && n != 25 && n != 26
def sqA (n : Nat) : Bool := n != 56 && n != 57
theorem mrh {nh : Nat} (t : TM T n σ) (hp : p < n) (h22 : σ.1 22 = nI (p + 1)) (h25 : σ.1 25 = nI nh) (hnh : nh < 4) : ∃ σ', Fq sq1 sqA true σ σ' ∧ σ'.1 26 = σ.1 26 ∧ σ'.2.1 57 = σ.2.1 57 ∧ ((bad (hOk T n p) 8 = 9 ∧ F_X11_readHorse σ = some (1, σ') ∧ σ'.1 22 = nI (p + 9) ∧ σ'.1 25 = nI (nh + 1) ∧ (∀ k, k < 7 → σ'.2.1 56 (7 * nh + k) = nI (hd T p k)) ∧ ∀ i, i < 7 * nh → σ'.2.1 56 i = σ.2.1 56 i) ∨ (bad (hOk T n p) 8 ≠ 9 ∧ F_X11_readHorse σ = some (0, σ') ∧ σ'.1 22 = nI (p + 1 + bad (hOk T n p) 8))) := by
  have hn := t.1
  unfold F_X11_readHorse
  rw [h25, show (7 : Int32) = nI 7 from rfl, pk_mul]
  refine lp (fun f (s : Mem) k => F_X11_readHorse_b12 f (nI (7 * nh)) (tn T p k) (nI k) s) (fun o => ∃ σ', Fq sq1 sqA true σ σ' ∧ σ'.1 26 = σ.1 26 ∧ σ'.2.1 57 = σ.2.1 57 ∧ ((bad (hOk T n p) 8 = 9 ∧ o = some (1, σ') ∧ σ'.1 22 = nI (p + 9) ∧ σ'.1 25 = nI (nh + 1) ∧ (∀ k, k < 7 → σ'.2.1 56 (7 * nh + k) = nI (hd T p k)) ∧ ∀ i, i < 7 * nh → σ'.2.1 56 i = σ.2.1 56 i) ∨ (bad (hOk T n p) 8 ≠ 9 ∧ o = some (0, σ') ∧ σ'.1 22 = nI (p + 1 + bad (hOk T n p) 8)))) 8 (fun k s => (∀ j, j < k → hOk T n p j = true) ∧ Fq (fun n => n != 22) (fun n => n != 56) true σ s ∧ s.1 22 = nI (p + 1 + k) ∧ (∀ j, j < 6 → j < k → s.2.1 56 (7 * nh + j) = nI (hd T p j)) ∧ (k = 8 → s.2.1 56 (7 * nh + 6) = nI (hd T p 6)) ∧ ∀ i, i < 7 * nh → s.2.1 56 i = σ.2.1 56 i) ?_ ?_ 8 0 σ 4000 (by omega) (by omega) (by omega) ⟨fun j hj => absurd hj (Nat.not_lt_zero _), Fq_r σ, h22, fun j _ hj => absurd hj (Nat.not_lt_zero _), fun h => absurd h (by omega), fun i _ => rfl⟩
  · intro f s ⟨p1, p2, p3, p4, p5, p6⟩
    refine ⟨sI s 25 (nI (nh + 1)), Fq_sI (Fq_w p2 (fun n h => by simp [sq1] at h ⊢; exact h.1.1) (fun n h => by simp [sqA] at h ⊢; exact h.1) (fun h => h)), p2.1 26 rfl, p2.2.1 57 rfl, .inl ⟨lf_n 8 (fun j hj => by rw [p1 j hj]; rfl), ?_, p3, rfl, fun k hk => ?_, p6⟩⟩
    · simp only [F_X11_readHorse_b12]
      rw [if_pos (show (8 : Int32) ≤ nI 8 from Int32.le_refl _), p2.1 25 rfl, h25, nI_1]; rfl
    · by_cases e : k = 6
      · rw [e]; exact p5 rfl
      · exact p4 k (by omega) (by omega)
  · intro f s k hk ⟨p1, p2, p3, p4, p5, p6⟩
    have t' := TM_fr t p2
    have hle : p + 1 + k ≤ n := by
      by_cases z : k = 0
      · omega
      · have h5 := p1 (k - 1) (by omega)
        unfold hOk at h5
        rw [okF_t] at h5; omega
    have h7 : k = 7 → 48 ≤ T (p + 7) ∧ T (p + 7) < 256 := fun z => by
      have h5 := p1 6 (by omega)
      unfold hOk at h5
      rw [okF_t] at h5
      exact ⟨Nat.le_trans (Nat.le_add_right _ _) h5.2.1, (t.2.2 (p + 7) (by omega)).2⟩
    have e0 := b12_s (f := f) (x1 := nI (7 * nh)) (s := s) hk h7
    rw [fgm t' p3 hle (hlo_b k) (hhi_b T p k)] at e0
    by_cases q : hOk T n p k = true
    · have q0 : okF T n p (hlo k) (hhi T p k) k = true := q
      rw [if_pos q0, Option.bind_some] at e0
      have q1 := okF_t.mp q0
      have hT := (t.2.2 _ q1.1).2
      have hprev : ∀ j, j < k + 1 → hOk T n p j = true := fun j hj => by
        by_cases z : j = k
        · rw [z]; exact q
        · exact p1 j (by omega)
      unfold F_X11_readHorse_b94 at e0
      rw [if_neg (by rw [nI_n9 (by omega)]; exact id), show (6 : Int32) = nI 6 from rfl, if_le (by omega) (by omega)] at e0
      by_cases z : 6 ≤ k
      · rw [if_pos z, nI_add, wr_56 (by omega), Option.bind_some, nI_1] at e0
        have e1 : nI (T (p + 1 + k) - 48) = tn T p (k + 1) := by
          unfold tn
          by_cases z1 : k = 6
          · rw [z1, if_pos rfl]
          · have : k = 7 := by omega
            rw [this, if_neg (by omega), if_pos rfl]
        refine .inr ⟨_, ⟨hprev, Fq_sA (n := 56) (i := 7 * nh + 6) (v := (10 : Int32) * tn T p k + nI (T (p + 1 + k) - 48)) (Fq_sI (n := 22) (v := nI (p + 1 + k + 1)) p2), ?_, ?_, ?_, ?_⟩, ?_⟩
        · rfl
        · intro j h1 h2
          rw [sA_2, if_pos rfl, upd_ap, if_neg (by omega)]
          exact p4 j h1 (by omega)
        · intro h1
          have z2 : k = 7 := by omega
          rw [sA_2, if_pos rfl, upd_ap, if_pos rfl, z2]
          unfold tn hd
          rw [if_pos rfl, if_pos rfl, show (10 : Int32) = nI 10 from rfl, pk_mul, nI_add]
        · intro i hi
          rw [sA_2, if_pos rfl, upd_ap, if_neg (by omega)]
          exact p6 i hi
        · show F_X11_readHorse_b12 (f + 1) (nI (7 * nh)) (tn T p k) (nI k) s = _
          rw [e0, e1]
      · rw [if_neg z, nI_add, wr_56 (by omega), Option.bind_some, nI_1] at e0
        have e1 : tn T p k = tn T p (k + 1) := by
          unfold tn
          rw [if_neg (by omega), if_neg (by omega), if_neg (by omega), if_neg (by omega)]
        refine .inr ⟨_, ⟨hprev, Fq_sA (n := 56) (i := 7 * nh + k) (v := nI (T (p + 1 + k) - 48)) (Fq_sI (n := 22) (v := nI (p + 1 + k + 1)) p2), ?_, ?_, ?_, ?_⟩, ?_⟩
        · rfl
        · intro j h1 h2
          rw [sA_2, if_pos rfl, upd_ap]
          by_cases z1 : j = k
          · rw [z1, if_pos rfl]
            unfold hd
            rw [if_neg (by omega)]
          · rw [if_neg (by omega)]
            exact p4 j h1 (by omega)
        · intro h1; omega
        · intro i hi
          rw [sA_2, if_pos rfl, upd_ap, if_neg (by omega)]
          exact p6 i hi
        · show F_X11_readHorse_b12 (f + 1) (nI (7 * nh)) (tn T p k) (nI k) s = _
          rw [e0, e1]
    · have q0 : ¬ okF T n p (hlo k) (hhi T p k) k = true := q
      rw [if_neg q0, Option.bind_some] at e0
      unfold F_X11_readHorse_b94 at e0
      rw [if_pos rfl] at e0
      have hb : bad (hOk T n p) 8 = k := lf_s (fun j hj => by rw [p1 j hj]; rfl) (by rw [(Bool.not_eq_true _).mp q]; rfl) (by omega) 8 hk
      exact .inl ⟨s, Fq_w p2 (fun n h => by simp [sq1] at h ⊢; exact h.1.1) (fun n h => by simp [sqA] at h ⊢; exact h.1) (fun h => h), p2.1 26 rfl, p2.2.1 57 rfl, .inr ⟨by omega, e0, by rw [hb]; exact p3⟩⟩
theorem mrr {nr : Nat} (t : TM T n σ) (hp : p < n) (h22 : σ.1 22 = nI (p + 1)) (h26 : σ.1 26 = nI nr) (hnr : nr < 5) : ∃ σ', Fq sq1 sqA true σ σ' ∧ σ'.1 25 = σ.1 25 ∧ σ'.2.1 56 = σ.2.1 56 ∧ ((bad (rOk T n p) 4 = 9 ∧ F_X11_readRider σ = some (1, σ') ∧ σ'.1 22 = nI (p + 5) ∧ σ'.1 26 = nI (nr + 1) ∧ (∀ k, k < 4 → σ'.2.1 57 (4 * nr + k) = nI (rd T p k)) ∧ ∀ i, i < 4 * nr → σ'.2.1 57 i = σ.2.1 57 i) ∨ (bad (rOk T n p) 4 ≠ 9 ∧ F_X11_readRider σ = some (0, σ') ∧ σ'.1 22 = nI (p + 1 + bad (rOk T n p) 4))) := by
  have hn := t.1
  unfold F_X11_readRider
  refine lp (fun f (s : Mem) k => F_X11_readRider_b2 f (nI k) s) (fun o => ∃ σ', Fq sq1 sqA true σ σ' ∧ σ'.1 25 = σ.1 25 ∧ σ'.2.1 56 = σ.2.1 56 ∧ ((bad (rOk T n p) 4 = 9 ∧ o = some (1, σ') ∧ σ'.1 22 = nI (p + 5) ∧ σ'.1 26 = nI (nr + 1) ∧ (∀ k, k < 4 → σ'.2.1 57 (4 * nr + k) = nI (rd T p k)) ∧ ∀ i, i < 4 * nr → σ'.2.1 57 i = σ.2.1 57 i) ∨ (bad (rOk T n p) 4 ≠ 9 ∧ o = some (0, σ') ∧ σ'.1 22 = nI (p + 1 + bad (rOk T n p) 4)))) 4 (fun k s => (∀ j, j < k → rOk T n p j = true) ∧ Fq (fun n => n != 22) (fun n => n != 57) true σ s ∧ s.1 22 = nI (p + 1 + k) ∧ (∀ j, j < k → s.2.1 57 (4 * nr + j) = nI (rd T p j)) ∧ ∀ i, i < 4 * nr → s.2.1 57 i = σ.2.1 57 i) ?_ ?_ 4 0 σ 4000 (by omega) (by omega) (by omega) ⟨fun j hj => absurd hj (Nat.not_lt_zero _), Fq_r σ, h22, fun j hj => absurd hj (Nat.not_lt_zero _), fun i _ => rfl⟩
  · intro f s ⟨p1, p2, p3, p4, p6⟩
    refine ⟨sI s 26 (nI (nr + 1)), Fq_sI (Fq_w p2 (fun n h => by simp [sq1] at h ⊢; exact h.1.1) (fun n h => by simp [sqA] at h ⊢; exact h.2) (fun h => h)), p2.1 25 rfl, p2.2.1 56 rfl, .inl ⟨lf_n 4 (fun j hj => by rw [p1 j hj]; rfl), ?_, p3, rfl, p4, p6⟩⟩
    simp only [F_X11_readRider_b2]
    rw [if_pos (show (4 : Int32) ≤ nI 4 from Int32.le_refl _), p2.1 26 rfl, h26, nI_1]; rfl
  · intro f s k hk ⟨p1, p2, p3, p4, p6⟩
    have t' := TM_fr t p2
    have hle : p + 1 + k ≤ n := by
      by_cases z : k = 0
      · omega
      · have h5 := p1 (k - 1) (by omega)
        unfold rOk at h5
        rw [okF_t] at h5; omega
    have e0 : F_X11_readRider_b2 (f + 1) (nI k) s = Option.bind (F_X11_figure (nI 0) (nI (rm k)) s) fun q2 => if q2.1 = (-9 : Int32) then some ((0 : Int32), q2.2) else Option.bind (wrA q2.2 57 (((4 : Int32) * (q2.2.1 26)) + nI k) q2.1) fun σ3 => F_X11_readRider_b2 f (nI k + 1) σ3 := by
      simp only [F_X11_readRider_b2]
      rw [if_neg (show ¬ (4 : Int32) ≤ nI k from nI_ge (b := 4) hk (by omega)), show (3 : Int32) = nI 3 from rfl, if_le (by omega) (by omega)]
      unfold rm
      by_cases z : 3 ≤ k
      · rw [if_pos z, if_neg (by omega)]; rfl
      · rw [if_neg z, if_pos (by omega)]; rfl
    rw [fgm t' p3 hle (by omega) (rm_b k)] at e0
    by_cases q : rOk T n p k = true
    · have q0 : okF T n p 0 (rm k) k = true := q
      rw [if_pos q0, Option.bind_some] at e0
      have q1 := okF_t.mp q0
      have hT := (t.2.2 _ q1.1).2
      have hprev : ∀ j, j < k + 1 → rOk T n p j = true := fun j hj => by
        by_cases z : j = k
        · rw [z]; exact q
        · exact p1 j (by omega)
      have h26s : (sI s 22 (nI (p + 1 + k + 1))).1 26 = nI nr := by
        rw [sI_1, if_neg (by omega), p2.1 26 rfl]; exact h26
      rw [if_neg (by rw [nI_n9 (by omega)]; exact id), h26s, show (4 : Int32) = nI 4 from rfl, pk_mul, nI_add, wr_57 (by omega), Option.bind_some, nI_1] at e0
      refine .inr ⟨_, ⟨hprev, Fq_sA (n := 57) (i := 4 * nr + k) (v := nI (T (p + 1 + k) - 48)) (Fq_sI (n := 22) (v := nI (p + 1 + k + 1)) p2), rfl, ?_, ?_⟩, e0⟩
      · intro j h1
        rw [sA_2, if_pos rfl, upd_ap]
        by_cases z1 : j = k
        · rw [z1, if_pos rfl]; rfl
        · rw [if_neg (by omega)]
          exact p4 j (by omega)
      · intro i hi
        rw [sA_2, if_pos rfl, upd_ap, if_neg (by omega)]
        exact p6 i hi
    · have q0 : ¬ okF T n p 0 (rm k) k = true := q
      rw [if_neg q0, Option.bind_some, if_pos rfl] at e0
      have hb : bad (rOk T n p) 4 = k := lf_s (fun j hj => by rw [p1 j hj]; rfl) (by rw [(Bool.not_eq_true _).mp q]; rfl) (by omega) 4 hk
      exact .inl ⟨s, Fq_w p2 (fun n h => by simp [sq1] at h ⊢; exact h.1.1) (fun n h => by simp [sqA] at h ⊢; exact h.2) (fun h => h), p2.1 25 rfl, p2.2.1 56 rfl, .inr ⟨by omega, e0, by rw [hb]; exact p3⟩⟩
