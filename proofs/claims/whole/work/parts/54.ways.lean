-- sets and counts of riders
variable {g : FD} {P : PD} {σ σ' : Mem}
def bits (p : Nat → Bool) (n : Nat) : Nat := sumN (fun i => if p i then 2 ^ i else 0) n
theorem bits_lt (p : Nat → Bool) : ∀ n, bits p n < 2 ^ n
  | 0 => by show (0 : Nat) < 2 ^ 0; decide
  | n + 1 => by
    have h := bits_lt p n
    show bits p n + (if p n then 2 ^ n else 0) < 2 ^ (n + 1)
    rw [Nat.pow_succ]
    split <;> omega
theorem or_bit : ∀ i, i < 5 → ∀ a, a < 2 ^ i → nI a ||| ((1 : Int32) <<< (nI i &&& 31)) = nI (a + 2 ^ i) := by decide +kernel
theorem or_0 (x : Int32) : x ||| (0 : Int32) = x := Int32.or_zero
theorem sumN_ext {f : Nat → Nat} {m n : Nat} (hmn : m ≤ n) (h : ∀ r, m ≤ r → r < n → f r = 0) : sumN f n = sumN f m := by
  induction n with
  | zero => rw [Nat.le_zero.mp hmn]
  | succ n ih =>
    by_cases e : m = n + 1
    · rw [e]
    · show sumN f n + f n = _
      rw [h n (by omega) (by omega), Nat.add_zero]
      exact ih (by omega) (fun r h1 h2 => h r h1 (by omega))
theorem bits_ext {p : Nat → Bool} {m n : Nat} (hmn : m ≤ n) (h : ∀ r, m ≤ r → r < n → p r = false) : bits p n = bits p m :=
  sumN_ext hmn (fun r h1 h2 => by simp only [h r h1 h2]; rfl)
theorem bits_s (p : Nat → Bool) (i : Nat) : bits p (i + 1) = bits p i + (if p i then 2 ^ i else 0) := rfl
theorem cntN_s (p : Nat → Bool) (i : Nat) : cntN p (i + 1) = cntN p i + (if p i then 1 else 0) := rfl
theorem cntN_le (p : Nat → Bool) : ∀ n, cntN p n ≤ n
  | 0 => Nat.le_refl 0
  | n + 1 => by have h := cntN_le p n; rw [cntN_s]; split <;> omega
theorem cntN_ext {p : Nat → Bool} {m n : Nat} (hmn : m ≤ n) (h : ∀ r, m ≤ r → r < n → p r = false) : cntN p n = cntN p m := by
  induction n with
  | zero => rw [Nat.le_zero.mp hmn]
  | succ n ih =>
    by_cases e : m = n + 1
    · rw [e]
    · rw [cntN_s, h n (by omega) (by omega)]
      exact ih (by omega) (fun r h1 h2 => h r h1 (by omega))
theorem bc_v : ∀ a b c d e : Bool, F_J6_bitCount_0f7a4 (nI (((((0 + if a then 2 ^ 0 else 0) + if b then 2 ^ 1 else 0) + if c then 2 ^ 2 else 0) + if d then 2 ^ 3 else 0) + if e then 2 ^ 4 else 0)) mem0 = some (nI (((((0 + if a then 1 else 0) + if b then 1 else 0) + if c then 1 else 0) + if d then 1 else 0) + if e then 1 else 0)) := by
  unfold F_J6_bitCount_0f7a4; decide +kernel
theorem bc_ok (p : Nat → Bool) : F_J6_bitCount_0f7a4 (nI (bits p 5)) σ = some (nI (cntN p 5)) := bc_v (p 0) (p 1) (p 2) (p 3) (p 4)
theorem mn_1 (x a : Int32) (n i : Nat) (h : i < 5) : F_X11_many_b4 σ (n + 1) x a (nI i) = F_X11_many_b4 σ n x (a + ((x >>> (nI i &&& 31)) &&& (1 : Int32))) (nI (i + 1)) := by
  simp only [F_X11_many_b4]
  rw [if_neg (show ¬ (5 : Int32) ≤ nI i from nI_ge (b := 5) h (by omega)), nI_1]
theorem mn_0 (x a : Int32) (n : Nat) : F_X11_many_b4 σ (n + 1) x a (nI 5) = some a := by
  simp only [F_X11_many_b4]
  rw [if_pos (show (5 : Int32) ≤ nI 5 from Int32.le_refl _)]
theorem mn_v : ∀ a b c d e : Bool, (fun x : Int32 => (((((0 + ((x >>> (nI 0 &&& 31)) &&& (1 : Int32))) + ((x >>> (nI 1 &&& 31)) &&& (1 : Int32))) + ((x >>> (nI 2 &&& 31)) &&& (1 : Int32))) + ((x >>> (nI 3 &&& 31)) &&& (1 : Int32))) + ((x >>> (nI 4 &&& 31)) &&& (1 : Int32)))) (nI (((((0 + if a then 2 ^ 0 else 0) + if b then 2 ^ 1 else 0) + if c then 2 ^ 2 else 0) + if d then 2 ^ 3 else 0) + if e then 2 ^ 4 else 0)) = nI (((((0 + if a then 1 else 0) + if b then 1 else 0) + if c then 1 else 0) + if d then 1 else 0) + if e then 1 else 0) := by decide +kernel
theorem mn_ok (p : Nat → Bool) : F_X11_many (nI (bits p 5)) σ = some (nI (cntN p 5)) := by
  have h := mn_v (p 0) (p 1) (p 2) (p 3) (p 4)
  unfold F_X11_many
  rw [show (0 : Int32) = nI 0 from rfl, mn_1 _ _ 3999 0 (by omega), mn_1 _ _ 3998 1 (by omega), mn_1 _ _ 3997 2 (by omega), mn_1 _ _ 3996 3 (by omega), mn_1 _ _ 3995 4 (by omega)]
  rw [mn_0 _ _ 3994]
  exact congrArg some h
-- ways
def okY (g : FD) (w : Nat → Nat) : Prop := ∀ r, r < 5 → w r = 9 ∨ (w r < g.1 ∧ r < g.2.1)
theorem okW_b {w : Nat → Nat} (h : okY g w) (hg : okG g) {r : Nat} (hr : r < 5) : w r ≤ 9 := by
  have := hg.1
  rcases h r hr with h | h <;> omega
theorem okW_9 {w : Nat → Nat} (h : okY g w) {r : Nat} (hr : r < 5) (h2 : g.2.1 ≤ r) : w r = 9 := by
  rcases h r hr with h | h
  · exact h
  · omega
def kpB (w : Nat → Nat) (h r : Nat) : Bool := decide (w r = h)
def tkB (w : Nat → Nat) (r : Nat) : Bool := decide (w r ≠ 9)
def kc (w : Nat → Nat) (h : Nat) : Nat := cntN (kpB w h) 5
theorem hof_ok {k : Nat} {w : Nat → Nat} (hk : k < 21) (c : CW k w σ) {r : Nat} (hr : r < 5) : F_X7_horseOf k (nI r) σ = some (hI (w r)) := by
  unfold F_X7_horseOf
  rw [if_neg (nI_pos (by omega)), al_w hk, if_neg (nI_ge hr (by omega)), rdA_ok (by rw [al_w hk]; exact hr) (by omega), c r hr]
  rfl
theorem kb_ok {k : Nat} {w : Nat → Nat} (hk : k < 21) (c : CW k w σ) (hw : ∀ r, r < 5 → w r ≤ 9) {h : Nat} (hh : h < 9) : F_X7_keptBits k (nI h) σ = some (nI (bits (kpB w h) 5)) := by
  unfold F_X7_keptBits
  refine lpD (fun n (a : Nat) i => F_X7_keptBits_b4 k σ n (nI h) (nI a) (nI i)) 5 (fun i => bits (kpB w h) i) _ ?_ ?_ 4000 (by omega)
  · intro n
    simp only [F_X7_keptBits_b4]
    rw [al_w hk, if_pos (nI_le (Nat.le_refl _) (by omega))]
  · intro n i hi
    have h1 := hw i hi
    have h2 := bits_lt (kpB w h) i
    simp only [F_X7_keptBits_b4]
    rw [al_w hk, if_neg (nI_ge hi (by omega)), rdA_ok (by rw [al_w hk]; exact hi) (by omega), c i hi, Option.bind_some, nI_1, bits_s]
    by_cases e : w i = h
    · rw [if_pos (by rw [hI_e (by omega) (by omega)]; exact e), or_bit i hi _ h2, show kpB w h i = true from decide_eq_true e]; rfl
    · rw [if_neg (by rw [hI_e (by omega) (by omega)]; exact e), show kpB w h i = false from decide_eq_false e]; rfl
theorem kc_ok {k : Nat} {w : Nat → Nat} (hk : k < 21) (c : CW k w σ) (hw : ∀ r, r < 5 → w r ≤ 9) {h : Nat} (hh : h < 9) : F_X7_keptCount k (nI h) σ = some (nI (kc w h)) := by
  unfold F_X7_keptCount
  rw [kb_ok hk c hw hh, Option.bind_some, bc_ok, Option.bind_some]; rfl
theorem tb_ok {k : Nat} {w : Nat → Nat} (hk : k < 21) (c : CW k w σ) (hw : ∀ r, r < 5 → w r ≤ 9) : F_X7_takenBits k σ = some (nI (bits (tkB w) 5)) := by
  unfold F_X7_takenBits
  refine lpD (fun n (a : Nat) i => F_X7_takenBits_b4 k σ n (nI a) (nI i)) 5 (fun i => bits (tkB w) i) _ ?_ ?_ 4000 (by omega)
  · intro n
    simp only [F_X7_takenBits_b4]
    rw [al_w hk, if_pos (nI_le (Nat.le_refl _) (by omega))]
  · intro n i hi
    have h1 := hw i hi
    have h2 := bits_lt (tkB w) i
    simp only [F_X7_takenBits_b4]
    rw [al_w hk, if_neg (nI_ge hi (by omega)), rdA_ok (by rw [al_w hk]; exact hi) (by omega), c i hi, Option.bind_some, nI_1, bits_s]
    by_cases e : w i = 9
    · rw [if_pos (by rw [hI_m9 (by omega)]; exact e), show tkB w i = false from decide_eq_false (fun q => q e)]; rfl
    · rw [if_neg (by rw [hI_m9 (by omega)]; exact e), or_bit i hi _ h2, show tkB w i = true from decide_eq_true e]; rfl
-- the reference's
theorem ks_ok {n : Nat} {w : Nat → Nat} (hn : 5 ≤ alen n) (d : MF g σ) (hg : okG g) (c : MW n w σ) (hw : okY g w) {h : Nat} (hh : h < 9) : F_X11_keeps n (nI h) σ = some (nI (bits (kpB w h) 5)) := by
  have hg2 := hg.2.1
  rw [bits_ext hg2 (fun r h1 h2 => by unfold kpB; rw [okW_9 hw h2 h1]; exact decide_eq_false (by omega))]
  unfold F_X11_keeps
  refine lpD (fun m (a : Nat) i => F_X11_keeps_b5 n σ m (nI h) (nI a) (nI i)) g.2.1 (fun i => bits (kpB w h) i) _ ?_ ?_ 4000 (by omega)
  · intro m
    simp only [F_X11_keeps_b5]
    rw [d.2.1, if_pos (nI_le (Nat.le_refl _) (by omega))]
  · intro m i hi
    have h1 := okW_b hw hg (r := i) (by omega)
    have h2 := bits_lt (kpB w h) i
    simp only [F_X11_keeps_b5]
    rw [d.2.1, if_neg (nI_ge hi (by omega)), rdA_ok (by omega) (by omega), c i (by omega), Option.bind_some, nI_1, bits_s]
    by_cases e : w i = h
    · rw [if_pos (by rw [hI_e (by omega) (by omega)]; exact e), or_bit i (by omega) _ h2, show kpB w h i = true from decide_eq_true e]; rfl
    · rw [if_neg (by rw [hI_e (by omega) (by omega)]; exact e), or_0, show kpB w h i = false from decide_eq_false e]; rfl
theorem to_ok {n : Nat} {w : Nat → Nat} (hn : 5 ≤ alen n) (d : MF g σ) (hg : okG g) (c : MW n w σ) (hw : okY g w) : F_X11_takenOf n σ = some (nI (bits (tkB w) 5)) := by
  have hg2 := hg.2.1
  rw [bits_ext hg2 (fun r h1 h2 => by unfold tkB; rw [okW_9 hw h2 h1]; rfl)]
  unfold F_X11_takenOf
  refine lpD (fun m (a : Nat) i => F_X11_takenOf_b4 n σ m (nI a) (nI i)) g.2.1 (fun i => bits (tkB w) i) _ ?_ ?_ 4000 (by omega)
  · intro m
    simp only [F_X11_takenOf_b4]
    rw [d.2.1, if_pos (nI_le (Nat.le_refl _) (by omega))]
  · intro m i hi
    have h1 := okW_b hw hg (r := i) (by omega)
    have h2 := bits_lt (tkB w) i
    simp only [F_X11_takenOf_b4]
    rw [d.2.1, if_neg (nI_ge hi (by omega)), rdA_ok (by omega) (by omega), c i (by omega), Option.bind_some, nI_1, bits_s]
    by_cases e : w i = 9
    · rw [if_pos (by rw [hI_m9 (by omega)]; exact e), or_0, show tkB w i = false from decide_eq_false (fun q => q e)]; rfl
    · rw [if_neg (by rw [hI_m9 (by omega)]; exact e), or_bit i (by omega) _ h2, show tkB w i = true from decide_eq_true e]; rfl
def fuB (g : FD) (w : Nat → Nat) (h : Nat) : Bool := decide (g.2.2 0 h ≤ kc w h)
theorem fu_ok {n : Nat} {w : Nat → Nat} (hn : 5 ≤ alen n) (d : MF g σ) (hg : okG g) (c : MW n w σ) (hw : okY g w) {h : Nat} (hh : h < g.1) : F_X11_isFull n (nI h) σ = some (bI (fuB g w h)) := by
  have := hg.1
  have h1 := cntN_le (kpB w h) 5
  have h2 := (hg.2.2.1 h hh).2.1
  unfold F_X11_isFull
  rw [ks_ok hn d hg c hw (by omega), Option.bind_some, mn_ok, Option.bind_some, show (7 : Int32) = nI 7 from rfl, pk_mul, rd_54 (by omega), mf_h0 d hh, Option.bind_some]
  unfold fuB bI kc
  by_cases e : cntN (kpB w h) 5 < g.2.2 0 h
  · rw [if_pos (nI_lt e (by omega)), decide_eq_false (by omega)]; rfl
  · rw [if_neg (nI_nlt (by omega) (by omega)), decide_eq_true (by omega)]; rfl
-- whom a horse likes least of those it keeps
def lst (W : Nat → Nat → Nat) (w : Nat → Nat) (h : Nat) : Nat → Nat
  | 0 => 9
  | n + 1 => if w n = h then (if lst W w h n = 9 then n else if hlB W h (lst W w h n) n then n else lst W w h n) else lst W w h n
theorem lst_in (W : Nat → Nat → Nat) (w : Nat → Nat) (h : Nat) : ∀ n, lst W w h n = 9 ∧ (∀ r, r < n → w r ≠ h) ∨ lst W w h n < n ∧ w (lst W w h n) = h
  | 0 => .inl ⟨rfl, fun r hr => absurd hr (Nat.not_lt_zero _)⟩
  | n + 1 => by
    have ih := lst_in W w h n
    show (if w n = h then (if lst W w h n = 9 then n else if hlB W h (lst W w h n) n then n else lst W w h n) else lst W w h n) = 9 ∧ _ ∨ (if w n = h then (if lst W w h n = 9 then n else if hlB W h (lst W w h n) n then n else lst W w h n) else lst W w h n) < n + 1 ∧ w (if w n = h then (if lst W w h n = 9 then n else if hlB W h (lst W w h n) n then n else lst W w h n) else lst W w h n) = h
    by_cases e : w n = h
    · simp only [if_pos e]
      by_cases e1 : lst W w h n = 9
      · simp only [if_pos e1]; exact .inr ⟨by omega, e⟩
      · simp only [if_neg e1]
        by_cases e2 : hlB W h (lst W w h n) n = true
        · simp only [if_pos e2]; exact .inr ⟨by omega, e⟩
        · simp only [if_neg e2]
          rcases ih with ih | ih
          · exact absurd ih.1 e1
          · exact .inr ⟨by omega, ih.2⟩
    · simp only [if_neg e]
      rcases ih with ih | ih
      · refine .inl ⟨ih.1, fun r hr => ?_⟩
        by_cases e3 : r = n
        · subst e3; exact e
        · exact ih.2 r (by omega)
      · exact .inr ⟨by omega, ih.2⟩
theorem lst_ext (W : Nat → Nat → Nat) {w : Nat → Nat} {h m n : Nat} (hmn : m ≤ n) (hx : ∀ r, m ≤ r → r < n → w r ≠ h) : lst W w h n = lst W w h m := by
  induction n with
  | zero => rw [Nat.le_zero.mp hmn]
  | succ n ih =>
    by_cases e : m = n + 1
    · rw [e]
    · show (if w n = h then _ else _) = _
      rw [if_neg (hx n (by omega) (by omega))]
      exact ih (by omega) (fun r h1 h2 => hx r h1 (by omega))
theorem cnt_0 {p : Nat → Bool} {n : Nat} (h : ∀ r, r < n → p r = false) : cntN p n = 0 := cntN_ext (Nat.zero_le n) (fun r _ h2 => h r h2)
theorem lst_full (hg : okG g) (W : Nat → Nat → Nat) {w : Nat → Nat} {h : Nat} (hh : h < g.1) (hf : g.2.2 0 h ≤ kc w h) : lst W w h 5 < 5 ∧ w (lst W w h 5) = h := by
  rcases lst_in W w h 5 with h1 | h1
  · exfalso
    have h2 := (hg.2.2.1 h hh).1
    have h3 : kc w h = 0 := cnt_0 (fun r hr => decide_eq_false (h1.2 r hr))
    omega
  · exact h1
theorem ll_ok {k : Nat} {w : Nat → Nat} {s : Nat → Nat → Nat} (hk : k < 21) (c : CW k w σ) (hg : okG g) (hw : okY g w) (t : T12 g s σ) (hs : okS g s) {h : Nat} (hh : h < g.1) : F_X7_leastLiked k (nI h) σ = some (hI (lst (Wo g s) w h 5)) := by
  have hg1 := hg.1
  unfold F_X7_leastLiked
  refine lpD (fun n (a : Nat) i => F_X7_leastLiked_b6 k σ n (nI h) (hI a) (nI i)) 5 (fun i => lst (Wo g s) w h i) _ ?_ ?_ 4000 (by omega)
  · intro n
    simp only [F_X7_leastLiked_b6]
    rw [al_w hk, if_pos (nI_le (Nat.le_refl _) (by omega))]
  · intro n i hi
    have h1 := okW_b hw hg hi
    have h2 := lst_in (Wo g s) w h i
    simp only [F_X7_leastLiked_b6]
    rw [al_w hk, if_neg (nI_ge hi (by omega)), rdA_ok (by rw [al_w hk]; exact hi) (by omega), c i hi, Option.bind_some, nI_1]
    simp only [lst]
    by_cases e : w i = h
    · have hir : i < g.2.1 := by rcases hw i hi with q | q <;> omega
      rw [if_pos (by rw [hI_e (by omega) (by omega)]; exact e), if_pos e]
      by_cases e1 : lst (Wo g s) w h i = 9
      · rw [if_pos (by rw [hI_m9 (by omega)]; exact e1), if_pos e1, hI_n (w := i) (by omega)]
      · rw [if_neg (by rw [hI_m9 (by omega)]; exact e1), if_neg e1]
        have h3 : lst (Wo g s) w h i < i := by omega
        rw [hI_n e1, hl_ok t hg hs hh (by omega) hir, Option.bind_some]
        by_cases e2 : hlB (Wo g s) h (lst (Wo g s) w h i) i = true
        · rw [if_neg (by rw [e2]; decide), if_pos e2, hI_n (w := i) (by omega)]
        · rw [if_pos (by rw [Bool.not_eq_true] at e2; rw [e2]; rfl), if_neg e2, hI_n e1]
    · rw [if_neg (by rw [hI_e (by omega) (by omega)]; exact e), if_neg e]
theorem lo_ok {n : Nat} {w : Nat → Nat} {d x : Nat → Nat} (hn : 5 ≤ alen n) (m : MF g σ) (hg : okG g) (c : MW n w σ) (hw : okY g w) (e0 : MD d x σ) {h : Nat} (hh : h < g.1) : F_X11_leastOf n (nI h) σ = some (hI (lst (Wo g (sh g d x)) w h 5)) := by
  have hg1 := hg.1
  have hg2 := hg.2.1
  rw [lst_ext _ hg2 (fun r h1 h2 => by rw [okW_9 hw h2 h1]; omega)]
  unfold F_X11_leastOf
  refine lpD (fun m (a : Nat) i => F_X11_leastOf_b6 n σ m (nI h) (hI a) (nI i)) g.2.1 (fun i => lst (Wo g (sh g d x)) w h i) _ ?_ ?_ 4000 (by omega)
  · intro q
    simp only [F_X11_leastOf_b6]
    rw [m.2.1, if_pos (nI_le (Nat.le_refl _) (by omega))]
  · intro q i hi
    have h1 := okW_b hw hg (r := i) (by omega)
    have h2 := lst_in (Wo g (sh g d x)) w h i
    simp only [F_X11_leastOf_b6]
    rw [m.2.1, if_neg (nI_ge hi (by omega)), rdA_ok (by omega) (by omega), c i (by omega), Option.bind_some, nI_1]
    simp only [lst]
    by_cases e : w i = h
    · rw [if_pos (by rw [hI_e (by omega) (by omega)]; exact e), if_pos e]
      by_cases e1 : lst (Wo g (sh g d x)) w h i = 9
      · rw [if_pos (by rw [hI_m9 (by omega)]; exact e1), if_pos e1, hI_n (w := i) (by omega)]
      · rw [if_neg (by rw [hI_m9 (by omega)]; exact e1), if_neg e1]
        have h3 : lst (Wo g (sh g d x)) w h i < i := by omega
        rw [hI_n e1, lr_ok m hg e0 hh (by omega) hi, Option.bind_some]
        by_cases e2 : hlB (Wo g (sh g d x)) h (lst (Wo g (sh g d x)) w h i) i = true
        · rw [if_neg (by rw [e2]; decide), if_pos e2, hI_n (w := i) (by omega)]
        · rw [if_pos (by rw [Bool.not_eq_true] at e2; rw [e2]; rfl), if_neg e2, hI_n e1]
    · rw [if_neg (by rw [hI_e (by omega) (by omega)]; exact e), if_neg e]
-- led
def upN (w : Nat → Nat) (r h : Nat) : Nat → Nat := fun x => if x = r then h else w x
def leadB (g : FD) (W : Nat → Nat → Nat) (w : Nat → Nat) (r h : Nat) : Bool := enB g W h r && (!fuB g w h || hlB W h r (lst W w h 5))
def leadW (g : FD) (W : Nat → Nat → Nat) (w : Nat → Nat) (r h : Nat) : Nat → Nat := if leadB g W w r h then (if fuB g w h then upN (upN w (lst W w h 5) 9) r h else upN w r h) else w
theorem okW_up {w : Nat → Nat} (hw : okY g w) {r h : Nat} (hr : r < g.2.1) (hh : h < g.1) : okY g (upN w r h) := fun x hx => by
  unfold upN; split
  · rename_i e; subst e; exact .inr ⟨hh, hr⟩
  · exact hw x hx
theorem okW_u9 {w : Nat → Nat} (hw : okY g w) {r : Nat} : okY g (upN w r 9) := fun x hx => by
  unfold upN; split
  · exact .inl rfl
  · exact hw x hx
theorem okW_ld {W : Nat → Nat → Nat} {w : Nat → Nat} (hw : okY g w) {r h : Nat} (hr : r < g.2.1) (hh : h < g.1) : okY g (leadW g W w r h) := by
  unfold leadW
  split
  · split
    · exact okW_up (okW_u9 hw) hr hh
    · exact okW_up hw hr hh
  · exact hw
theorem set_ok {k : Nat} {w : Nat → Nat} (hk : k < 21) (c : CW k w σ) {r h : Nat} (hr : r < 5) : F_X7_set k (nI r) (hI h) σ = some (sA σ (15 + k) r (hI h)) ∧ CW k (upN w r h) (sA σ (15 + k) r (hI h)) := by
  constructor
  · unfold F_X7_set
    rw [put_ok (by rw [al_w hk]; exact hr)]; rfl
  · intro x hx
    rw [sA_2, if_pos rfl, upd_ap]
    unfold upN
    split
    · rfl
    · exact c x hx
theorem ld_ok {k : Nat} {w : Nat → Nat} {s : Nat → Nat → Nat} (hk : k < 21) (c : CW k w σ) (cf : CF g σ) (hg : okG g) (hw : okY g w) (t : T12 g s σ) (hs : okS g s) {r h : Nat} (hr : r < g.2.1) (hh : h < g.1) : ∃ σ', F_X7_leadTo k (nI r) (nI h) σ = some (bI (leadB g (Wo g s) w r h), σ') ∧ Fq (fun _ => true) (fun n => n != 15 + k) true σ σ' ∧ CW k (leadW g (Wo g s) w r h) σ' := by
  have hg1 := hg.1; have hg2 := hg.2.1
  have hkp := hg.2.2.1 h hh
  have hkc := cntN_le (kpB w h) 5
  unfold F_X7_leadTo leadB leadW leadB
  rw [en_ok t cf hg hs hh hr, Option.bind_some]
  by_cases e : enB g (Wo g s) h r = true
  · rw [e, if_neg (by decide), kc_ok hk c (fun x hx => okW_b hw hg hx) (by omega), Option.bind_some, at_1 (by omega), cf_k cf hh, Option.bind_some]
    by_cases e1 : kc w h < g.2.2 0 h
    · have e2 : fuB g w h = false := decide_eq_false (by omega)
      rw [if_pos (nI_lt e1 (by omega)), e2]
      have e3 := set_ok hk c (r := r) (h := h) (by omega)
      rw [hI_n (by omega)] at e3
      rw [e3.1]
      exact ⟨_, rfl, Fq_sA (Fq_r σ) (by simp), e3.2⟩
    · have e2 : fuB g w h = true := decide_eq_true (by omega)
      have e4 := lst_full hg (Wo g s) hh (w := w) (by omega)
      have e5 : lst (Wo g s) w h 5 < g.2.1 := by rcases hw _ e4.1 with q | q <;> omega
      have e8 : kc w h ≤ 5 := hkc
      rw [if_neg (nI_nlt (by omega) (by omega)), e2, ll_ok hk c hg hw t hs hh, Option.bind_some, if_neg (by rw [hI_m9 (by omega)]; omega), hI_n (w := lst (Wo g s) w h 5) (by omega), hl_ok t hg hs hh hr e5, Option.bind_some]
      by_cases e6 : hlB (Wo g s) h r (lst (Wo g s) w h 5) = true
      · rw [e6, if_neg (by decide)]
        have e7 := set_ok hk c (r := lst (Wo g s) w h 5) (h := 9) (by omega)
        rw [hI_9] at e7
        rw [e7.1, Option.bind_some]
        have e3 := set_ok hk e7.2 (r := r) (h := h) (by omega)
        rw [hI_n (by omega)] at e3
        rw [e3.1]
        exact ⟨_, rfl, Fq_sA (Fq_sA (Fq_r σ) (by simp)) (by simp), e3.2⟩
      · rw [Bool.not_eq_true] at e6
        rw [e6, if_pos rfl]
        exact ⟨σ, rfl, Fq_r σ, c⟩
  · rw [Bool.not_eq_true] at e
    rw [e, if_pos (show bI false = 0 from rfl)]
    exact ⟨σ, rfl, Fq_r σ, c⟩
theorem mw_set {n : Nat} {w : Nat → Nat} (c : MW n w σ) {r h : Nat} : MW n (upN w r h) (sA σ n r (hI h)) := fun x hx => by
  rw [sA_2, if_pos rfl, upd_ap]
  unfold upN
  split
  · rfl
  · exact c x hx
theorem go_ok {n : Nat} {w : Nat → Nat} {d x : Nat → Nat} (hn : 5 ≤ alen n) (m : MF g σ) (hg : okG g) (c : MW n w σ) (hw : okY g w) (e0 : MD d x σ) {r h : Nat} (hr : r < g.2.1) (hh : h < g.1) : ∃ σ', F_X11_goLead n (nI r) (nI h) σ = some (bI (leadB g (Wo g (sh g d x)) w r h), σ') ∧ Fq (fun _ => true) (fun m => m != n) true σ σ' ∧ (∀ i, 5 ≤ i → σ'.2.1 n i = σ.2.1 n i) ∧ MW n (leadW g (Wo g (sh g d x)) w r h) σ' := by
  have hg1 := hg.1; have hg2 := hg.2.1
  unfold F_X11_goLead leadB leadW leadB
  rw [ie_ok m hg e0 hh hr, Option.bind_some]
  by_cases e : enB g (Wo g (sh g d x)) h r = true
  · rw [e, if_neg (by decide), fu_ok hn m hg c hw hh, Option.bind_some]
    by_cases e1 : fuB g w h = true
    · have e4 := lst_full hg (Wo g (sh g d x)) hh (w := w) (of_decide_eq_true e1)
      have e5 : lst (Wo g (sh g d x)) w h 5 < g.2.1 := by rcases hw _ e4.1 with q | q <;> omega
      rw [e1, if_neg (by decide), lo_ok hn m hg c hw e0 hh, Option.bind_some, hI_n (w := lst (Wo g (sh g d x)) w h 5) (by omega), lr_ok m hg e0 hh hr e5, Option.bind_some]
      by_cases e6 : hlB (Wo g (sh g d x)) h r (lst (Wo g (sh g d x)) w h 5) = true
      · rw [e6, if_neg (by decide), wrA_ok (by omega) (by omega), Option.bind_some, wrA_ok (by omega) (by omega), Option.bind_some]
        have e7 := mw_set c (r := lst (Wo g (sh g d x)) w h 5) (h := 9)
        have e8 := mw_set e7 (r := r) (h := h)
        rw [hI_9, hI_n (w := h) (by omega)] at e8
        refine ⟨_, rfl, Fq_sA (Fq_sA (Fq_r σ) (by simp)) (by simp), fun i hi => ?_, e8⟩
        simp only [sA_2, if_true, upd_ap]
        rw [if_neg (by omega), if_neg (by omega)]
      · rw [Bool.not_eq_true] at e6
        rw [e6, if_pos rfl]
        exact ⟨σ, rfl, Fq_r σ, fun _ _ => rfl, c⟩
    · rw [Bool.not_eq_true] at e1
      rw [e1, if_pos (show bI false = 0 from rfl), wrA_ok (by omega) (by omega), Option.bind_some]
      have e8 := mw_set c (r := r) (h := h)
      rw [hI_n (w := h) (by omega)] at e8
      refine ⟨_, rfl, Fq_sA (Fq_r σ) (by simp), fun i hi => ?_, e8⟩
      simp only [sA_2, if_true, upd_ap]
      rw [if_neg (by omega)]
  · rw [Bool.not_eq_true] at e
    rw [e, if_pos (show bI false = 0 from rfl)]
    exact ⟨σ, rfl, Fq_r σ, fun _ _ => rfl, c⟩
