-- the tables' words that every contract takes along
def isNest : Cond → Bool
  | .fieldLinkNest _ _ _ _ _ _ => true
  | .methodLinkNest _ _ _ _ => true
  | _ => false
def okW (w : Cond) : Bool := w.onTables && (w.keeps || isNest w)
def TB : List Cond := lw_tbl.filter okW
theorem TB_in {w : Cond} (i : Nat) (h : lw_tbl[i]? = some w) (ho : okW w = true) : w ∈ TB := List.mem_filter.mpr ⟨List.mem_of_getElem? h, ho⟩
theorem TB_ok {w : Cond} (h : w ∈ TB) : okW w = true := (List.mem_filter.mp h).2
def TW (U : State) : Prop := ∀ w ∈ TB, w.before #[] U = true
theorem TW_use {U : State} (h : TW U) {w : Cond} (hw : w ∈ TB) (A : Array Value) : w.before A U = true := by
  have h1 := TB_ok hw
  simp only [okW, Bool.and_eq_true] at h1
  exact va_tabs h1.1 rfl (h w hw)
theorem TW_same {u U : State} (h : u.vm = U.vm) (hT : TW u) : TW U := fun w hw => by
  have h1 := TB_ok hw
  simp only [okW, Bool.and_eq_true] at h1
  exact va_tabs h1.1 h (hT w hw)
theorem TW_warm {s U : State} (hW : s.WarmedH U.vm) (h : TW s) : TW U := fun w hw => by
  have h1 := TB_ok hw
  have h9 := h w hw
  simp only [okW, Bool.and_eq_true, Bool.or_eq_true] at h1
  obtain ⟨h2, h3⟩ := h1
  rcases h3 with h3 | h3
  · exact word_at hW (Or.inl (by simp [h2, h3])) h9
  · cases w <;> first | (simp [isNest] at h3; done) | exact va_Nw.warmF hW h9 | exact va_Nw.warmM hW h9
-- memory: int fields, int arrays, long fields, each by its number
abbrev Mem : Type := (Nat → Int32) × (Nat → Nat → Int32) × (Nat → Int64)
def alen (n : Nat) : Nat := if n < 15 then [64, 4, 12, 4, 4, 4, 15, 5, 20, 20, 6, 6, 20, 5, 4].getD n 0 else if n < 36 then 5 else if n < 53 then 15 else [64, 28, 20, 28, 20, 21, 294, 42, 6, 6, 5, 5, 5, 15, 2].getD (n - 53) 0
def sI (σ : Mem) (n : Nat) (v : Int32) : Mem := (fun m => if m = n then v else σ.1 m, σ.2)
def sA (σ : Mem) (n i : Nat) (v : Int32) : Mem := (σ.1, fun m => if m = n then upd (σ.2.1 n) i v else σ.2.1 m, σ.2.2)
def sF (σ : Mem) (n : Nat) (f : Nat → Int32) : Mem := (σ.1, fun m => if m = n then f else σ.2.1 m, σ.2.2)
def sJ (σ : Mem) (n : Nat) (v : Int64) : Mem := (σ.1, σ.2.1, fun m => if m = n then v else σ.2.2 m)
def rdA (σ : Mem) (n : Nat) (i : Int32) : Option Int32 := if i < 0 ∨ alen n ≤ i.toNatClampNeg then none else some (σ.2.1 n i.toNatClampNeg)
def wrA (σ : Mem) (n : Nat) (i v : Int32) : Option Mem := if i < 0 ∨ alen n ≤ i.toNatClampNeg then none else some (sA σ n i.toNatClampNeg v)
def dvI (x y : Int32) : Option Int32 := if y = 0 then none else some (x / y)
def rmI (x y : Int32) : Option Int32 := if y = 0 then none else some (x - x / y * y)
def rmJ (x y : Int64) : Option Int64 := if y = 0 then none else some (x - x / y * y)
def bz (x : Int32) : Option Int32 := if x = 0 ∨ x = 1 then some x else none
def rdS (b len : Nat) (i : Int32) : Option Nat := if i < 0 ∨ len ≤ i.toNatClampNeg then none else some (b + i.toNatClampNeg)
def oc {α : Type} (r : Option Nat) (e : α) (t : Nat → α) : α := match r with
  | none => e
  | some k => t k
def ifK {α : Type} (k n : Nat) (t : Option α) : Option α := if k < n then t else none
def cpA (σ : Mem) (n : Nat) (sp : Int32) (m : Nat) (dp len : Int32) : Option Mem := if sp < 0 ∨ dp < 0 ∨ len < 0 ∨ alen n < sp.toNatClampNeg + len.toNatClampNeg ∨ alen m < dp.toNatClampNeg + len.toNatClampNeg then none else some (sF σ m (va_cpy (σ.2.1 n) (σ.2.1 m) sp.toNatClampNeg dp.toNatClampNeg len.toNatClampNeg))
def zlen (k : Nat) : Nat := if k = 0 then 9 else 5
def zf (k : Nat) : Nat → Int32 := fun j => if k = 0 then [0, 3, 3, 3, 3, 9, 9, 8, 9].getD j 0 else [0, 9, 9, 9, 3].getD j 0
def rdZ (k : Nat) (i : Int32) : Option Int32 := if i < 0 ∨ zlen k ≤ i.toNatClampNeg then none else some (zf k i.toNatClampNeg)
theorem bnd {α β : Type} {x : Option α} {f : α → Option β} {r : β} (h : x.bind f = some r) : ∃ a, x = some a ∧ f a = some r := Option.bind_eq_some_iff.mp h
-- the world: 118 cells, at the addresses ad i
def cE (ad : Nat → Nat) (T : Nat → ClassId) (σ : Mem) (i : Nat) : va_E :=
  if i < 12 then (match i with
    | 0 => .inr (10, [.ref (ad 1), .ref (ad 2), .ref (ad (80 + 0)), .ref (ad 3), .ref (ad 10), .ref (ad 4), .ref (ad 5), .ref (ad 6), .ref (ad 7), .ref (ad 8), .ref (ad (97 + 20)), .long (σ.2.2 0)])
    | 1 => .inr (6, [.ref (ad (12 + 0)), .int (σ.1 0)])
    | 2 => .inr (3, [.int (σ.1 1), .int (σ.1 2), .ref (ad (12 + 1)), .ref (ad (12 + 2)), .ref (ad (12 + 3)), .ref (ad (12 + 4)), .ref (ad (12 + 5)), .ref (ad (12 + 6)), .ref (ad (12 + 7)), .ref (ad (12 + 8)), .ref (ad (12 + 9))])
    | 3 => .inr (0, [.ref (ad 9), .int (σ.1 3), .int (σ.1 4)])
    | 4 => .inr (2, [.ref (ad (12 + 10)), .ref (ad (12 + 11)), .int (σ.1 5)])
    | 5 => .inr (9, [.ref (ad 2), .ref (ad (12 + 12))])
    | 6 => .inr (4, [.ref (ad 2), .ref (ad 5), .ref (ad (97 + 17)), .ref (ad (12 + 13)), .ref (ad (12 + 14))])
    | 7 => .inr (8, [.ref (ad 2), .ref (ad 5), .ref (ad (97 + 18)), .ref (ad (97 + 19)), .int (σ.1 6), .int (σ.1 7), .int (σ.1 8)])
    | 8 => .inr (1, [.int (σ.1 9), .int (σ.1 10), .int (σ.1 11), .int (σ.1 12), .int (σ.1 13)])
    | 9 => .inl (T 2, 14, .inr (.inr (.inr (.inr (fun j => some (ad (80 + (1 + j))))))))
    | 10 => .inl (T 2, 2, .inr (.inr (.inr (.inr (fun j => some (ad (80 + (15 + j))))))))
    | _ => .inr (11, [.int (σ.1 20), .ref (ad (12 + 53)), .int (σ.1 21), .int (σ.1 22), .int (σ.1 23), .int (σ.1 24), .ref (ad (12 + 54)), .ref (ad (12 + 55)), .int (σ.1 25), .int (σ.1 26), .ref (ad (12 + 56)), .ref (ad (12 + 57)), .ref (ad (12 + 58)), .ref (ad (12 + 59)), .int (σ.1 27), .ref (ad (12 + 60)), .ref (ad (12 + 67)), .int (σ.1 28), .ref (ad (12 + 61)), .ref (ad (12 + 62)), .long (σ.2.2 1), .ref (ad (12 + 63)), .ref (ad (12 + 64)), .ref (ad (12 + 65)), .ref (ad (12 + 66)), .int (σ.1 29), .int (σ.1 30)]))
  else if i < 79 then .inl (T 0, alen (i - 12), .inl (σ.2.1 (i - 12)))
  else if i < 80 then .inl (T 1, 2, .inl (σ.2.1 67))
  else if i < 97 then .inr (5, [.ref (ad (97 + (i - 80))), .ref (ad (12 + (36 + (i - 80)))), .int (σ.1 (40 + (i - 80))), .int (σ.1 (60 + (i - 80)))])
  else .inr (7, [.ref (ad (12 + (15 + (i - 97))))])
def Wd (ad : Nat → Nat) (T : Nat → ClassId) (σ : Mem) : va_W := (List.range 118).map (fun i => (ad i, cE ad T σ i))
theorem Wd_get {ad : Nat → Nat} {T : Nat → ClassId} {σ : Mem} {i : Nat} (hi : i < 118) : (Wd ad T σ)[i]? = some (ad i, cE ad T σ i) := by
  simp [Wd, List.getElem?_map, List.getElem?_range hi]
theorem Wd_len {ad : Nat → Nat} {T : Nat → ClassId} {σ : Mem} : (Wd ad T σ).length = 118 := by simp [Wd]
theorem Wd_lt {ad : Nat → Nat} {T : Nat → ClassId} {σ : Mem} {i : Nat} {q : Nat × va_E} (h : (Wd ad T σ)[i]? = some q) : i < 118 ∧ q = (ad i, cE ad T σ i) := by
  have h1 := (List.getElem?_eq_some_iff.mp h).1
  rw [Wd_len] at h1
  rw [Wd_get h1] at h
  exact ⟨h1, (Option.some.inj h).symm⟩
def adI (ad : Nat → Nat) : Prop := ∀ i j, i < 118 → j < 118 → ad i = ad j → i = j
def fA (ad : Nat → Nat) : Nat → Prop := fun q => ∃ i, i < 118 ∧ ad i = q
theorem Wd_D {ad : Nat → Nat} {T : Nat → ClassId} {σ : Mem} {A : Nat → Prop} (hI : adI ad) (hA : ∀ i, i < 118 → A (ad i)) : va_D A (Wd ad T σ) := by
  refine ⟨fun i j p q hp hq h => ?_, fun k q hk => ?_⟩
  · obtain ⟨h1, rfl⟩ := Wd_lt hp
    obtain ⟨h2, rfl⟩ := Wd_lt hq
    exact hI i j h1 h2 h
  · obtain ⟨h1, rfl⟩ := Wd_lt hk
    exact hA k h1
theorem Wd_set {ad : Nat → Nat} {T : Nat → ClassId} {σ σ' : Mem} {i : Nat} {e : va_E} (hi : i < 118) (h1 : cE ad T σ' i = e) (h2 : ∀ j, j < 118 → j ≠ i → cE ad T σ' j = cE ad T σ j) : (Wd ad T σ).set i (ad i, e) = Wd ad T σ' := by
  apply List.ext_getElem?
  intro j
  rcases Nat.lt_or_ge j 118 with hj | hj
  · by_cases h : j = i
    · subst h
      rw [List.getElem?_set_self (by rw [Wd_len]; exact hj), Wd_get hj, h1]
    · rw [List.getElem?_set_ne (Ne.symm h), Wd_get hj, Wd_get hj, h2 j hj h]
  · rw [List.getElem?_eq_none (by rw [List.length_set, Wd_len]; exact hj), List.getElem?_eq_none (by rw [Wd_len]; exact hj)]
-- cells by families
theorem cE_A {ad : Nat → Nat} {T : Nat → ClassId} {σ : Mem} {n : Nat} (hn : n < 67) : cE ad T σ (12 + n) = .inl (T 0, alen n, .inl (σ.2.1 n)) := by
  have e : 12 + n - 12 = n := by omega
  simp only [cE, if_neg (show ¬ 12 + n < 12 by omega), if_pos (show 12 + n < 79 by omega), e]
theorem cE_Z {ad : Nat → Nat} {T : Nat → ClassId} {σ : Mem} : cE ad T σ (12 + 67) = .inl (T 1, 2, .inl (σ.2.1 67)) := rfl
theorem cE_St {ad : Nat → Nat} {T : Nat → ClassId} {σ : Mem} {k : Nat} (hk : k < 17) : cE ad T σ (80 + k) = .inr (5, [.ref (ad (97 + k)), .ref (ad (12 + (36 + k))), .int (σ.1 (40 + k)), .int (σ.1 (60 + k))]) := by
  have e : 80 + k - 80 = k := by omega
  simp only [cE, if_neg (show ¬ 80 + k < 12 by omega), if_neg (show ¬ 80 + k < 79 by omega), if_neg (show ¬ 80 + k < 80 by omega), if_pos (show 80 + k < 97 by omega), e]
theorem cE_Wy {ad : Nat → Nat} {T : Nat → ClassId} {σ : Mem} {k : Nat} : cE ad T σ (97 + k) = .inr (7, [.ref (ad (12 + (15 + k)))]) := by
  have e : 97 + k - 97 = k := by omega
  simp only [cE, if_neg (show ¬ 97 + k < 12 by omega), if_neg (show ¬ 97 + k < 79 by omega), if_neg (show ¬ 97 + k < 80 by omega), if_neg (show ¬ 97 + k < 97 by omega), e]
-- which cell an int field lies in
def ownI (n : Nat) : Nat := if n < 40 then [1, 2, 2, 3, 3, 4, 7, 7, 7, 8, 8, 8, 8, 8, 118, 118, 118, 118, 118, 118, 11, 11, 11, 11, 11, 11, 11, 11, 11, 11, 11].getD n 118 else if n < 60 then 80 + (n - 40) else 80 + (n - 60)
theorem cE_eq {ad : Nat → Nat} {T : Nat → ClassId} {σ σ' : Mem} {j : Nat} (h1 : ∀ n, ownI n = j → σ'.1 n = σ.1 n) (h2 : 12 ≤ j → σ'.2.1 (j - 12) = σ.2.1 (j - 12)) (h3 : j = 0 → σ'.2.2 0 = σ.2.2 0) (h4 : j = 11 → σ'.2.2 1 = σ.2.2 1) (hj : j < 118) : cE ad T σ' j = cE ad T σ j := by
  rcases Nat.lt_or_ge j 12 with hj2 | hj2
  · have h : j = 0 ∨ j = 1 ∨ j = 2 ∨ j = 3 ∨ j = 4 ∨ j = 5 ∨ j = 6 ∨ j = 7 ∨ j = 8 ∨ j = 9 ∨ j = 10 ∨ j = 11 := by omega
    rcases h with rfl | rfl | rfl | rfl | rfl | rfl | rfl | rfl | rfl | rfl | rfl | rfl
    · show (Sum.inr (10, _) : va_E) = Sum.inr (10, _)
      rw [h3 rfl]
    · show (Sum.inr (6, [_, Value.int (σ'.1 0)]) : va_E) = _
      rw [h1 0 rfl]; rfl
    · show (Sum.inr (3, Value.int (σ'.1 1) :: Value.int (σ'.1 2) :: _) : va_E) = _
      rw [h1 1 rfl, h1 2 rfl]; rfl
    · show (Sum.inr (0, [_, Value.int (σ'.1 3), Value.int (σ'.1 4)]) : va_E) = _
      rw [h1 3 rfl, h1 4 rfl]; rfl
    · show (Sum.inr (2, [_, _, Value.int (σ'.1 5)]) : va_E) = _
      rw [h1 5 rfl]; rfl
    · rfl
    · rfl
    · show (Sum.inr (8, [_, _, _, _, Value.int (σ'.1 6), Value.int (σ'.1 7), Value.int (σ'.1 8)]) : va_E) = _
      rw [h1 6 rfl, h1 7 rfl, h1 8 rfl]; rfl
    · show (Sum.inr (1, [Value.int (σ'.1 9), Value.int (σ'.1 10), Value.int (σ'.1 11), Value.int (σ'.1 12), Value.int (σ'.1 13)]) : va_E) = _
      rw [h1 9 rfl, h1 10 rfl, h1 11 rfl, h1 12 rfl, h1 13 rfl]; rfl
    · rfl
    · rfl
    · simp only [cE, if_pos (show (11 : Nat) < 12 by omega)]
      rw [h1 20 rfl, h1 21 rfl, h1 22 rfl, h1 23 rfl, h1 24 rfl, h1 25 rfl, h1 26 rfl, h1 27 rfl, h1 28 rfl, h1 29 rfl, h1 30 rfl, h4 rfl]
  · have h2 := h2 hj2
    unfold cE
    rw [if_neg (show ¬ j < 12 by omega), if_neg (show ¬ j < 12 by omega)]
    by_cases ha : j < 79
    · rw [if_pos ha, if_pos ha, h2]
    · rw [if_neg ha, if_neg ha]
      by_cases hb : j < 80
      · have : j = 79 := by omega
        subst this
        rw [if_pos hb, if_pos hb]
        rw [show σ'.2.1 67 = σ.2.1 67 from h2]
      · rw [if_neg hb, if_neg hb]
        by_cases hc : j < 97
        · rw [if_pos hc, if_pos hc, h1 (40 + (j - 80)) (by unfold ownI; rw [if_neg (by omega), if_pos (by omega)]; omega), h1 (60 + (j - 80)) (by unfold ownI; rw [if_neg (by omega), if_neg (by omega)]; omega)]
        · rw [if_neg hc, if_neg hc]
theorem cE_sI {ad : Nat → Nat} {T : Nat → ClassId} {σ : Mem} {n : Nat} {v : Int32} {j : Nat} (hj : j < 118) (h : j ≠ ownI n) : cE ad T (sI σ n v) j = cE ad T σ j :=
  cE_eq (fun m hm => if_neg (fun e => h (by rw [← hm, e]))) (fun _ => rfl) (fun _ => rfl) (fun _ => rfl) hj
theorem cE_sF {ad : Nat → Nat} {T : Nat → ClassId} {σ : Mem} {n : Nat} {f : Nat → Int32} {j : Nat} (hj : j < 118) (h : j ≠ 12 + n) : cE ad T (sF σ n f) j = cE ad T σ j :=
  cE_eq (fun _ _ => rfl) (fun h2 => if_neg (fun e => h (by omega))) (fun _ => rfl) (fun _ => rfl) hj
theorem sA_sF (σ : Mem) (n i : Nat) (v : Int32) : sA σ n i v = sF σ n (upd (σ.2.1 n) i v) := rfl
theorem cE_sJ {ad : Nat → Nat} {T : Nat → ClassId} {σ : Mem} {n : Nat} {v : Int64} {j : Nat} (hj : j < 118) (h0 : n = 0 → j ≠ 0) (h1 : n = 1 → j ≠ 11) : cE ad T (sJ σ n v) j = cE ad T σ j :=
  cE_eq (fun _ _ => rfl) (fun _ => rfl) (fun e => if_neg (fun q => h0 q.symm e)) (fun e => if_neg (fun q => h1 q.symm e)) hj
