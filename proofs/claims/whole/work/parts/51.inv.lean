-- the fair as data: horses, riders, figures by kind (0 keeps, 1..3 weighs, 4 speed, 5 age, 6 least of a horse; 7..9 truth, 10 taste of a rider)
abbrev FD : Type := Nat × Nat × (Nat → Nat → Nat)
-- a page: the horse of each rider (9: none), dressed (3r+t), oats
abbrev PD : Type := (Nat → Nat) × (Nat → Nat) × Int32
def ap (g : FD) (r h : Nat) : Int := if g.2.2 10 r = 0 then (g.2.2 4 h : Int) else if g.2.2 10 r = 1 then -(g.2.2 5 h : Int) else if g.2.2 10 r = 2 then (g.2.2 5 h : Int) else -(g.2.2 4 h : Int)
def rl (g : FD) (r a b : Nat) : Bool := decide (ap g r b < ap g r a) || (decide (ap g r a = ap g r b) && decide (a < b))
def cntN (p : Nat → Bool) : Nat → Nat
  | 0 => 0
  | n + 1 => cntN p n + (if p n then 1 else 0)
def rk (g : FD) (r h : Nat) : Nat := cntN (fun x => rl g r x h) g.1
def okG (g : FD) : Prop := g.1 ≤ 4 ∧ g.2.1 ≤ 5 ∧ (∀ h, h < g.1 → 1 ≤ g.2.2 0 h ∧ g.2.2 0 h ≤ 3 ∧ g.2.2 1 h ≤ 3 ∧ g.2.2 2 h ≤ 3 ∧ g.2.2 3 h ≤ 3 ∧ g.2.2 4 h ≤ 9 ∧ g.2.2 5 h ≤ 9 ∧ g.2.2 6 h ≤ 81) ∧ (∀ r, r < g.2.1 → g.2.2 7 r ≤ 9 ∧ g.2.2 8 r ≤ 9 ∧ g.2.2 9 r ≤ 9 ∧ g.2.2 10 r ≤ 3)
def okP (g : FD) (P : PD) : Prop := (∀ r, r < 5 → P.1 r = 9 ∨ (P.1 r < g.1 ∧ r < g.2.1)) ∧ (∀ i, i < 15 → P.2.1 i ≤ 9) ∧ (∀ r t, r < g.2.1 → t < 3 → g.2.2 (7 + t) r + P.2.1 (3 * r + t) ≤ 9)
-- the class's fair, the reference's fair
def CF (g : FD) (σ : Mem) : Prop := σ.1 1 = nI g.1 ∧ σ.1 2 = nI g.2.1 ∧ (∀ h, h < g.1 → σ.2.1 1 h = nI (g.2.2 0 h) ∧ (∀ t, t < 3 → σ.2.1 2 (3 * h + t) = nI (g.2.2 (1 + t) h)) ∧ σ.2.1 3 h = nI (g.2.2 4 h) ∧ σ.2.1 4 h = nI (g.2.2 5 h) ∧ σ.2.1 5 h = nI (g.2.2 6 h)) ∧ (∀ r, r < g.2.1 → (∀ t, t < 3 → σ.2.1 6 (3 * r + t) = nI (g.2.2 (7 + t) r)) ∧ σ.2.1 7 r = nI (g.2.2 10 r)) ∧ (∀ r h, r < g.2.1 → h < g.1 → σ.2.1 8 (4 * r + h) = nI (rk g r h) ∧ σ.2.1 9 (4 * r + rk g r h) = nI h)
def MF (g : FD) (σ : Mem) : Prop := σ.1 23 = nI g.1 ∧ σ.1 24 = nI g.2.1 ∧ (∀ h k, h < g.1 → k < 7 → σ.2.1 54 (7 * h + k) = nI (g.2.2 k h)) ∧ (∀ r k, r < g.2.1 → k < 4 → σ.2.1 55 (4 * r + k) = nI (g.2.2 (7 + k) r))
def CW (k : Nat) (w : Nat → Nat) (σ : Mem) : Prop := ∀ r, r < 5 → σ.2.1 (15 + k) r = hI (w r)
def MW (n : Nat) (w : Nat → Nat) (σ : Mem) : Prop := ∀ r, r < 5 → σ.2.1 n r = hI (w r)
def CP (k : Nat) (P : PD) (σ : Mem) : Prop := CW k P.1 σ ∧ (∀ i, i < 15 → σ.2.1 (36 + k) i = nI (P.2.1 i)) ∧ σ.1 (40 + k) = P.2.2
def MP (n b : Nat) (P : PD) (σ : Mem) : Prop := (∀ r, r < 5 → σ.2.1 n (b + r) = hI (P.1 r)) ∧ (∀ i, i < 15 → σ.2.1 n (b + 5 + i) = nI (P.2.1 i)) ∧ σ.2.1 n (b + 20) = P.2.2
def RT (σ : Mem) : Prop := ∃ n : Nat, n ≤ 64 ∧ σ.1 0 = nI n ∧ σ.1 21 = nI n ∧ ∀ i, i < n → σ.2.1 0 i = σ.2.1 53 i ∧ ∃ b : Nat, b < 256 ∧ σ.2.1 53 i = nI b
def CA (f c : Nat) (Q : Nat → PD) (σ : Mem) : Prop := σ.1 3 = nI f ∧ σ.1 4 = nI c ∧ ∀ j, j < c → CP (1 + (f + j) % 14) (Q j) σ
def MA (c : Nat) (Q : Nat → PD) (σ : Mem) : Prop := σ.1 27 = nI c ∧ ∀ j, j < c → MP 59 (21 * j) (Q j) σ
def RA (g : FD) (σ : Mem) : Prop := ∃ (f c : Nat) (Q : Nat → PD), f < 14 ∧ c ≤ 14 ∧ (∀ j, j < c → okP g (Q j)) ∧ CA f c Q σ ∧ MA c Q σ
def RS (g : FD) (σ : Mem) : Prop := ∀ s, s < 2 → (σ.1 (60 + (15 + s)) = 0 ∧ σ.2.1 67 s = 0) ∨ (σ.1 (60 + (15 + s)) = 1 ∧ σ.2.1 67 s = 1 ∧ ∃ Q, okP g Q ∧ CP (15 + s) Q σ ∧ MP 60 (21 * s) Q σ)
def RC (σ : Mem) : Prop := ∃ c : Nat, c ≤ 6 ∧ σ.1 5 = nI c ∧ σ.1 28 = nI c ∧ ∀ i, i < c → ∃ a b : Nat, a < 5 ∧ b < 5 ∧ σ.2.1 10 i = nI a ∧ σ.2.1 61 i = nI a ∧ σ.2.1 11 i = nI b ∧ σ.2.1 62 i = nI b
def RZ (σ : Mem) : Prop := σ.2.2 0 = σ.2.2 1 ∧ (∀ i, i < 15 → σ.2.1 66 i = 0) ∧ (∀ r, r < 5 → σ.2.1 33 r = -9)
def Rel (g : FD) (P : PD) (σ : Mem) : Prop := okG g ∧ okP g P ∧ CF g σ ∧ MF g σ ∧ CP 0 P σ ∧ MP 58 0 P σ ∧ RT σ ∧ RA g σ ∧ RS g σ ∧ RC σ ∧ RZ σ
def Inv (σ : Mem) : Prop := ∃ g P, Rel g P σ
-- what Inv speaks of
def pI (n : Nat) : Bool := n ≤ 5 || n == 21 || n == 23 || n == 24 || n == 27 || n == 28 || (40 ≤ n && n < 57) || n == 75 || n == 76
def pA (n : Nat) : Bool := n ≤ 11 || (15 ≤ n && n < 32) || n == 33 || (36 ≤ n && n < 56) || (58 ≤ n && n ≤ 62) || n == 66 || n == 67
def Fq (qI qA : Nat → Bool) (qJ : Bool) (σ σ' : Mem) : Prop := (∀ n, qI n = true → σ'.1 n = σ.1 n) ∧ (∀ n, qA n = true → σ'.2.1 n = σ.2.1 n) ∧ (qJ = true → σ'.2.2 = σ.2.2)
theorem Fq_r {qI qA : Nat → Bool} {qJ : Bool} (σ : Mem) : Fq qI qA qJ σ σ := ⟨fun _ _ => rfl, fun _ _ => rfl, fun _ => rfl⟩
theorem Fq_t {qI qA : Nat → Bool} {qJ : Bool} {a b c : Mem} (h : Fq qI qA qJ a b) (k : Fq qI qA qJ b c) : Fq qI qA qJ a c := ⟨fun n hn => (k.1 n hn).trans (h.1 n hn), fun n hn => (k.2.1 n hn).trans (h.2.1 n hn), fun h9 => (k.2.2 h9).trans (h.2.2 h9)⟩
theorem Fq_w {qI qA rI rA : Nat → Bool} {qJ rJ : Bool} {a b : Mem} (h : Fq rI rA rJ a b) (hI : ∀ n, qI n = true → rI n = true) (hA : ∀ n, qA n = true → rA n = true) (hJ : qJ = true → rJ = true) : Fq qI qA qJ a b := ⟨fun n hn => h.1 n (hI n hn), fun n hn => h.2.1 n (hA n hn), fun h9 => h.2.2 (hJ h9)⟩
theorem Fq_sI {qI qA : Nat → Bool} {qJ : Bool} {σ σ' : Mem} {n : Nat} {v : Int32} (h : Fq qI qA qJ σ σ') (hn : qI n = false := by rfl) : Fq qI qA qJ σ (sI σ' n v) := ⟨fun m hm => by
  rw [sI_1, if_neg (fun e => by subst e; rw [hn] at hm; cases hm)]; exact h.1 m hm, h.2.1, h.2.2⟩
theorem Fq_sA {qI qA : Nat → Bool} {qJ : Bool} {σ σ' : Mem} {n i : Nat} {v : Int32} (h : Fq qI qA qJ σ σ') (hn : qA n = false := by rfl) : Fq qI qA qJ σ (sA σ' n i v) := ⟨h.1, fun m hm => by
  rw [sA_2, if_neg (fun e => by subst e; rw [hn] at hm; cases hm)]; exact h.2.1 m hm, h.2.2⟩
theorem Fq_sF {qI qA : Nat → Bool} {qJ : Bool} {σ σ' : Mem} {n : Nat} {f : Nat → Int32} (h : Fq qI qA qJ σ σ') (hn : qA n = false := by rfl) : Fq qI qA qJ σ (sF σ' n f) := ⟨h.1, fun m hm => by
  rw [sF_2, if_neg (fun e => by subst e; rw [hn] at hm; cases hm)]; exact h.2.1 m hm, h.2.2⟩
theorem Fq_sJ {qI qA : Nat → Bool} {σ σ' : Mem} {n : Nat} {v : Int64} (h : Fq qI qA false σ σ') : Fq qI qA false σ (sJ σ' n v) := ⟨h.1, h.2.1, fun h9 => by cases h9⟩
def Fr (σ σ' : Mem) : Prop := Fq pI pA true σ σ'
variable {qI qA : Nat → Bool} {qJ : Bool} {g : FD} {P : PD} {σ σ' : Mem} {k n b : Nat}
theorem CF_fr (h : CF g σ) (f : Fq qI qA qJ σ σ') (q1 : (qI 1 && qI 2 && qA 1 && qA 2 && qA 3 && qA 4 && qA 5 && qA 6 && qA 7 && qA 8 && qA 9) = true := by rfl) : CF g σ' := by
  simp only [Bool.and_eq_true] at q1
  obtain ⟨⟨⟨⟨⟨⟨⟨⟨⟨⟨z1, z2⟩, z3⟩, z4⟩, z5⟩, z6⟩, z7⟩, z8⟩, z9⟩, za⟩, zb⟩ := q1
  unfold CF
  rw [f.1 1 z1, f.1 2 z2, f.2.1 1 z3, f.2.1 2 z4, f.2.1 3 z5, f.2.1 4 z6, f.2.1 5 z7, f.2.1 6 z8, f.2.1 7 z9, f.2.1 8 za, f.2.1 9 zb]; exact h
theorem MF_fr (h : MF g σ) (f : Fq qI qA qJ σ σ') (q1 : (qI 23 && qI 24 && qA 54 && qA 55) = true := by rfl) : MF g σ' := by
  simp only [Bool.and_eq_true] at q1
  obtain ⟨⟨⟨z1, z2⟩, z3⟩, z4⟩ := q1
  unfold MF; rw [f.1 23 z1, f.1 24 z2, f.2.1 54 z3, f.2.1 55 z4]; exact h
theorem CP_fr (h : CP k P σ) (f : Fq qI qA qJ σ σ') (h1 : qA (15 + k) = true := by rfl) (h2 : qA (36 + k) = true := by rfl) (h3 : qI (40 + k) = true := by rfl) : CP k P σ' := by
  unfold CP CW; rw [f.2.1 _ h1, f.2.1 _ h2, f.1 _ h3]; exact h
theorem MP_fr (h : MP n b P σ) (f : Fq qI qA qJ σ σ') (hn : qA n = true := by rfl) : MP n b P σ' := by
  unfold MP; rw [f.2.1 n hn]; exact h
theorem RT_fr (h : RT σ) (f : Fq qI qA qJ σ σ') (q1 : (qI 0 && qI 21 && qA 0 && qA 53) = true := by rfl) : RT σ' := by
  simp only [Bool.and_eq_true] at q1
  obtain ⟨⟨⟨z1, z2⟩, z3⟩, z4⟩ := q1
  unfold RT; rw [f.1 0 z1, f.1 21 z2, f.2.1 0 z3, f.2.1 53 z4]; exact h
def qcc (qI qA : Nat → Bool) (a e : Nat) : Bool := (List.range e).all (fun k => k < a || (qA (15 + k) && qA (36 + k) && qI (40 + k)))
theorem qcc_u {a e k : Nat} (h : qcc qI qA a e = true) (h1 : a ≤ k) (h2 : k < e) : qA (15 + k) = true ∧ qA (36 + k) = true ∧ qI (40 + k) = true := by
  have h3 := List.all_eq_true.mp h k (List.mem_range.mpr h2)
  simp only [Bool.or_eq_true, Bool.and_eq_true, decide_eq_true_eq] at h3
  rcases h3 with h3 | h3
  · omega
  · exact ⟨h3.1.1, h3.1.2, h3.2⟩
theorem CA_fr {f c : Nat} {Q : Nat → PD} (h : CA f c Q σ) (f1 : Fq qI qA qJ σ σ') (q1 : (qI 3 && qI 4 && qcc qI qA 1 15) = true := by rfl) : CA f c Q σ' := by
  simp only [Bool.and_eq_true] at q1
  obtain ⟨⟨z1, z2⟩, z5⟩ := q1
  obtain ⟨h3, h4, h6⟩ := h
  refine ⟨by rw [f1.1 3 z1]; exact h3, by rw [f1.1 4 z2]; exact h4, fun j hj => ?_⟩
  have hk := qcc_u z5 (k := 1 + (f + j) % 14) (by omega) (by omega)
  exact CP_fr (h6 j hj) f1 hk.1 hk.2.1 hk.2.2
theorem MA_fr {c : Nat} {Q : Nat → PD} (h : MA c Q σ) (f1 : Fq qI qA qJ σ σ') (q1 : (qI 27 && qA 59) = true := by rfl) : MA c Q σ' := by
  simp only [Bool.and_eq_true] at q1
  exact ⟨by rw [f1.1 27 q1.1]; exact h.1, fun j hj => MP_fr (h.2 j hj) f1 q1.2⟩
theorem RA_fr (h : RA g σ) (f : Fq qI qA qJ σ σ') (q1 : (qI 27 && qA 59 && (qI 3 && qI 4 && qcc qI qA 1 15)) = true := by rfl) : RA g σ' := by
  have q2 : (qI 27 && qA 59) = true := by simp only [Bool.and_eq_true] at q1 ⊢; exact q1.1
  have q3 : (qI 3 && qI 4 && qcc qI qA 1 15) = true := by simp only [Bool.and_eq_true] at q1 ⊢; exact q1.2
  obtain ⟨a, c, Q, h1, h2, h3, h4, h5⟩ := h
  exact ⟨a, c, Q, h1, h2, h3, CA_fr h4 f q3, MA_fr h5 f q2⟩
theorem RS_fr (h : RS g σ) (f : Fq qI qA qJ σ σ') (q1 : (qI 75 && qI 76 && qA 60 && qA 67 && qcc qI qA 15 17) = true := by rfl) : RS g σ' := by
  simp only [Bool.and_eq_true] at q1
  obtain ⟨⟨⟨⟨z1, z2⟩, z3⟩, z4⟩, z5⟩ := q1
  intro s hs
  have e1 : σ'.1 (60 + (15 + s)) = σ.1 (60 + (15 + s)) := f.1 _ (by rcases s with _|_|s <;> first | exact z1 | exact z2 | omega)
  have hk := qcc_u z5 (k := 15 + s) (by omega) (by omega)
  rw [e1, f.2.1 67 z4]
  rcases h s hs with h1 | ⟨h1, h2, Q, q1, q2, q3⟩
  · exact .inl h1
  · exact .inr ⟨h1, h2, Q, q1, CP_fr q2 f hk.1 hk.2.1 hk.2.2, MP_fr q3 f z3⟩
theorem RC_fr (h : RC σ) (f : Fq qI qA qJ σ σ') (q1 : (qI 5 && qI 28 && qA 10 && qA 61 && qA 11 && qA 62) = true := by rfl) : RC σ' := by
  simp only [Bool.and_eq_true] at q1
  obtain ⟨⟨⟨⟨⟨z1, z2⟩, z3⟩, z4⟩, z5⟩, z6⟩ := q1
  unfold RC; rw [f.1 5 z1, f.1 28 z2, f.2.1 10 z3, f.2.1 61 z4, f.2.1 11 z5, f.2.1 62 z6]; exact h
theorem RZ_fr (h : RZ σ) (f : Fq qI qA true σ σ') (q1 : (qA 66 && qA 33) = true := by rfl) : RZ σ' := by
  simp only [Bool.and_eq_true] at q1
  unfold RZ; rw [f.2.2 rfl, f.2.1 66 q1.1, f.2.1 33 q1.2]; exact h
theorem Rel_fr (h : Rel g P σ) (f : Fr σ σ') : Rel g P σ' := by
  obtain ⟨a, b, c, d, e, i, j, k, l, m, z⟩ := h
  exact ⟨a, b, CF_fr c f, MF_fr d f, CP_fr e f, MP_fr i f, RT_fr j f, RA_fr k f, RS_fr l f, RC_fr m f, RZ_fr z f⟩
theorem Inv_fr (h : Inv σ) (f : Fr σ σ') : Inv σ' := by
  obtain ⟨g, P, h⟩ := h
  exact ⟨g, P, Rel_fr h f⟩
-- at first
theorem Inv_0 : Inv mem0 := by
  refine ⟨(0, 0, fun _ _ => 0), (fun _ => 9, fun _ => 0, 0), ⟨Nat.zero_le _, Nat.zero_le _, fun h hh => absurd hh (Nat.not_lt_zero _), fun h hh => absurd hh (Nat.not_lt_zero _)⟩, ⟨fun r _ => .inl rfl, fun i _ => by simp, fun r t hr => absurd hr (Nat.not_lt_zero _)⟩, ⟨rfl, rfl, fun h hh => absurd hh (Nat.not_lt_zero _), fun h hh => absurd hh (Nat.not_lt_zero _), fun r h hr => absurd hr (Nat.not_lt_zero _)⟩, ⟨rfl, rfl, fun h k hh => absurd hh (Nat.not_lt_zero _), fun h k hh => absurd hh (Nat.not_lt_zero _)⟩, ⟨?_, ?_, rfl⟩, ⟨?_, ?_, rfl⟩, ⟨0, by omega, rfl, rfl, fun i hi => absurd hi (Nat.not_lt_zero _)⟩, ⟨0, 0, fun _ => (fun _ => 9, fun _ => 0, 0), by omega, by omega, fun j hj => absurd hj (Nat.not_lt_zero _), ⟨rfl, rfl, fun j hj => absurd hj (Nat.not_lt_zero _)⟩, ⟨rfl, fun j hj => absurd hj (Nat.not_lt_zero _)⟩⟩, fun s hs => .inl ⟨rfl, rfl⟩, ⟨0, by omega, rfl, rfl, fun i hi => absurd hi (Nat.not_lt_zero _)⟩, ⟨rfl, fun i _ => rfl, ?_⟩⟩
  · intro r hr; rcases r with _|_|_|_|_|r <;> first | rfl | omega
  · intro i hi; rfl
  · intro r hr; rcases r with _|_|_|_|_|r <;> first | rfl | omega
  · intro i hi; rcases i with _|_|_|_|_|_|_|_|_|_|_|_|_|_|_|i <;> first | rfl | omega
  · intro r hr; rcases r with _|_|_|_|_|r <;> first | rfl | omega
