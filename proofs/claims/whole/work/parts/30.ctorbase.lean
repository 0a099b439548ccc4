-- constructors: worlds are lists of cells; a new cell comes last
def AC (U : State) : Prop := (Cond.arrayClass .int).before #[] U = true ∧ (Cond.arrayClass .boolean).before #[] U = true ∧ va_AO "HorsesChoose$State" U
theorem AC_warm {s U : State} (hW : s.WarmedH U.vm) (h : AC s) : AC U := ⟨word_at hW (Or.inr ⟨_, rfl⟩) h.1, word_at hW (Or.inr ⟨_, rfl⟩) h.2.1, h.2.2.moved hW.alike⟩
def Cy (p : Program) (s : State) (m : MethodId) (c : Code) (cc : ByteArray) (nL : Nat) (own : String) (A : Nat → Prop) (D : va_G) (T : Nat → ClassId) : Prop :=
  p.tables.exec = Jvm.exec ∧ c.code = cc ∧ c.maxLocals = nL ∧ s.vm.findClass own = some m.cls ∧ TW s ∧ va_K D vwCl (tyL T) s ∧ (∀ q, s.heap.size ≤ q → A q) ∧ AC s
def Uj (p : Program) (l : Launch) (e : Env) (R : Room) (s : State) (m : MethodId) (args : Array Value) (below : List Frame) (meth : Method) (c : Code) (Q : State → Prop) (nL : Nat) (A : Nat → Prop) (D : va_G) (cs ss : Nat) (ws : va_W) (pc : Nat) (lv : List (Nat × Value)) (st : List Value) : Prop :=
  ∀ (H : Heap) (locs : List Loc) (ls : Array Slot), va_P D vwCl ws H → va_D A ws → va_S A s.heap H locs → lv_has ls nL lv → W p l e R s m args below meth c H locs cs ss Q (F0 m pc ls st)
def pN (av : List Value) (w0 : va_W) (D : va_G) (T : Nat → ClassId) (sz : Nat) : Array Value → State → Prop := va_Pc av (fun U => U.heap.size = sz ∧ TW U ∧ AC U ∧ va_P D vwCl w0 U.heap ∧ va_K D vwCl (tyL T) U ∧ va_D (fun _ => True) w0)
def qN (B : va_W → Prop) (w0 : va_W) (D : va_G) (T : Nat → ClassId) (sz : Nat) : Array Value → State → Outcome → State → Prop := fun _ st oc t => (oc = .returned none ∧ ∃ w1, B w1 ∧ va_P D vwCl w1 t.heap ∧ va_K D vwCl (tyL T) t ∧ va_D (va_A w0 sz) w1) ∧ va_F (va_A w0 sz) st t
theorem pN_blind {av : List Value} {w0 : va_W} {D : va_G} {T : Nat → ClassId} {sz : Nat} : FrameBlind (pN av w0 D T sz) := fun a U g mk h =>
  ⟨h.1, h.2.1, TW_same (u := U) (U := U.calling g mk a) rfl h.2.2.1, ⟨h.2.2.2.1.1, h.2.2.2.1.2.1, h.2.2.2.1.2.2⟩, h.2.2.2.2.1, va_K.moved (u := U) (U := U.calling g mk a) (Vm.Alike.refl U.vm) h.2.2.2.2.2.1, h.2.2.2.2.2.2⟩
/-- a constructor's contract: over the cells w0 it returns, with mc new cells of ms slots; the cells are then some w1 with B w1 -/
def CtN (y : MethodName) (cc : ByteArray) (nL : Nat) (fr lo mc ms : Nat) (av : List Value) (w0 : va_W) (B : va_W → Prop) (D : va_G) (T : Nat → ClassId) : Prop :=
  ∀ (l : Launch) (sz : Nat), Met l y [.code y cc nL none] { frames := fr, cells := mc, slots := ms, locals := lo } (pN av w0 D T sz) (qN B w0 D T sz) mc ms (va_A w0 sz)
theorem join_last {A0 : Nat → Prop} {D : va_G} {cl : List vw_C} {rs wc w1 : va_W} {H H1 : Heap} (hP : va_P D cl (rs ++ wc) H) (hD : va_D A0 (rs ++ wc)) (hk : ∀ q : Nat, q < H.size → ¬ va_A wc H.size q → H1[q]? = H[q]?) (hF : ∀ q, va_A wc H.size q → A0 q) (hP1 : va_P D cl w1 H1) (hD1 : va_D (va_A wc H.size) w1) : va_P D cl (rs ++ w1) H1 ∧ va_D A0 (rs ++ w1) := by
  have hl : ∀ (k : Nat) (q : Nat × va_E), rs[k]? = some q → (rs ++ wc)[k]? = some q := fun k q hq => by
    rw [List.getElem?_append_left (List.getElem?_eq_some_iff.mp hq).1]
    exact hq
  have hrs : ∀ (k : Nat) (q : Nat × va_E), rs[k]? = some q → q.1 < H.size ∧ ¬ va_A wc H.size q.1 := by
    intro k q hq
    have h1 := hl k q hq
    have hlt := (hP k q h1).lt
    refine ⟨hlt, fun h => ?_⟩
    rcases h with ⟨k2, e, h⟩ | h
    · have h2 : (rs ++ wc)[rs.length + k2]? = some (q.1, e) := by
        rw [List.getElem?_append_right (Nat.le_add_right _ _), Nat.add_sub_cancel_left]
        exact h
      have h3 := hD.1 k _ q _ h1 h2 rfl
      have h4 := (List.getElem?_eq_some_iff.mp hq).1
      omega
    · omega
  refine ⟨va_P.app (fun k q hq => ?_) hP1, va_D.app ⟨fun i j x y hi hj hxy => hD.1 i j x y (hl i x hi) (hl j y hj) hxy, fun k q hk => hD.2 k q (hl k q hk)⟩ (hD1.weaken (fun k q _ h => hF q.1 h)) (fun i j x y hx hy hxy => ?_)⟩
  · obtain ⟨g1, g2⟩ := hrs k q hq
    exact (hP k q (hl k q hq)).kept (hk q.1 g1 g2)
  · exact (hrs i x hx).2 (by rw [hxy]; exact hD1.2 j y hy)
theorem right_P {D : va_G} {cl : List vw_C} {rs wc : va_W} {H : Heap} (hP : va_P D cl (rs ++ wc) H) : va_P D cl wc H := fun k q hq => hP (rs.length + k) q (by
  rw [List.getElem?_append_right (Nat.le_add_right _ _), Nat.add_sub_cancel_left]
  exact hq)
theorem right_D {A : Nat → Prop} {rs wc : va_W} (hD : va_D A (rs ++ wc)) : va_D A wc := by
  have h : ∀ (k : Nat) (q : Nat × va_E), wc[k]? = some q → (rs ++ wc)[rs.length + k]? = some q := fun k q hq => by
    rw [List.getElem?_append_right (Nat.le_add_right _ _), Nat.add_sub_cancel_left]
    exact hq
  refine ⟨fun i j x y hi hj hxy => ?_, fun k q hk => hD.2 _ q (h k q hk)⟩
  have := hD.1 _ _ x y (h i x hi) (h j y hj) hxy
  omega
theorem K_id {D : va_G} {T : Nat → ClassId} {s : State} {cA : ClassId} {ty : FieldType} (i : Nat) (hi : (tyL T)[i]? = some (T i, ty)) (hty : (∀ C, ty ≠ .object C) ∨ ∃ C, ty = .object C) (h : va_K D vwCl (tyL T ++ [(cA, ty)]) s) : cA = T i := by
  have hl := (List.getElem?_eq_some_iff.mp hi).1
  have h1 := (h.2 i (T i, ty) (by rw [List.getElem?_append_left hl]; exact hi)).2
  have h2 := (h.2 (tyL T).length (cA, ty) (by rw [List.getElem?_append_right (Nat.le_refl _), Nat.sub_self]; rfl)).2
  rcases hty with hty | ⟨C, rfl⟩
  · cases ty with
    | object C => exact absurd rfl (hty C)
    | _ => exact Option.some.inj (Eq.trans (Eq.symm h2) h1)
  · obtain ⟨_, _, _, _, _, e1⟩ := h1
    obtain ⟨_, _, _, _, _, e2⟩ := h2
    exact Option.some.inj (e2.symm.trans e1)
theorem CtN_of {y : MethodName} {cc : ByteArray} {nL fr lo mc ms : Nat} {av : List Value} {w0 : va_W} {B : va_W → Prop} {D : va_G} {T : Nat → ClassId} {lv : List (Nat × Value)} (hp : plainName y.cls = true) (hlv : lv_args 0 av = lv) (hln : (lg_sl av).length ≤ nL)
    (w : ∀ (p : Program) (l : Launch) (e : Env) (s : State) (m : MethodId) (args : Array Value) (below : List Frame) (meth : Method) (c : Code) (A : Nat → Prop), (∀ q, A q ↔ va_A w0 s.heap.size q) → Cy p s m c cc nL y.cls A D T → meth.sig.returnType = none → meth.locks = false → (y.name = "<init>" → meth.name = "<init>") →
      Uj p l e { frames := fr, cells := mc, slots := ms, locals := lo } s m args below meth c (MQ below (qN B w0 D T s.heap.size) args s mc ms A) nL A D 0 0 w0 0 lv []) : CtN y cc nL fr lo mc ms av w0 B D T := by
  intro l sz
  refine Met.ofW (cc := cc) (maxL := nL) (ret := none) hp rfl ?_
  intro p e s m args below meth c s₁ B0 hml hv
  obtain ⟨rfl, rfl, hT, hC, hP, hK, hD0⟩ := hv
  have hl := lv_entry av (n := nL) hln
  rw [lg_entry_eq]
  rw [hlv] at hl
  exact w p l e s m av.toArray below meth c (va_A w0 s.heap.size) (fun _ => Iff.rfl) ⟨B0.exec, B0.bytes, hml, findClass_of_methodNamed B0.named, hT, hK, fun q h => Or.inr h, hC⟩ B0.returns B0.notSynchronized (fun hn => (name_of_methodNamed B0.named B0.method).1.trans hn) s.heap [] _ hP hD0.self va_S.rf hl
section CTOR
variable {p : Program} {l : Launch} {e : Env} {R : Room} {s : State} {m : MethodId} {args : Array Value} {below : List Frame} {meth : Method} {c : Code} {cs ss : Nat} {Q : State → Prop} {nL : Nat} {A : Nat → Prop} {D : va_G} {T : Nat → ClassId} {ws ws' rs wc : va_W} {pc : Nat} {lv lv' : List (Nat × Value)} {st rest : List Value} {cc : ByteArray} {own : String}
theorem U_iconst (C : Cy p s m c cc nL own A D T) {n : Int} {v : Int32} (d : decode cc pc = .ok (.iconst n, 1)) (hv : Int32.ofInt n = v) (k : Uj p l e R s m args below meth c Q nL A D cs ss ws (pc + 1) lv (.int v :: st)) : Uj p l e R s m args below meth c Q nL A D cs ss ws pc lv (st) := fun H locs ls hP hD hS hl => lv_iconst C.1 C.2.1 d hv (k H locs ls hP hD hS hl)
theorem U_bipush (C : Cy p s m c cc nL own A D T) {n : Int} {v : Int32} (d : decode cc pc = .ok (.bipush n, 2)) (hv : (Int8.ofInt n).toInt32 = v) (k : Uj p l e R s m args below meth c Q nL A D cs ss ws (pc + 2) lv (.int v :: st)) : Uj p l e R s m args below meth c Q nL A D cs ss ws pc lv (st) := fun H locs ls hP hD hS hl => lv_bipush C.1 C.2.1 d hv (k H locs ls hP hD hS hl)
theorem U_sipush (C : Cy p s m c cc nL own A D T) {n : Int} {v : Int32} (d : decode cc pc = .ok (.sipush n, 3)) (hv : (Int16.ofInt n).toInt32 = v) (k : Uj p l e R s m args below meth c Q nL A D cs ss ws (pc + 3) lv (.int v :: st)) : Uj p l e R s m args below meth c Q nL A D cs ss ws pc lv (st) := fun H locs ls hP hD hS hl => lv_sipush C.1 C.2.1 d hv (k H locs ls hP hD hS hl)
theorem U_lconst (C : Cy p s m c cc nL own A D T) {n : Fin 2} {v : Int64} (d : decode cc pc = .ok (.lconst n, 1)) (hv : Int64.ofNat (n : Nat) = v) (k : Uj p l e R s m args below meth c Q nL A D cs ss ws (pc + 1) lv (.long v :: st)) : Uj p l e R s m args below meth c Q nL A D cs ss ws pc lv (st) := fun H locs ls hP hD hS hl => lv_lconst C.1 C.2.1 d hv (k H locs ls hP hD hS hl)
theorem U_iload_n (C : Cy p s m c cc nL own A D T) {k : Fin 4} {x : Int32} (j : Nat) (d : decode cc pc = .ok (.iload_n k, 1)) (hj : lv[j]? = some ((k : Nat), .int x)) (k : Uj p l e R s m args below meth c Q nL A D cs ss ws (pc + 1) lv (.int x :: st)) : Uj p l e R s m args below meth c Q nL A D cs ss ws pc lv (st) := fun H locs ls hP hD hS hl => lv_iload_n C.1 C.2.1 d rfl (lv_at hl j hj) (k H locs ls hP hD hS hl)
theorem U_aload_n (C : Cy p s m c cc nL own A D T) {k : Fin 4} {x : Nat} (j : Nat) (d : decode cc pc = .ok (.aload_n k, 1)) (hj : lv[j]? = some ((k : Nat), .ref x)) (k : Uj p l e R s m args below meth c Q nL A D cs ss ws (pc + 1) lv (.ref x :: st)) : Uj p l e R s m args below meth c Q nL A D cs ss ws pc lv (st) := fun H locs ls hP hD hS hl => lv_aload_n C.1 C.2.1 d rfl (lv_at hl j hj) (k H locs ls hP hD hS hl)
theorem U_istore_n (C : Cy p s m c cc nL own A D T) {k : Fin 4} {i : Nat} {x : Int32} (d : decode cc pc = .ok (.istore_n k, 1)) (hi : (k : Nat) = i) (hn : i < nL) (hv : (i, Value.int x) :: lv.filter (fun q => !(q.1 == i) && !(q.1 + 1 == i && q.2.category == 2)) = lv') (k : Uj p l e R s m args below meth c Q nL A D cs ss ws (pc + 1) lv' st) : Uj p l e R s m args below meth c Q nL A D cs ss ws pc lv (.int x :: st) := fun H locs ls hP hD hS hl => lv_istore_n C.1 C.2.1 d hi hl hn hv (fun ls2 hl2 => k H locs ls2 hP hD hS hl2)
theorem U_astore_n (C : Cy p s m c cc nL own A D T) {k : Fin 4} {i : Nat} {x : Nat} (d : decode cc pc = .ok (.astore_n k, 1)) (hi : (k : Nat) = i) (hn : i < nL) (hv : (i, Value.ref x) :: lv.filter (fun q => !(q.1 == i) && !(q.1 + 1 == i && q.2.category == 2)) = lv') (k : Uj p l e R s m args below meth c Q nL A D cs ss ws (pc + 1) lv' st) : Uj p l e R s m args below meth c Q nL A D cs ss ws pc lv (.ref x :: st) := fun H locs ls hP hD hS hl => lv_astore_n C.1 C.2.1 d hi hl hn hv (fun ls2 hl2 => k H locs ls2 hP hD hS hl2)
theorem U_iinc (C : Cy p s m c cc nL own A D T) {i : Nat} {n : Int} {x v : Int32} (j : Nat) (d : decode cc pc = .ok (.iinc i n, 3)) (hj : lv[j]? = some (i, .int x)) (hx : x + Int32.ofInt n = v) (hn : i < nL) (hv : (i, Value.int v) :: lv.filter (fun q => !(q.1 == i) && !(q.1 + 1 == i && q.2.category == 2)) = lv') (k : Uj p l e R s m args below meth c Q nL A D cs ss ws (pc + 3) lv' st) : Uj p l e R s m args below meth c Q nL A D cs ss ws pc lv st := fun H locs ls hP hD hS hl => lv_iinc C.1 C.2.1 d hl hj hx hn hv (fun ls2 hl2 => k H locs ls2 hP hD hS hl2)
theorem U_dup (C : Cy p s m c cc nL own A D T) {va : Value} (d : decode cc pc = .ok (.dup, 1)) (hva : va.category = 1) (k : Uj p l e R s m args below meth c Q nL A D cs ss ws (pc + 1) lv (va :: va :: st)) : Uj p l e R s m args below meth c Q nL A D cs ss ws pc lv (va :: st) := fun H locs ls hP hD hS hl => lv_dup C.1 C.2.1 d hva (k H locs ls hP hD hS hl)
theorem U_goto (C : Cy p s m c cc nL own A D T) {off : Int} (tgt : Nat) (d : decode cc pc = .ok (.goto off, 3)) (ht : (pc : Int) + off = (tgt : Int)) (k : Uj p l e R s m args below meth c Q nL A D cs ss ws tgt lv st) : Uj p l e R s m args below meth c Q nL A D cs ss ws pc lv st := fun H locs ls hP hD hS hl => lv_goto C.1 C.2.1 d ht (k H locs ls hP hD hS hl)
theorem U_icmp_ge (C : Cy p s m c cc nL own A D T) {x y : Int32} {off : Int} (tgt : Nat) (d : decode cc pc = .ok (.if_icmp .ge off, 3)) (ht : (pc : Int) + off = (tgt : Int)) (kt : y ≤ x → Uj p l e R s m args below meth c Q nL A D cs ss ws tgt lv st) (kf : ¬ y ≤ x → Uj p l e R s m args below meth c Q nL A D cs ss ws (pc + 3) lv st) : Uj p l e R s m args below meth c Q nL A D cs ss ws pc lv (.int y :: .int x :: st) := fun H locs ls hP hD hS hl => lv_icmp_ge C.1 C.2.1 d ht (fun h => kt h H locs ls hP hD hS hl) (fun h => kf h H locs ls hP hD hS hl)
theorem U_lv {ks : List Nat} (hk : lv_pick lv ks = lv') (k : Uj p l e R s m args below meth c Q nL A D cs ss ws pc lv' st) : Uj p l e R s m args below meth c Q nL A D cs ss ws pc lv st := fun H locs ls hP hD hS hl => k H locs ls hP hD hS (lv_sub hl ks hk)
theorem U_ws (h : ws = ws') (k : Uj p l e R s m args below meth c Q nL A D cs ss ws' pc lv st) : Uj p l e R s m args below meth c Q nL A D cs ss ws pc lv st := h ▸ k
theorem U_wide {c2 s2 : Nat} (h1 : cs ≤ c2) (h2 : ss ≤ s2) (k : Uj p l e R s m args below meth c Q nL A D c2 s2 ws pc lv st) : Uj p l e R s m args below meth c Q nL A D cs ss ws pc lv st := fun H locs ls hP hD hS hl => W.widen h1 h2 (k H locs ls hP hD hS hl)
theorem U_mid {x y : Nat × va_E} (k : Uj p l e R s m args below meth c Q nL A D cs ss (x :: y :: rs) pc lv st) : Uj p l e R s m args below meth c Q nL A D cs ss (x :: (rs ++ [y])) pc lv st := fun H locs ls hP hD hS hl => by
  have key : ∀ (i : Nat) (q : Nat × va_E), (x :: y :: rs)[i]? = some q → (x :: (rs ++ [y]))[if i = 0 then 0 else if i = 1 then rs.length + 1 else i - 1]? = some q := by
    intro i q hq
    match i, hq with
    | 0, hq => exact hq
    | 1, hq =>
      rw [if_neg (by omega), if_pos rfl, List.getElem?_cons_succ, List.getElem?_append_right (Nat.le_refl _), Nat.sub_self]
      exact hq
    | i + 2, hq =>
      rw [if_neg (by omega), if_neg (by omega), show i + 2 - 1 = i + 1 by omega, List.getElem?_cons_succ]
      have hq2 : rs[i]? = some q := hq
      rw [List.getElem?_append_left (List.getElem?_eq_some_iff.mp hq2).1]
      exact hq2
  refine k H locs ls (fun i q hq => hP _ q (key i q hq)) ⟨fun i j a b hi hj hab => ?_, fun i q hq => hD.2 _ q (key i q hq)⟩ hS hl
  have h1 := (List.getElem?_eq_some_iff.mp hi).1
  have h2 := (List.getElem?_eq_some_iff.mp hj).1
  simp only [List.length_cons] at h1 h2
  have := hD.1 _ _ a b (key i a hi) (key j b hj) hab
  split at this <;> split at this <;> (try split at this) <;> (try split at this) <;> omega
theorem U_obj (C : Cy p s m c cc nL own A D T) {idx : Nat} {a : Nat} (hl0 : Cond.methodLink own idx objectInit ∈ TB) (hi0 : Cond.instanceMethod objectInit ∈ TB) (hc0 : Cond.code objectInit ⟨#[0xb1]⟩ 1 none ∈ TB) (hR : 1 ≤ R.frames ∧ (st.map fun v => v.category).sum + 12 ≤ R.locals) (d : decode cc pc = .ok (.invokespecial idx, 3)) (k : Uj p l e R s m args below meth c Q nL A D cs ss ws (pc + 3) lv st) : Uj p l e R s m args below meth c Q nL A D cs ss ws pc lv (.ref a :: st) := fun H locs ls hP hD hS hl => by
  refine W.objInit C.1 C.2.1 C.2.2.2.1 (TW_use C.2.2.2.2.1 hl0 args) (TW_use C.2.2.2.2.1 hi0 args) (TW_use C.2.2.2.2.1 hc0 args) rfl (by rw [C.2.2.1]; exact hl.1) rfl d hR.1 (by have := hR.2; show 2 * 0 + _ + 12 ≤ _; omega) ?_
  exact W.eq (g2 := F0 m (pc + 3) ls st) rfl (k H locs ls hP hD hS hl)
theorem U_new (C : Cy p s m c cc nL own A D T) {idx ci N : Nat} {Cn : String} {Tt : u_T} {fs : List Value} (hc : vwCl[ci]? = some (Cn, Tt, N)) (hin : ∀ w ∈ u_ws Cn Tt N, w ∈ TB) (ty : Nat → FieldType) (hty : ∀ k, k < N → parseFieldDescriptor (Tt k).2.2.1 = some (ty k)) (hk : Cond.classLink own idx Cn ∈ TB) (hi : Cond.instantiable Cn N ∈ TB) (hn : Cond.initialized Cn ∈ TB) (hfs : ∀ j, j < N → defaultValue (ty j) = vp_V fs j) (h1 : cs + 1 ≤ R.cells) (h2 : ss + N ≤ R.slots) (d : decode cc pc = .ok (.new idx, 3)) (k : ∀ q : Nat, Uj p l e R s m args below meth c Q nL A D (cs + 1) (ss + N) (ws ++ [(q, .inr (ci, fs))]) (pc + 3) lv (.ref q :: st)) : Uj p l e R s m args below meth c Q nL A D cs ss ws pc lv st := fun H locs ls hP hD hS hl =>
  va_new C.1 C.2.1 (Ts := TB) (fun w hw => TW_use C.2.2.2.2.1 hw args) hin ty hty C.2.2.2.1 (TW_use C.2.2.2.2.1 hk args) (TW_use C.2.2.2.2.1 hi args) (TW_use C.2.2.2.2.1 hn args) C.2.2.2.2.2.1 hP hD hS C.2.2.2.2.2.2.1 hc hfs h1 h2 d (fun q H1 hP1 hD1 hS1 => k q H1 locs ls hP1 hD1 hS1 hl)
theorem U_newI (C : Cy p s m c cc nL own A D T) {n : Int32} {N : Nat} (hn : ¬ n < 0) (hN : n.toNatClampNeg = N) (hb : N * 4 ≤ 536870912) (h1 : cs + 1 ≤ R.cells) (h2 : ss + N ≤ R.slots) (d : decode cc pc = .ok (.newarray .int, 2)) (k : ∀ q : Nat, Uj p l e R s m args below meth c Q nL A D (cs + 1) (ss + N) (ws ++ [(q, .inl (T 0, N, .inl (fun _ => 0)))]) (pc + 2) lv (.ref q :: st)) : Uj p l e R s m args below meth c Q nL A D cs ss ws pc lv (.int n :: st) := fun H locs ls hP hD hS hl =>
  va_newa (atype := .int) (args := args) C.1 C.2.1 (show (Cond.arrayClass .int).before args s = true from C.2.2.2.2.2.2.2.1) (ty := .int) rfl C.2.2.2.2.2.1 hP hD hS C.2.2.2.2.2.2.1 (a0 := (N, .inl (fun _ => 0))) (fun _ => rfl) hn hN hb h1 h2 d (fun q cA H1 hK1 hP1 hD1 hS1 => by
    have e := K_id 0 rfl (Or.inl (fun C h => by cases h)) hK1
    rw [e] at hP1 hD1
    exact k q H1 locs ls hP1 hD1 hS1 hl)
theorem U_newZ (C : Cy p s m c cc nL own A D T) {n : Int32} {N : Nat} (hn : ¬ n < 0) (hN : n.toNatClampNeg = N) (hb : N * 1 ≤ 536870912) (h1 : cs + 1 ≤ R.cells) (h2 : ss + N ≤ R.slots) (d : decode cc pc = .ok (.newarray .boolean, 2)) (k : ∀ q : Nat, Uj p l e R s m args below meth c Q nL A D (cs + 1) (ss + N) (ws ++ [(q, .inl (T 1, N, .inl (fun _ => 0)))]) (pc + 2) lv (.ref q :: st)) : Uj p l e R s m args below meth c Q nL A D cs ss ws pc lv (.int n :: st) := fun H locs ls hP hD hS hl =>
  va_newa (atype := .boolean) (args := args) C.1 C.2.1 (show (Cond.arrayClass .boolean).before args s = true from C.2.2.2.2.2.2.2.2.1) (ty := .boolean) rfl C.2.2.2.2.2.1 hP hD hS C.2.2.2.2.2.2.1 (a0 := (N, .inl (fun _ => 0))) (fun _ => rfl) hn hN hb h1 h2 d (fun q cA H1 hK1 hP1 hD1 hS1 => by
    have e := K_id 1 rfl (Or.inl (fun C h => by cases h)) hK1
    rw [e] at hP1 hD1
    exact k q H1 locs ls hP1 hD1 hS1 hl)
theorem U_newS (C : Cy p s m c cc nL own A D T) {idx : Nat} {n : Int32} {N : Nat} (hk : Cond.classLink own idx "HorsesChoose$State" ∈ TB) (hn : ¬ n < 0) (hN : n.toNatClampNeg = N) (hb : N * 4 ≤ 536870912) (h1 : cs + 1 ≤ R.cells) (h2 : ss + N ≤ R.slots) (d : decode cc pc = .ok (.anewarray idx, 3)) (k : ∀ q : Nat, Uj p l e R s m args below meth c Q nL A D (cs + 1) (ss + N) (ws ++ [(q, .inl (T 2, N, .inr (.inr (.inr (.inr (fun _ => none))))))]) (pc + 3) lv (.ref q :: st)) : Uj p l e R s m args below meth c Q nL A D cs ss ws pc lv (.int n :: st) := fun H locs ls hP hD hS hl =>
  va_newq C.1 C.2.1 C.2.2.2.1 (TW_use C.2.2.2.2.1 hk args) C.2.2.2.2.2.2.2.2.2 C.2.2.2.2.2.1 hP hD hS C.2.2.2.2.2.2.1 hn hN hb h1 h2 d (fun q cA H1 hK1 hP1 hD1 hS1 => by
    have e := K_id 2 rfl (Or.inr ⟨_, rfl⟩) hK1
    rw [e] at hP1 hD1
    exact k q H1 locs ls hP1 hD1 hS1 hl)
theorem U_putF (C : Cy p s m c cc nL own A D T) {idx ci N kf : Nat} {Cn ref : String} {Tt : u_T} {fs : List Value} {a : Nat} {v : Value} {ty : FieldType} (hc : vwCl[ci]? = some (Cn, Tt, N)) (hin : ∀ w ∈ u_ws Cn Tt N, w ∈ TB) (ty0 : Nat → FieldType) (hty : ∀ k, k < N → parseFieldDescriptor (Tt k).2.2.1 = some (ty0 k)) (hnm : ∀ a, a < N → ∀ b, b < N → a ≠ b → (Tt a).2.1 ≠ (Tt b).2.1) (hk : kf < N) (hl0 : Cond.fieldLink own idx ref (Tt kf).2.1 (Tt kf).2.2.1 ∈ TB) (hr : (Tt kf).1 = ref) (hfin : (Tt kf).2.2.2 = true) (hm : meth.name = "<init>") (hdecl : (Tt kf).1 = own) (hd : parseFieldDescriptor (Tt kf).2.2.1 = some ty) (hn : narrow ty v = v) (hfit : fits ty v = true) (hlen : kf < fs.length) (d : decode cc pc = .ok (.putfield idx, 3)) (k : Uj p l e R s m args below meth c Q nL A D cs ss ((a, .inr (ci, fs.set kf v)) :: rs) (pc + 3) lv st) : Uj p l e R s m args below meth c Q nL A D cs ss ((a, .inr (ci, fs)) :: rs) pc lv (v :: .ref a :: st) := fun H locs ls hP hD hS hl =>
  va_putF C.1 C.2.1 (Ts := TB) (fun w hw => TW_use C.2.2.2.2.1 hw args) hin ty0 hty hnm C.2.2.2.1 C.2.2.2.2.2.1 hP hD hS 0 (fs := fs) rfl hc kf hk (TW_use C.2.2.2.2.1 hl0 args) (fun x hx => by rw [← hr]; exact hx) hfin hm hdecl hd hn hfit hlen d (fun H1 locs1 hP1 hD1 hS1 => k H1 locs1 ls hP1 hD1 hS1 hl)
theorem U_put (C : Cy p s m c cc nL own A D T) {idx ci N kf : Nat} {Cn ref : String} {Tt : u_T} {fs : List Value} {a : Nat} {v : Value} {ty : FieldType} (hc : vwCl[ci]? = some (Cn, Tt, N)) (hin : ∀ w ∈ u_ws Cn Tt N, w ∈ TB) (ty0 : Nat → FieldType) (hty : ∀ k, k < N → parseFieldDescriptor (Tt k).2.2.1 = some (ty0 k)) (hnm : ∀ a, a < N → ∀ b, b < N → a ≠ b → (Tt a).2.1 ≠ (Tt b).2.1) (hk : kf < N) (hl0 : Cond.fieldLink own idx ref (Tt kf).2.1 (Tt kf).2.2.1 ∈ TB) (hr : (Tt kf).1 = ref) (hfin : (Tt kf).2.2.2 = false) (hd : parseFieldDescriptor (Tt kf).2.2.1 = some ty) (hn : narrow ty v = v) (hfit : fits ty v = true) (hlen : kf < fs.length) (d : decode cc pc = .ok (.putfield idx, 3)) (k : Uj p l e R s m args below meth c Q nL A D cs ss ((a, .inr (ci, fs.set kf v)) :: rs) (pc + 3) lv st) : Uj p l e R s m args below meth c Q nL A D cs ss ((a, .inr (ci, fs)) :: rs) pc lv (v :: .ref a :: st) := fun H locs ls hP hD hS hl =>
  va_put C.1 C.2.1 (Ts := TB) (fun w hw => TW_use C.2.2.2.2.1 hw args) hin ty0 hty hnm C.2.2.2.1 C.2.2.2.2.2.1 hP hD hS 0 (fs := fs) rfl hc kf hk (TW_use C.2.2.2.2.1 hl0 args) (fun x hx => by rw [← hr]; exact hx) hfin hd hn hfit hlen d (fun H1 locs1 hP1 hD1 hS1 => k H1 locs1 ls hP1 hD1 hS1 hl)
theorem U_get (C : Cy p s m c cc nL own A D T) {idx ci N kf : Nat} {Cn ref : String} {Tt : u_T} {fs : List Value} {a : Nat} {v : Value} (hc : vwCl[ci]? = some (Cn, Tt, N)) (hin : ∀ w ∈ u_ws Cn Tt N, w ∈ TB) (hk : kf < N) (hl0 : Cond.fieldLink own idx ref (Tt kf).2.1 (Tt kf).2.2.1 ∈ TB) (hr : (Tt kf).1 = ref) (hv : fs[kf]? = some v) (d : decode cc pc = .ok (.getfield idx, 3)) (k : Uj p l e R s m args below meth c Q nL A D cs ss ((a, .inr (ci, fs)) :: rs) (pc + 3) lv (v :: st)) : Uj p l e R s m args below meth c Q nL A D cs ss ((a, .inr (ci, fs)) :: rs) pc lv (.ref a :: st) := fun H locs ls hP hD hS hl =>
  va_get C.1 C.2.1 (Ts := TB) (fun w hw => TW_use C.2.2.2.2.1 hw args) hin C.2.2.2.1 C.2.2.2.2.2.1 hP 0 (fs := fs) rfl hc kf hk (TW_use C.2.2.2.2.1 hl0 args) (fun x hx => by rw [← hr]; exact hx) hv d (k H locs ls hP hD hS hl)
theorem U_alen (C : Cy p s m c cc nL own A D T) {a q0 t0 : Nat} {cA : ClassId} {x : vp_A} {ty : FieldType} {v : Int32} (ha : ws[q0]? = some (a, .inl (cA, x))) (ht : (tyL T)[t0]? = some (cA, ty)) (hv : Int32.ofNat x.1 = v) (d : decode cc pc = .ok (.arraylength, 1)) (k : Uj p l e R s m args below meth c Q nL A D cs ss ws (pc + 1) lv (.int v :: st)) : Uj p l e R s m args below meth c Q nL A D cs ss ws pc lv (.ref a :: st) := fun H locs ls hP hD hS hl => va_alen C.1 C.2.1 C.2.2.2.2.2.1 hP q0 t0 ha ht hv d (k H locs ls hP hD hS hl)
theorem U_iast (C : Cy p s m c cc nL own A D T) {a q0 n : Nat} {f : Nat → Int32} {i x : Int32} (ha : ws[q0]? = some (a, .inl (T 0, n, .inl f))) (hin : vp_in i n) (d : decode cc pc = .ok (.iastore, 1)) (k : Uj p l e R s m args below meth c Q nL A D cs ss (ws.set q0 (a, .inl (T 0, n, .inl (upd f i.toNatClampNeg x)))) (pc + 1) lv st) : Uj p l e R s m args below meth c Q nL A D cs ss ws pc lv (.int x :: .int i :: .ref a :: st) := fun H locs ls hP hD hS hl => va_iast C.1 C.2.1 C.2.2.2.2.2.1 hP hD hS q0 0 ha rfl hin d (fun H1 locs1 hP1 hD1 hS1 => k H1 locs1 ls hP1 hD1 hS1 hl)
theorem U_ast (C : Cy p s m c cc nL own A D T) {a q0 qk n v : Nat} {vs : List Value} {f : Nat → Option Nat} {i : Int32} (ha : ws[q0]? = some (a, .inl (T 2, n, .inr (.inr (.inr (.inr f)))))) (hv : ws[qk]? = some (v, .inr (5, vs))) (hin : vp_in i n) (d : decode cc pc = .ok (.aastore, 1)) (k : Uj p l e R s m args below meth c Q nL A D cs ss (ws.set q0 (a, .inl (T 2, n, .inr (.inr (.inr (.inr (va_up f i.toNatClampNeg (some v)))))))) (pc + 1) lv st) : Uj p l e R s m args below meth c Q nL A D cs ss ws pc lv (.ref v :: .int i :: .ref a :: st) := fun H locs ls hP hD hS hl => va_astq (r := (RX5, TX5, 4)) (ci := 5) C.1 C.2.1 C.2.2.2.2.2.1 hP hD hS q0 2 qk ha rfl hv rfl hin d (fun H1 locs1 hP1 hD1 hS1 => k H1 locs1 ls hP1 hD1 hS1 hl)
theorem U_back (C : Cy p s m c cc nL own A D T) {mc ms : Nat} {B : va_W → Prop} {a : Array Value} {H : Heap} {locs : List Loc} {ls : Array Slot} (hP : va_P D vwCl (rs ++ wc) H) (hD : va_D A (rs ++ wc)) (hS : va_S A s.heap H locs) (hl : lv_has ls nL lv) (run : va_Run p l e R s m args below meth c H locs cs ss mc ms (F0 m pc ls st) rest (qN B wc D T H.size a) (va_A wc H.size)) (k : ∀ w1, B w1 → Uj p l e R s m args below meth c Q nL A D (cs + mc) (ss + ms) (rs ++ w1) (pc + 3) lv rest) : W p l e R s m args below meth c H locs cs ss Q (F0 m pc ls st) := by
  have hF : ∀ q, va_A wc H.size q → A q := fun q h => by
    rcases h with ⟨k, e, h⟩ | h
    · exact (right_D hD).2 k (q, e) h
    · exact C.2.2.2.2.2.2.1 q (Nat.le_trans hS.1 h)
  intro S hSt X
  obtain ⟨v, st₀, t, S', L, h0, X', hL, e1, e2, ⟨⟨hv, w1, hB, hPt, hKt, hDt⟩, hz, hk⟩, stp⟩ := run S hSt X
  cases hv
  rw [h0] at hz hk
  have hj := join_last hP hD (H1 := S'.heap) (fun q h1 h2 => by rw [e1]; exact hk q h1 h2) hF (by rw [e1]; exact hPt) hDt
  obtain ⟨t2, a1, b1⟩ := k w1 hB S'.heap (locs ++ L) ls hj.1 hj.2 ⟨Nat.le_trans hS.1 (by rw [e1]; exact hz), fun q h1 h2 => by
      rw [e1, hk q (Nat.lt_of_lt_of_le h1 hS.1) (fun z => h2 (hF q z))]
      exact hS.2.1 q h1 h2, fun q hq => by
      rcases List.mem_append.mp hq with h | h
      · exact hS.2.2 q h
      · exact hF _ (hL q h)⟩ hl S' rfl X'
  exact ⟨t2, stp t2 a1, b1⟩
theorem pN_of (C : Cy p s m c cc nL own A D T) {av : List Value} {H : Heap} (hP : va_P D vwCl (rs ++ wc) H) (hD : va_D A (rs ++ wc)) : ∀ U : State, U.heap = H → s.WarmedH U.vm → pN av wc D T H.size av.toArray U := fun U hU hW =>
  ⟨rfl, by rw [hU], TW_warm hW C.2.2.2.2.1, AC_warm hW C.2.2.2.2.2.2.2, by rw [hU]; exact right_P hP, va_K.moved hW.alike C.2.2.2.2.2.1, (right_D hD).weaken (fun _ _ _ _ => trivial)⟩
theorem CalBN (C : Cy p s m c cc nL own A D T) {y : MethodName} {c2 : ByteArray} {n2 fr lo mc ms n idx : Nat} (hc : Cal y c2 n2 none n) (hR : fr + 1 ≤ R.frames ∧ 8 + (n2 + 11) + lo ≤ R.locals) (hl : Cond.methodLink own idx y ∈ TB) : CallB R s args own idx y c2 n2 none [.code y c2 n2 none] { frames := fr, cells := mc, slots := ms, locals := lo } mc ms n :=
  ⟨rfl, rfl, hR.1, hR.2, fun w hw a' U hW => by
    rw [List.mem_singleton.mp hw]
    exact TW_use (TW_warm hW C.2.2.2.2.1) hc.1 a', List.mem_singleton.mpr rfl, TW_use C.2.2.2.2.1 hc.1 args, TW_use C.2.2.2.2.1 hc.2.1 args, hc.2.2.1, fun sig h => by
    have h2 := hc.2.2.2
    rw [h] at h2
    exact (Option.some.inj h2).symm, TW_use C.2.2.2.2.1 hl args⟩
theorem CalNN (C : Cy p s m c cc nL own A D T) {y : MethodName} {c2 : ByteArray} {n2 fr lo mc ms n idx : Nat} {host : String} (hc : Cal y c2 n2 none n) (hR : fr + 1 ≤ R.frames ∧ 8 + (n2 + 11) + lo ≤ R.locals) (hl : Cond.methodLinkNest own idx y host ∈ TB) : va_CN R s args own idx y host c2 n2 none [.code y c2 n2 none] { frames := fr, cells := mc, slots := ms, locals := lo } mc ms n :=
  ⟨⟨rfl, rfl, hR.1, hR.2, fun w hw a' U hW => by
    rw [List.mem_singleton.mp hw]
    exact TW_use (TW_warm hW C.2.2.2.2.1) hc.1 a', List.mem_singleton.mpr rfl⟩, TW_use C.2.2.2.2.1 hc.1 args, TW_use C.2.2.2.2.1 hc.2.1 args, hc.2.2.1, fun sig h => by
    have h2 := hc.2.2.2
    rw [h] at h2
    exact (Option.some.inj h2).symm, TW_use C.2.2.2.2.1 hl args⟩
theorem U_callI (C : Cy p s m c cc nL own A D T) {y : MethodName} {c2 : ByteArray} {n2 fr lo mc ms idx b : Nat} {B : va_W → Prop} (As : List Value) (ct : CtN y c2 n2 fr lo mc ms (.ref b :: As) wc B D T) (hc : Cal y c2 n2 none As.length) (hl : Cond.methodLink own idx y ∈ TB) (hin : Cond.instanceMethod y ∈ TB) (hy : y.name = "<init>") (hR : fr + 1 ≤ R.frames ∧ 8 + (n2 + 11) + lo ≤ R.locals) (hst : st = As.reverse ++ .ref b :: rest) (hrm : (rest.map fun v => v.category).sum ≤ 8) (d : decode cc pc = .ok (.invokespecial idx, 3)) (hf : cs + mc ≤ R.cells ∧ ss + ms ≤ R.slots) (k : ∀ w1, B w1 → Uj p l e R s m args below meth c Q nL A D (cs + mc) (ss + ms) (rs ++ w1) (pc + 3) lv rest) : Uj p l e R s m args below meth c Q nL A D cs ss (rs ++ wc) pc lv st := fun H locs ls hP hD hS hlv =>
  U_back C hP hD hS hlv (va_runI (As := As) (rest := rest) (Ts := TB) (b := b) ⟨C.1, C.2.1, C.2.2.1, C.2.2.2.1, fun w hw => TW_use C.2.2.2.2.1 hw args⟩ (ct l H.size) ⟨CalBN C hc hR hl, hy, TW_use C.2.2.2.2.1 hin args⟩ ⟨pN_blind, pN_of C hP hD⟩ rfl rfl hlv.1 hst (lv_room hrm) d hf) k
theorem U_callIN (C : Cy p s m c cc nL own A D T) {y : MethodName} {c2 : ByteArray} {n2 fr lo mc ms idx b : Nat} {host : String} {B : va_W → Prop} (As : List Value) (ct : CtN y c2 n2 fr lo mc ms (.ref b :: As) wc B D T) (hc : Cal y c2 n2 none As.length) (hl : Cond.methodLinkNest own idx y host ∈ TB) (hin : Cond.instanceMethod y ∈ TB) (hy : y.name = "<init>") (hR : fr + 1 ≤ R.frames ∧ 8 + (n2 + 11) + lo ≤ R.locals) (hst : st = As.reverse ++ .ref b :: rest) (hrm : (rest.map fun v => v.category).sum ≤ 8) (d : decode cc pc = .ok (.invokespecial idx, 3)) (hf : cs + mc ≤ R.cells ∧ ss + ms ≤ R.slots) (k : ∀ w1, B w1 → Uj p l e R s m args below meth c Q nL A D (cs + mc) (ss + ms) (rs ++ w1) (pc + 3) lv rest) : Uj p l e R s m args below meth c Q nL A D cs ss (rs ++ wc) pc lv st := fun H locs ls hP hD hS hlv =>
  U_back C hP hD hS hlv (va_runIN (As := As) (rest := rest) (Ts := TB) (b := b) ⟨C.1, C.2.1, C.2.2.1, C.2.2.2.1, fun w hw => TW_use C.2.2.2.2.1 hw args⟩ (ct l H.size) ⟨CalNN C hc hR hl, hy, TW_use C.2.2.2.2.1 hin args⟩ ⟨pN_blind, pN_of C hP hD⟩ rfl rfl hlv.1 hst (lv_room hrm) d hf) k
theorem U_callS (C : Cy p s m c cc nL own A D T) {y : MethodName} {c2 : ByteArray} {n2 fr lo mc ms idx : Nat} {B : va_W → Prop} (As : List Value) (ct : CtN y c2 n2 fr lo mc ms As wc B D T) (hc : Cal y c2 n2 none As.length) (hl : Cond.methodLink own idx y ∈ TB) (hstat : Cond.static y ∈ TB) (hR : fr + 1 ≤ R.frames ∧ 8 + (n2 + 11) + lo ≤ R.locals) (hst : st = As.reverse ++ rest) (hrm : (rest.map fun v => v.category).sum ≤ 8) (d : decode cc pc = .ok (.invokestatic idx, 3)) (hf : cs + mc ≤ R.cells ∧ ss + ms ≤ R.slots) (k : ∀ w1, B w1 → Uj p l e R s m args below meth c Q nL A D (cs + mc) (ss + ms) (rs ++ w1) (pc + 3) lv rest) : Uj p l e R s m args below meth c Q nL A D cs ss (rs ++ wc) pc lv st := fun H locs ls hP hD hS hlv =>
  U_back C hP hD hS hlv (va_runS (As := As) (rest := rest) (Ts := TB) ⟨C.1, C.2.1, C.2.2.1, C.2.2.2.1, fun w hw => TW_use C.2.2.2.2.1 hw args⟩ (ct l H.size) ⟨CalBN C hc hR hl, TW_use C.2.2.2.2.1 hstat args⟩ ⟨pN_blind, pN_of C hP hD⟩ rfl rfl hlv.1 hst (lv_room hrm) d hf) k
theorem U_vret (C : Cy p s m c cc nL own A D T) {w0 : va_W} {B : va_W → Prop} (hA : ∀ q, A q ↔ va_A w0 s.heap.size q) (hr : meth.sig.returnType = none) (hlk : meth.locks = false) (hB : B ws) (d : decode cc pc = .ok (.return_, 1)) : Uj p l e R s m args below meth c (MQ below (qN B w0 D T s.heap.size) args s cs ss A) nL A D cs ss ws pc lv [] := fun H locs ls hP hD hS hl =>
  W.vret C.1 C.2.1 hr (fun t ht hW => ⟨⟨rfl, ws, hB, by rw [ht]; exact hP, va_K.moved hW.alike C.2.2.2.2.2.1, hD.weaken (fun _ q _ h => (hA q.1).mp h)⟩, by rw [ht]; exact hS.1, fun q h1 h2 => by rw [ht]; exact hS.2.1 q h1 (fun z => h2 ((hA q).mp z))⟩) hS.2.2 d hlk
end CTOR
