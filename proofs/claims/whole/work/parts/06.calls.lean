-- contracts over the one world, entry, returns, calls
def pC (av : List Value) (σ : Mem) (D : va_G) (T : Nat → ClassId) (ad zz : Nat → Nat) : Array Value → State → Prop := va_Pc av (fun U => TW U ∧ ZS zz (fA ad) U U.heap ∧ va_P D vwCl (Wd ad T σ) U.heap ∧ va_K D vwCl (tyL T) U)
def qC (rv : Option Value) (σ' : Mem) (D : va_G) (T : Nat → ClassId) (ad : Nat → Nat) : Array Value → State → Outcome → State → Prop := fun _ st oc t => (oc = .returned rv ∧ va_P D vwCl (Wd ad T σ') t.heap ∧ va_K D vwCl (tyL T) t) ∧ va_F (fA ad) st t
theorem pC_blind {av : List Value} {σ : Mem} {D : va_G} {T : Nat → ClassId} {ad zz : Nat → Nat} : FrameBlind (pC av σ D T ad zz) := fun a U g mk h =>
  ⟨h.1, TW_same (u := U) (U := U.calling g mk a) rfl h.2.1, ZS_moved (u := U) (U := U.calling g mk a) (Vm.Alike.refl U.vm) h.2.2.1, h.2.2.2.1, va_K.moved (u := U) (U := U.calling g mk a) (Vm.Alike.refl U.vm) h.2.2.2.2⟩
/-- a contract: from memory σ the method y with these arguments returns rv and leaves memory σ' -/
def Ct (y : MethodName) (cc : ByteArray) (nL : Nat) (ret : Option FieldType) (fr lo : Nat) (av : (Nat → Nat) → (Nat → Nat) → List Value) (σ : Mem) (rv : (Nat → Nat) → Option Value) (σ' : Mem) : Prop :=
  ∀ (l : Launch) (D : va_G) (T : Nat → ClassId) (ad zz : Nat → Nat), adI ad → Met l y [.code y cc nL ret] { frames := fr, cells := 0, slots := 0, locals := lo } (pC (av ad zz) σ D T ad zz) (qC (rv ad) σ' D T ad) 0 0 (fA ad)
/-- what a method's walk owes: from its entry the walk comes to its end -/
def Wk (y : MethodName) (cc : ByteArray) (nL : Nat) (ret : Option FieldType) (fr lo : Nat) (lv : (Nat → Nat) → (Nat → Nat) → List (Nat × Value)) (σ : Mem) (rv : (Nat → Nat) → Option Value) (σ' : Mem) : Prop :=
  ∀ (p : Program) (l : Launch) (e : Env) (s : State) (m : MethodId) (args : Array Value) (below : List Frame) (meth : Method) (c : Code) (D : va_G) (T : Nat → ClassId) (ad zz : Nat → Nat), Cx p s m c cc nL y.cls (fA ad) D T ad zz → meth.sig.returnType = ret → meth.locks = false →
    V p l e { frames := fr, cells := 0, slots := 0, locals := lo } s m args below meth c 0 0 (MQ below (qC (rv ad) σ' D T ad) args s 0 0 (fA ad)) nL (fA ad) D T ad σ 0 (lv ad zz) []
theorem Ct_of {y : MethodName} {cc : ByteArray} {nL : Nat} {ret : Option FieldType} {fr lo : Nat} {av : (Nat → Nat) → (Nat → Nat) → List Value} {lv : (Nat → Nat) → (Nat → Nat) → List (Nat × Value)} {σ : Mem} {rv : (Nat → Nat) → Option Value} {σ' : Mem} (hp : plainName y.cls = true) (hlv : ∀ ad zz, lv_args 0 (av ad zz) = lv ad zz) (hln : ∀ ad zz, (lg_sl (av ad zz)).length ≤ nL) (w : Wk y cc nL ret fr lo lv σ rv σ') : Ct y cc nL ret fr lo av σ rv σ' := by
  intro l D T ad zz hI
  refine Met.ofW (cc := cc) (maxL := nL) (ret := ret) hp rfl ?_
  intro p e s m args below meth c s₁ B hml hv
  obtain ⟨rfl, hT, hZ, hP, hK⟩ := hv
  have hl := lv_entry (av ad zz) (n := nL) (hln ad zz)
  rw [lg_entry_eq]
  rw [hlv ad zz] at hl
  exact w p l e s m (av ad zz).toArray below meth c D T ad zz ⟨B.exec, B.bytes, hml, findClass_of_methodNamed B.named, hT, hK, hI, fun i hi => ⟨i, hi, rfl⟩, hZ⟩ B.returns B.notSynchronized s.heap [] _ hP va_S.rf hl
section RETS
variable {p : Program} {l : Launch} {e : Env} {R : Room} {s : State} {m : MethodId} {args : Array Value} {below : List Frame} {meth : Method} {c : Code} {nL : Nat} {D : va_G} {T : Nat → ClassId} {ad zz : Nat → Nat} {σ σ' : Mem} {pc : Nat} {lv : List (Nat × Value)} {cc : ByteArray} {own : String} {rv : Option Value}
theorem V_iret (C : Cx p s m c cc nL own (fA ad) D T ad zz) {v : Int32} (hr : meth.sig.returnType = some .int) (hlk : meth.locks = false) (h1 : some (Value.int v) = rv) (h2 : σ = σ') (d : decode cc pc = .ok (.ireturn, 1)) : V p l e R s m args below meth c 0 0 (MQ below (qC rv σ' D T ad) args s 0 0 (fA ad)) nL (fA ad) D T ad σ pc lv [.int v] := fun H locs ls hP hS hl =>
  W.iret C.1 C.2.1 hr (fun t ht hW => ⟨⟨by rw [h1], by rw [← h2, ht]; exact hP, va_K.moved hW.alike C.2.2.2.2.2.1⟩, hS.F ht⟩) hS.2.2 d hlk
theorem V_zret (C : Cx p s m c cc nL own (fA ad) D T ad zz) {v : Int32} (hr : meth.sig.returnType = some .boolean) (hlk : meth.locks = false) (hb : v = 0 ∨ v = 1) (h1 : some (Value.int v) = rv) (h2 : σ = σ') (d : decode cc pc = .ok (.ireturn, 1)) : V p l e R s m args below meth c 0 0 (MQ below (qC rv σ' D T ad) args s 0 0 (fA ad)) nL (fA ad) D T ad σ pc lv [.int v] := fun H locs ls hP hS hl =>
  W.zret C.1 C.2.1 hr (by rcases hb with rfl | rfl <;> decide) (fun t ht hW => ⟨⟨by rw [h1], by rw [← h2, ht]; exact hP, va_K.moved hW.alike C.2.2.2.2.2.1⟩, hS.F ht⟩) hS.2.2 d hlk
theorem V_lret (C : Cx p s m c cc nL own (fA ad) D T ad zz) {v : Int64} (hr : meth.sig.returnType = some .long) (hlk : meth.locks = false) (h1 : some (Value.long v) = rv) (h2 : σ = σ') (d : decode cc pc = .ok (.lreturn, 1)) : V p l e R s m args below meth c 0 0 (MQ below (qC rv σ' D T ad) args s 0 0 (fA ad)) nL (fA ad) D T ad σ pc lv [.long v] := fun H locs ls hP hS hl =>
  W.lret C.1 C.2.1 hr (fun t ht hW => ⟨⟨by rw [h1], by rw [← h2, ht]; exact hP, va_K.moved hW.alike C.2.2.2.2.2.1⟩, hS.F ht⟩) hS.2.2 d hlk
theorem V_aret (C : Cx p s m c cc nL own (fA ad) D T ad zz) {v : Value} {n : String} (hr : meth.sig.returnType = some (.object n)) (hlk : meth.locks = false) (hv : v = .null ∨ ∃ a, v = .ref a) (h1 : some v = rv) (h2 : σ = σ') (d : decode cc pc = .ok (.areturn, 1)) : V p l e R s m args below meth c 0 0 (MQ below (qC rv σ' D T ad) args s 0 0 (fA ad)) nL (fA ad) D T ad σ pc lv [v] := fun H locs ls hP hS hl =>
  W.aret C.1 C.2.1 hr (Or.inl ⟨n, rfl⟩) hv (fun t ht hW => ⟨⟨by rw [h1], by rw [← h2, ht]; exact hP, va_K.moved hW.alike C.2.2.2.2.2.1⟩, hS.F ht⟩) hS.2.2 d hlk
theorem V_vret (C : Cx p s m c cc nL own (fA ad) D T ad zz) (hr : meth.sig.returnType = none) (hlk : meth.locks = false) (h1 : none = rv) (h2 : σ = σ') (d : decode cc pc = .ok (.return_, 1)) : V p l e R s m args below meth c 0 0 (MQ below (qC rv σ' D T ad) args s 0 0 (fA ad)) nL (fA ad) D T ad σ pc lv [] := fun H locs ls hP hS hl =>
  W.vret C.1 C.2.1 hr (fun t ht hW => ⟨⟨by rw [h1], by rw [← h2, ht]; exact hP, va_K.moved hW.alike C.2.2.2.2.2.1⟩, hS.F ht⟩) hS.2.2 d hlk
end RETS
/-- what the tables say of a callee -/
def Cal (y : MethodName) (cc : ByteArray) (nL : Nat) (ret : Option FieldType) (n : Nat) : Prop := Cond.code y cc nL ret ∈ TB ∧ Cond.initialized y.cls ∈ TB ∧ (y.cls ≠ "java/lang/invoke/MethodHandle" ∧ y.cls ≠ "java/lang/invoke/VarHandle") ∧ (parseMethodDescriptor y.desc).map (fun d => d.parameters.length) = some n
section CALLS
variable {p : Program} {l : Launch} {e : Env} {R : Room} {s : State} {m : MethodId} {args : Array Value} {below : List Frame} {meth : Method} {c : Code} {cs ss : Nat} {Q : State → Prop} {nL : Nat} {A : Nat → Prop} {D : va_G} {T : Nat → ClassId} {ad zz : Nat → Nat} {σ σ' : Mem} {pc : Nat} {lv : List (Nat × Value)} {st rest : List Value} {cc : ByteArray} {own : String}
theorem fA_sub (C : Cx p s m c cc nL own A D T ad zz) : ∀ q, fA ad q → A q := fun q h => by
  obtain ⟨i, hi, rfl⟩ := h
  exact C.2.2.2.2.2.2.2.1 i hi
theorem pC_of (C : Cx p s m c cc nL own A D T ad zz) {av : List Value} {H : Heap} {locs : List Loc} (hP : va_P D vwCl (Wd ad T σ) H) (hS : va_S A s.heap H locs) : ∀ U : State, U.heap = H → s.WarmedH U.vm → pC av σ D T ad zz av.toArray U := fun U hU hW =>
  ⟨rfl, TW_warm hW C.2.2.2.2.1, by rw [hU]; exact ZS_moved hW.alike (ZS_narrow (ZS_kept C.2.2.2.2.2.2.2.2 (fun a h1 h2 => hS.2.1 a h1 h2)) (fA_sub C)), by rw [hU]; exact hP, va_K.moved hW.alike C.2.2.2.2.2.1⟩
theorem V_back (C : Cx p s m c cc nL own A D T ad zz) {rv : Option Value} {a : Array Value} {H : Heap} {locs : List Loc} {ls : Array Slot} (hS : va_S A s.heap H locs) (hl : lv_has ls nL lv) (run : va_Run p l e R s m args below meth c H locs cs ss 0 0 (F0 m pc ls st) rest (qC rv σ' D T ad a) (fA ad)) (k : V p l e R s m args below meth c cs ss Q nL A D T ad σ' (pc + 3) lv (rv.toList ++ rest)) : W p l e R s m args below meth c H locs cs ss Q (F0 m pc ls st) := by
  intro S hSt X
  obtain ⟨v, st₀, t, S', L, h0, X', hL, e1, e2, ⟨⟨hv, hPt, hKt⟩, hz, hk⟩, stp⟩ := run S hSt X
  cases hv
  rw [h0] at hz hk
  obtain ⟨t2, a1, b1⟩ := k S'.heap (locs ++ L) ls (by rw [e1]; exact hPt) ⟨Nat.le_trans hS.1 (by rw [e1]; exact hz), fun q h1 h2 => by
      rw [e1, hk q (Nat.lt_of_lt_of_le h1 hS.1) (fun z => h2 (fA_sub C q z))]
      exact hS.2.1 q h1 h2, fun q hq => by
      rcases List.mem_append.mp hq with h | h
      · exact hS.2.2 q h
      · exact fA_sub C _ (hL q h)⟩ hl S' rfl X'
  exact ⟨t2, stp t2 a1, b1⟩
theorem CalB (C : Cx p s m c cc nL own A D T ad zz) {y : MethodName} {c2 : ByteArray} {n2 : Nat} {ret : Option FieldType} {fr lo n idx : Nat} (hc : Cal y c2 n2 ret n) (hR : fr + 1 ≤ R.frames ∧ 8 + (n2 + 11) + lo ≤ R.locals) (hl : Cond.methodLink own idx y ∈ TB) : CallB R s args own idx y c2 n2 ret [.code y c2 n2 ret] { frames := fr, cells := 0, slots := 0, locals := lo } 0 0 n :=
  ⟨rfl, rfl, hR.1, hR.2, fun w hw a' U hW => by
    rw [List.mem_singleton.mp hw]
    exact TW_use (TW_warm hW C.2.2.2.2.1) hc.1 a', List.mem_singleton.mpr rfl, TW_use C.2.2.2.2.1 hc.1 args, TW_use C.2.2.2.2.1 hc.2.1 args, hc.2.2.1, fun sig h => by
    have h2 := hc.2.2.2
    rw [h] at h2
    exact (Option.some.inj h2).symm, TW_use C.2.2.2.2.1 hl args⟩
theorem CalN (C : Cx p s m c cc nL own A D T ad zz) {y : MethodName} {c2 : ByteArray} {n2 : Nat} {ret : Option FieldType} {fr lo n idx : Nat} {host : String} (hc : Cal y c2 n2 ret n) (hR : fr + 1 ≤ R.frames ∧ 8 + (n2 + 11) + lo ≤ R.locals) (hl : Cond.methodLinkNest own idx y host ∈ TB) : va_CN R s args own idx y host c2 n2 ret [.code y c2 n2 ret] { frames := fr, cells := 0, slots := 0, locals := lo } 0 0 n :=
  ⟨⟨rfl, rfl, hR.1, hR.2, fun w hw a' U hW => by
    rw [List.mem_singleton.mp hw]
    exact TW_use (TW_warm hW C.2.2.2.2.1) hc.1 a', List.mem_singleton.mpr rfl⟩, TW_use C.2.2.2.2.1 hc.1 args, TW_use C.2.2.2.2.1 hc.2.1 args, hc.2.2.1, fun sig h => by
    have h2 := hc.2.2.2
    rw [h] at h2
    exact (Option.some.inj h2).symm, TW_use C.2.2.2.2.1 hl args⟩
/-- the receiver of a virtual call -/
theorem recvW (C : Cx p s m c cc nL own A D T ad zz) {H : Heap} {i ci : Nat} {q : vw_C} {fs : List Value} (hP : va_P D vwCl (Wd ad T σ) H) (hi : i < 118) (he : cE ad T σ i = .inr (ci, fs)) (hc : vwCl[ci]? = some q) : ∃ cell : Cell, H[ad i]? = some cell ∧ cell.vm.isStatics = false ∧ s.vm.findClass q.1 = some cell.cls :=
  va_recv C.2.2.2.2.2.1 hP hc (show (Wd ad T σ)[i]? = some (ad i, .inr (ci, fs)) by rw [Wd_get hi, he])
theorem V_callV (C : Cx p s m c cc nL own A D T ad zz) {y : MethodName} {c2 : ByteArray} {n2 : Nat} {ret : Option FieldType} {fr lo idx i ci : Nat} {av : (Nat → Nat) → (Nat → Nat) → List Value} {rv : (Nat → Nat) → Option Value} {q : vw_C} {fs : List Value} (As : List Value) (ct : Ct y c2 n2 ret fr lo av σ rv σ') (hc : Cal y c2 n2 ret As.length) (hl : Cond.methodLink own idx y ∈ TB) (hin : Cond.instanceMethod y ∈ TB) (hse : Cond.selects q.1 y y ∈ TB) (hR : fr + 1 ≤ R.frames ∧ 8 + (n2 + 11) + lo ≤ R.locals) (hi : i < 118) (he : cE ad T σ i = .inr (ci, fs)) (hq : vwCl[ci]? = some q) (hav : av ad zz = .ref (ad i) :: As) (hst : st = As.reverse ++ .ref (ad i) :: rest) (hrm : (rest.map fun v => v.category).sum ≤ 8) (d : decode cc pc = .ok (.invokevirtual idx, 3)) (hf : cs ≤ R.cells ∧ ss ≤ R.slots) (k : V p l e R s m args below meth c cs ss Q nL A D T ad σ' (pc + 3) lv ((rv ad).toList ++ rest)) : V p l e R s m args below meth c cs ss Q nL A D T ad σ pc lv st := fun H locs ls hP hS hlv => by
  refine V_back C hS hlv (va_runV (As := As) (rest := rest) (Ts := TB) (C := q.1) (b := ad i) ⟨C.1, C.2.1, C.2.2.1, C.2.2.2.1, fun w hw => TW_use C.2.2.2.2.1 hw args⟩ (ct l D T ad zz C.2.2.2.2.2.2.1) ⟨CalB C hc hR hl, TW_use C.2.2.2.2.1 hin args, TW_use C.2.2.2.2.1 hse args⟩ ⟨pC_blind, recvW C hP hi he hq, ?_⟩ rfl rfl hlv.1 hst (lv_room hrm) d hf) k
  rw [← hav]
  exact pC_of C hP hS
theorem V_callVN (C : Cx p s m c cc nL own A D T ad zz) {y : MethodName} {c2 : ByteArray} {n2 : Nat} {ret : Option FieldType} {fr lo idx i ci : Nat} {host : String} {av : (Nat → Nat) → (Nat → Nat) → List Value} {rv : (Nat → Nat) → Option Value} {q : vw_C} {fs : List Value} (As : List Value) (ct : Ct y c2 n2 ret fr lo av σ rv σ') (hc : Cal y c2 n2 ret As.length) (hl : Cond.methodLinkNest own idx y host ∈ TB) (hin : Cond.instanceMethod y ∈ TB) (hse : Cond.selects q.1 y y ∈ TB) (hR : fr + 1 ≤ R.frames ∧ 8 + (n2 + 11) + lo ≤ R.locals) (hi : i < 118) (he : cE ad T σ i = .inr (ci, fs)) (hq : vwCl[ci]? = some q) (hav : av ad zz = .ref (ad i) :: As) (hst : st = As.reverse ++ .ref (ad i) :: rest) (hrm : (rest.map fun v => v.category).sum ≤ 8) (d : decode cc pc = .ok (.invokevirtual idx, 3)) (hf : cs ≤ R.cells ∧ ss ≤ R.slots) (k : V p l e R s m args below meth c cs ss Q nL A D T ad σ' (pc + 3) lv ((rv ad).toList ++ rest)) : V p l e R s m args below meth c cs ss Q nL A D T ad σ pc lv st := fun H locs ls hP hS hlv => by
  refine V_back C hS hlv (va_runVN (As := As) (rest := rest) (Ts := TB) (C := q.1) (b := ad i) ⟨C.1, C.2.1, C.2.2.1, C.2.2.2.1, fun w hw => TW_use C.2.2.2.2.1 hw args⟩ (ct l D T ad zz C.2.2.2.2.2.2.1) ⟨CalN C hc hR hl, TW_use C.2.2.2.2.1 hin args, TW_use C.2.2.2.2.1 hse args⟩ ⟨pC_blind, recvW C hP hi he hq, ?_⟩ rfl rfl hlv.1 hst (lv_room hrm) d hf) k
  rw [← hav]
  exact pC_of C hP hS
theorem V_callS (C : Cx p s m c cc nL own A D T ad zz) {y : MethodName} {c2 : ByteArray} {n2 : Nat} {ret : Option FieldType} {fr lo idx : Nat} {av : (Nat → Nat) → (Nat → Nat) → List Value} {rv : (Nat → Nat) → Option Value} (As : List Value) (ct : Ct y c2 n2 ret fr lo av σ rv σ') (hc : Cal y c2 n2 ret As.length) (hl : Cond.methodLink own idx y ∈ TB) (hstat : Cond.static y ∈ TB) (hR : fr + 1 ≤ R.frames ∧ 8 + (n2 + 11) + lo ≤ R.locals) (hav : av ad zz = As) (hst : st = As.reverse ++ rest) (hrm : (rest.map fun v => v.category).sum ≤ 8) (d : decode cc pc = .ok (.invokestatic idx, 3)) (hf : cs ≤ R.cells ∧ ss ≤ R.slots) (k : V p l e R s m args below meth c cs ss Q nL A D T ad σ' (pc + 3) lv ((rv ad).toList ++ rest)) : V p l e R s m args below meth c cs ss Q nL A D T ad σ pc lv st := fun H locs ls hP hS hlv => by
  refine V_back C hS hlv (va_runS (As := As) (rest := rest) (Ts := TB) ⟨C.1, C.2.1, C.2.2.1, C.2.2.2.1, fun w hw => TW_use C.2.2.2.2.1 hw args⟩ (ct l D T ad zz C.2.2.2.2.2.2.1) ⟨CalB C hc hR hl, TW_use C.2.2.2.2.1 hstat args⟩ ⟨pC_blind, ?_⟩ rfl rfl hlv.1 hst (lv_room hrm) d hf) k
  rw [← hav]
  exact pC_of C hP hS
theorem V_callSN (C : Cx p s m c cc nL own A D T ad zz) {y : MethodName} {c2 : ByteArray} {n2 : Nat} {ret : Option FieldType} {fr lo idx : Nat} {host : String} {av : (Nat → Nat) → (Nat → Nat) → List Value} {rv : (Nat → Nat) → Option Value} (As : List Value) (ct : Ct y c2 n2 ret fr lo av σ rv σ') (hc : Cal y c2 n2 ret As.length) (hl : Cond.methodLinkNest own idx y host ∈ TB) (hstat : Cond.static y ∈ TB) (hR : fr + 1 ≤ R.frames ∧ 8 + (n2 + 11) + lo ≤ R.locals) (hav : av ad zz = As) (hst : st = As.reverse ++ rest) (hrm : (rest.map fun v => v.category).sum ≤ 8) (d : decode cc pc = .ok (.invokestatic idx, 3)) (hf : cs ≤ R.cells ∧ ss ≤ R.slots) (k : V p l e R s m args below meth c cs ss Q nL A D T ad σ' (pc + 3) lv ((rv ad).toList ++ rest)) : V p l e R s m args below meth c cs ss Q nL A D T ad σ pc lv st := fun H locs ls hP hS hlv => by
  refine V_back C hS hlv (va_runSN (As := As) (rest := rest) (Ts := TB) ⟨C.1, C.2.1, C.2.2.1, C.2.2.2.1, fun w hw => TW_use C.2.2.2.2.1 hw args⟩ (ct l D T ad zz C.2.2.2.2.2.2.1) ⟨CalN C hc hR hl, TW_use C.2.2.2.2.1 hstat args, trivial⟩ ⟨pC_blind, ?_⟩ rfl rfl hlv.1 hst (lv_room hrm) d hf) k
  rw [← hav]
  exact pC_of C hP hS
theorem V_mmax (C : Cx p s m c cc nL own A D T ad zz) {idx : Nat} {x y : Int32} (hl : Cond.methodLink own idx Lib.Math.max.name ∈ TB) (hstat : Cond.static Lib.Math.max.name ∈ TB) (hini : Cond.initialized "java/lang/Math" ∈ TB) (hcode : Cond.code Lib.Math.max.name Lib.Math.max.code 2 (some .int) ∈ TB) (hR : 1 ≤ R.frames ∧ (st.map fun v => v.category).sum + 13 ≤ R.locals) (hf : cs ≤ R.cells ∧ ss ≤ R.slots) (d : decode cc pc = .ok (.invokestatic idx, 3)) (k : V p l e R s m args below meth c cs ss Q nL A D T ad σ (pc + 3) lv (.int (if x < y then y else x) :: st)) : V p l e R s m args below meth c cs ss Q nL A D T ad σ pc lv (.int y :: .int x :: st) := fun H locs ls hP hS hlv =>
  va_mmax C.1 C.2.1 (C.2.2.1.trans hlv.1.symm) C.2.2.2.1 (TW_use C.2.2.2.2.1 hl args) (TW_use C.2.2.2.2.1 hstat args) (TW_use C.2.2.2.2.1 hini args) (TW_use C.2.2.2.2.1 hcode args) hR.1 hR.2 hf.1 hf.2 d (k H locs ls hP hS hlv)
theorem cpA_s {σ σ' : Mem} {n m : Nat} {sp dp len : Int32} (h : cpA σ n sp m dp len = some σ') : (¬ sp < 0 ∧ ¬ dp < 0 ∧ ¬ len < 0 ∧ sp.toNatClampNeg + len.toNatClampNeg ≤ alen n ∧ dp.toNatClampNeg + len.toNatClampNeg ≤ alen m) ∧ sF σ m (va_cpy (σ.2.1 n) (σ.2.1 m) sp.toNatClampNeg dp.toNatClampNeg len.toNatClampNeg) = σ' := by
  unfold cpA at h
  split at h
  · cases h
  · rename_i hh
    simp only [not_or, Nat.not_lt] at hh
    exact ⟨⟨hh.1, hh.2.1, hh.2.2.1, hh.2.2.2.1, hh.2.2.2.2⟩, Option.some.inj h⟩
theorem V_copy (C : Cx p s m c cc nL own A D T ad zz) {idx n n' : Nat} {sp dp len : Int32} (hn : n < 67) (hn' : n' < 67) (h : cpA σ n sp n' dp len = some σ') (hl : Cond.methodLink own idx arraycopyName ∈ TB) (hnat : Cond.native arraycopyName ∈ TB) (hstat : Cond.static arraycopyName ∈ TB) (hini : Cond.initialized "java/lang/System" ∈ TB) (hR : 1 ≤ R.frames ∧ (st.map fun v => v.category).sum + (nativeFrameWords "java/lang/System" "arraycopy" 5 + 11) ≤ R.locals) (d : decode cc pc = .ok (.invokestatic idx, 3)) (k : V p l e R s m args below meth c cs ss Q nL A D T ad σ' (pc + 3) lv st) : V p l e R s m args below meth c cs ss Q nL A D T ad σ pc lv (.int len :: .int dp :: .ref (ad (12 + n')) :: .int sp :: .ref (ad (12 + n)) :: st) := fun H locs ls hP hS hlv => by
  obtain ⟨⟨h1, h2, h3, h4, h5⟩, rfl⟩ := cpA_s h
  refine va_copyi C.1 C.2.1 (C.2.2.1.trans hlv.1.symm) C.2.2.2.1 (TW_use C.2.2.2.2.1 hl args) (TW_use C.2.2.2.2.1 hnat args) (TW_use C.2.2.2.2.1 hstat args) (TW_use C.2.2.2.2.1 hini args) C.2.2.2.2.2.1 hP (Wd_D C.2.2.2.2.2.2.1 C.2.2.2.2.2.2.2.1) hS (12 + n) (12 + n') 0 0 (by rw [Wd_get (by omega), cE_A hn]) (by rw [Wd_get (by omega), cE_A hn']) (ty := .int) rfl rfl rfl h1 h2 h3 h4 h5 (fun _ _ => rfl) hR.1 hR.2 d (fun H1 locs1 hP1 _ hS1 => k H1 locs1 ls ?_ hS1 hlv)
  rw [Wd_set (σ' := sF σ n' (va_cpy (σ.2.1 n) (σ.2.1 n') sp.toNatClampNeg dp.toNatClampNeg len.toNatClampNeg)) (by omega) (by rw [cE_A hn']; simp [sF]) (fun j hj hne => cE_sF hj hne)] at hP1
  exact hP1
end CALLS
