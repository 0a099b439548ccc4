section LAWROWS
variable {p : Program} {l : Launch} {e : Env} {R : Room} {s : State} {m : MethodId} {args : Array Value} {below : List Frame} {meth : Method} {c : Code} {cs ss : Nat} {Q : State → Prop} {nL : Nat} {A : Nat → Prop} {D : va_G} {T : Nat → ClassId} {ad zz : Nat → Nat} {σ : Mem} {pc : Nat} {lv : List (Nat × Value)} {st : List Value} {cc : ByteArray} {own : String}
theorem V_sld (C : Cx p s m c cc nL own A D T ad zz) {b L : Nat} {xs : Nat → Int32} (hX : va_X b L xs s s.heap) (hbl : b < s.heap.size) (hbA : ¬ A b) (hL : L < 2147483648) {x : Int32} (j : Nat) (hx : x = nI j) (hj : j < L) (d : decode cc pc = .ok (.iaload, 1)) (k : V p l e R s m args below meth c cs ss Q nL A D T ad σ (pc + 1) lv (.int (xs j) :: st)) : V p l e R s m args below meth c cs ss Q nL A D T ad σ pc lv (.int x :: .ref b :: st) := fun H locs ls hP hS hl => by
  subst hx
  refine va_sld C.1 C.2.1 hX hbl hbA hS (vp_in_nI hj hL) d ?_
  rw [nI_clamp (Nat.lt_trans hj hL)]
  exact k H locs ls hP hS hl
theorem V_slen (C : Cx p s m c cc nL own A D T ad zz) {b L : Nat} {xs : Nat → Int32} (hX : va_X b L xs s s.heap) (hbl : b < s.heap.size) (hbA : ¬ A b) (d : decode cc pc = .ok (.arraylength, 1)) (k : V p l e R s m args below meth c cs ss Q nL A D T ad σ (pc + 1) lv (.int (nI L) :: st)) : V p l e R s m args below meth c cs ss Q nL A D T ad σ pc lv (.ref b :: st) := fun H locs ls hP hS hl =>
  va_slen C.1 C.2.1 hX hbl hbA hS d (k H locs ls hP hS hl)
theorem V_jeq (C : Cx p s m c cc nL own A D T ad zz) {x : Int32} {off : Int} (tgt : Nat) (d : decode cc pc = .ok (.if_icmp .eq off, 3)) (ht : (pc : Int) + off = (tgt : Int)) (k : V p l e R s m args below meth c cs ss Q nL A D T ad σ tgt lv st) : V p l e R s m args below meth c cs ss Q nL A D T ad σ pc lv (.int x :: .int x :: st) := fun H locs ls hP hS hl =>
  lv_icmp_eq C.1 C.2.1 d ht (fun _ => k H locs ls hP hS hl) (fun h => absurd rfl h)
theorem V_jgt (C : Cx p s m c cc nL own A D T ad zz) {x y : Int32} {off : Int} (tgt : Nat) (d : decode cc pc = .ok (.if_icmp .gt off, 3)) (ht : (pc : Int) + off = (tgt : Int)) (kt : y < x → V p l e R s m args below meth c cs ss Q nL A D T ad σ tgt lv st) (kf : ¬ y < x → V p l e R s m args below meth c cs ss Q nL A D T ad σ (pc + 3) lv st) : V p l e R s m args below meth c cs ss Q nL A D T ad σ pc lv (.int y :: .int x :: st) := fun H locs ls hP hS hl =>
  lv_icmp_gt C.1 C.2.1 d ht (fun h => kt h H locs ls hP hS hl) (fun h => kf h H locs ls hP hS hl)
theorem V_jz0 (C : Cx p s m c cc nL own A D T ad zz) {x : Int32} {off : Int} (tgt : Nat) (hx : x = 0) (d : decode cc pc = .ok (.ifCond .eq off, 3)) (ht : (pc : Int) + off = (tgt : Int)) (k : V p l e R s m args below meth c cs ss Q nL A D T ad σ tgt lv st) : V p l e R s m args below meth c cs ss Q nL A D T ad σ pc lv (.int x :: st) := fun H locs ls hP hS hl =>
  lv_if_eq C.1 C.2.1 d ht (fun _ => k H locs ls hP hS hl) (fun h => absurd hx h)
theorem V_jz1 (C : Cx p s m c cc nL own A D T ad zz) {x : Int32} {off : Int} {tgt : Nat} (hx : ¬ x = 0) (d : decode cc pc = .ok (.ifCond .eq off, 3)) (ht : (pc : Int) + off = (tgt : Int)) (k : V p l e R s m args below meth c cs ss Q nL A D T ad σ (pc + 3) lv st) : V p l e R s m args below meth c cs ss Q nL A D T ad σ pc lv (.int x :: st) := fun H locs ls hP hS hl =>
  lv_if_eq C.1 C.2.1 d ht (fun h => absurd h hx) (fun _ => k H locs ls hP hS hl)
theorem lg_cmp_self (x : Int64) : lg_cmp x x = 0 := by
  unfold lg_cmp
  simp
end LAWROWS
theorem cal_X10_write : Cal yX10_write cX10_write 2 (some .int) 1 := ⟨(TB_in 383 (by decide +kernel) (by decide +kernel)), (TB_in 68 (by decide +kernel) (by decide +kernel)), ⟨by decide +kernel, by decide +kernel⟩, by decide +kernel⟩
theorem cs_L_13 {p : Program} {l : Launch} {e : Env} {R : Room} {s : State} {m : MethodId} {args : Array Value} {below : List Frame} {meth : Method} {c : Code} {cs ss : Nat} {Q : State → Prop} {nL : Nat} {A : Nat → Prop} {D : va_G} {T : Nat → ClassId} {ad zz : Nat → Nat} {σ σ' : Mem} {pc : Nat} {lv : List (Nat × Value)} {rest : List Value} {cc : ByteArray} (C : Cx p s m c cc nL RL A D T ad zz) {fr lo : Nat} {av : (Nat → Nat) → (Nat → Nat) → List Value} {r : Int32} {v1 : Value} (ct : Ct yX10_write cX10_write 2 (some .int) fr lo av σ (fun _ => some (.int r)) σ') (hav : av ad zz = [.ref (ad 0), v1]) (hR : fr + 1 ≤ R.frames ∧ 8 + (2 + 11) + lo ≤ R.locals) (hrm : (rest.map fun v => v.category).sum ≤ 8) (d : decode cc pc = .ok (.invokevirtual 13, 3)) (hf : cs ≤ R.cells ∧ ss ≤ R.slots) (kk : V p l e R s m args below meth c cs ss Q nL A D T ad σ' (pc + 3) lv (.int r :: rest)) : V p l e R s m args below meth c cs ss Q nL A D T ad σ pc lv (v1 :: .ref (ad 0) :: rest) :=
  V_callV C [v1] ct cal_X10_write (TB_in 380 (by decide +kernel) (by decide +kernel)) (TB_in 381 (by decide +kernel) (by decide +kernel)) (TB_in 382 (by decide +kernel) (by decide +kernel)) hR (by omega) rfl rfl hav rfl hrm d hf kk
theorem cal_X11_write : Cal yX11_write cX11_write 2 (some .int) 1 := ⟨(TB_in 984 (by decide +kernel) (by decide +kernel)), (TB_in 80 (by decide +kernel) (by decide +kernel)), ⟨by decide +kernel, by decide +kernel⟩, by decide +kernel⟩
theorem cs_L_17 {p : Program} {l : Launch} {e : Env} {R : Room} {s : State} {m : MethodId} {args : Array Value} {below : List Frame} {meth : Method} {c : Code} {cs ss : Nat} {Q : State → Prop} {nL : Nat} {A : Nat → Prop} {D : va_G} {T : Nat → ClassId} {ad zz : Nat → Nat} {σ σ' : Mem} {pc : Nat} {lv : List (Nat × Value)} {rest : List Value} {cc : ByteArray} (C : Cx p s m c cc nL RL A D T ad zz) {fr lo : Nat} {av : (Nat → Nat) → (Nat → Nat) → List Value} {r : Int32} {v1 : Value} (ct : Ct yX11_write cX11_write 2 (some .int) fr lo av σ (fun _ => some (.int r)) σ') (hav : av ad zz = [.ref (ad 11), v1]) (hR : fr + 1 ≤ R.frames ∧ 8 + (2 + 11) + lo ≤ R.locals) (hrm : (rest.map fun v => v.category).sum ≤ 8) (d : decode cc pc = .ok (.invokevirtual 17, 3)) (hf : cs ≤ R.cells ∧ ss ≤ R.slots) (kk : V p l e R s m args below meth c cs ss Q nL A D T ad σ' (pc + 3) lv (.int r :: rest)) : V p l e R s m args below meth c cs ss Q nL A D T ad σ pc lv (v1 :: .ref (ad 11) :: rest) :=
  V_callV C [v1] ct cal_X11_write (TB_in 981 (by decide +kernel) (by decide +kernel)) (TB_in 982 (by decide +kernel) (by decide +kernel)) (TB_in 983 (by decide +kernel) (by decide +kernel)) hR (by omega) rfl rfl hav rfl hrm d hf kk
theorem cal_X10_wipe : Cal yX10_wipe cX10_wipe 2 (some .int) 0 := ⟨(TB_in 394 (by decide +kernel) (by decide +kernel)), (TB_in 68 (by decide +kernel) (by decide +kernel)), ⟨by decide +kernel, by decide +kernel⟩, by decide +kernel⟩
theorem cs_L_18 {p : Program} {l : Launch} {e : Env} {R : Room} {s : State} {m : MethodId} {args : Array Value} {below : List Frame} {meth : Method} {c : Code} {cs ss : Nat} {Q : State → Prop} {nL : Nat} {A : Nat → Prop} {D : va_G} {T : Nat → ClassId} {ad zz : Nat → Nat} {σ σ' : Mem} {pc : Nat} {lv : List (Nat × Value)} {rest : List Value} {cc : ByteArray} (C : Cx p s m c cc nL RL A D T ad zz) {fr lo : Nat} {av : (Nat → Nat) → (Nat → Nat) → List Value} {r : Int32} (ct : Ct yX10_wipe cX10_wipe 2 (some .int) fr lo av σ (fun _ => some (.int r)) σ') (hav : av ad zz = [.ref (ad 0)]) (hR : fr + 1 ≤ R.frames ∧ 8 + (2 + 11) + lo ≤ R.locals) (hrm : (rest.map fun v => v.category).sum ≤ 8) (d : decode cc pc = .ok (.invokevirtual 18, 3)) (hf : cs ≤ R.cells ∧ ss ≤ R.slots) (kk : V p l e R s m args below meth c cs ss Q nL A D T ad σ' (pc + 3) lv (.int r :: rest)) : V p l e R s m args below meth c cs ss Q nL A D T ad σ pc lv (.ref (ad 0) :: rest) :=
  V_callV C [] ct cal_X10_wipe (TB_in 391 (by decide +kernel) (by decide +kernel)) (TB_in 392 (by decide +kernel) (by decide +kernel)) (TB_in 393 (by decide +kernel) (by decide +kernel)) hR (by omega) rfl rfl hav rfl hrm d hf kk
theorem cal_X11_wipe : Cal yX11_wipe cX11_wipe 2 (some .int) 0 := ⟨(TB_in 992 (by decide +kernel) (by decide +kernel)), (TB_in 80 (by decide +kernel) (by decide +kernel)), ⟨by decide +kernel, by decide +kernel⟩, by decide +kernel⟩
theorem cs_L_22 {p : Program} {l : Launch} {e : Env} {R : Room} {s : State} {m : MethodId} {args : Array Value} {below : List Frame} {meth : Method} {c : Code} {cs ss : Nat} {Q : State → Prop} {nL : Nat} {A : Nat → Prop} {D : va_G} {T : Nat → ClassId} {ad zz : Nat → Nat} {σ σ' : Mem} {pc : Nat} {lv : List (Nat × Value)} {rest : List Value} {cc : ByteArray} (C : Cx p s m c cc nL RL A D T ad zz) {fr lo : Nat} {av : (Nat → Nat) → (Nat → Nat) → List Value} {r : Int32} (ct : Ct yX11_wipe cX11_wipe 2 (some .int) fr lo av σ (fun _ => some (.int r)) σ') (hav : av ad zz = [.ref (ad 11)]) (hR : fr + 1 ≤ R.frames ∧ 8 + (2 + 11) + lo ≤ R.locals) (hrm : (rest.map fun v => v.category).sum ≤ 8) (d : decode cc pc = .ok (.invokevirtual 22, 3)) (hf : cs ≤ R.cells ∧ ss ≤ R.slots) (kk : V p l e R s m args below meth c cs ss Q nL A D T ad σ' (pc + 3) lv (.int r :: rest)) : V p l e R s m args below meth c cs ss Q nL A D T ad σ pc lv (.ref (ad 11) :: rest) :=
  V_callV C [] ct cal_X11_wipe (TB_in 989 (by decide +kernel) (by decide +kernel)) (TB_in 990 (by decide +kernel) (by decide +kernel)) (TB_in 991 (by decide +kernel) (by decide +kernel)) hR (by omega) rfl rfl hav rfl hrm d hf kk
theorem cal_X10_fault : Cal yX10_fault cX10_fault 1 (some .int) 0 := ⟨(TB_in 398 (by decide +kernel) (by decide +kernel)), (TB_in 68 (by decide +kernel) (by decide +kernel)), ⟨by decide +kernel, by decide +kernel⟩, by decide +kernel⟩
theorem cs_L_23 {p : Program} {l : Launch} {e : Env} {R : Room} {s : State} {m : MethodId} {args : Array Value} {below : List Frame} {meth : Method} {c : Code} {cs ss : Nat} {Q : State → Prop} {nL : Nat} {A : Nat → Prop} {D : va_G} {T : Nat → ClassId} {ad zz : Nat → Nat} {σ σ' : Mem} {pc : Nat} {lv : List (Nat × Value)} {rest : List Value} {cc : ByteArray} (C : Cx p s m c cc nL RL A D T ad zz) {fr lo : Nat} {av : (Nat → Nat) → (Nat → Nat) → List Value} {r : Int32} (ct : Ct yX10_fault cX10_fault 1 (some .int) fr lo av σ (fun _ => some (.int r)) σ') (hav : av ad zz = [.ref (ad 0)]) (hR : fr + 1 ≤ R.frames ∧ 8 + (1 + 11) + lo ≤ R.locals) (hrm : (rest.map fun v => v.category).sum ≤ 8) (d : decode cc pc = .ok (.invokevirtual 23, 3)) (hf : cs ≤ R.cells ∧ ss ≤ R.slots) (kk : V p l e R s m args below meth c cs ss Q nL A D T ad σ' (pc + 3) lv (.int r :: rest)) : V p l e R s m args below meth c cs ss Q nL A D T ad σ pc lv (.ref (ad 0) :: rest) :=
  V_callV C [] ct cal_X10_fault (TB_in 395 (by decide +kernel) (by decide +kernel)) (TB_in 396 (by decide +kernel) (by decide +kernel)) (TB_in 397 (by decide +kernel) (by decide +kernel)) hR (by omega) rfl rfl hav rfl hrm d hf kk
theorem cal_X11_fault : Cal yX11_fault cX11_fault 1 (some .int) 0 := ⟨(TB_in 996 (by decide +kernel) (by decide +kernel)), (TB_in 80 (by decide +kernel) (by decide +kernel)), ⟨by decide +kernel, by decide +kernel⟩, by decide +kernel⟩
theorem cs_L_26 {p : Program} {l : Launch} {e : Env} {R : Room} {s : State} {m : MethodId} {args : Array Value} {below : List Frame} {meth : Method} {c : Code} {cs ss : Nat} {Q : State → Prop} {nL : Nat} {A : Nat → Prop} {D : va_G} {T : Nat → ClassId} {ad zz : Nat → Nat} {σ σ' : Mem} {pc : Nat} {lv : List (Nat × Value)} {rest : List Value} {cc : ByteArray} (C : Cx p s m c cc nL RL A D T ad zz) {fr lo : Nat} {av : (Nat → Nat) → (Nat → Nat) → List Value} {r : Int32} (ct : Ct yX11_fault cX11_fault 1 (some .int) fr lo av σ (fun _ => some (.int r)) σ') (hav : av ad zz = [.ref (ad 11)]) (hR : fr + 1 ≤ R.frames ∧ 8 + (1 + 11) + lo ≤ R.locals) (hrm : (rest.map fun v => v.category).sum ≤ 8) (d : decode cc pc = .ok (.invokevirtual 26, 3)) (hf : cs ≤ R.cells ∧ ss ≤ R.slots) (kk : V p l e R s m args below meth c cs ss Q nL A D T ad σ' (pc + 3) lv (.int r :: rest)) : V p l e R s m args below meth c cs ss Q nL A D T ad σ pc lv (.ref (ad 11) :: rest) :=
  V_callV C [] ct cal_X11_fault (TB_in 993 (by decide +kernel) (by decide +kernel)) (TB_in 994 (by decide +kernel) (by decide +kernel)) (TB_in 995 (by decide +kernel) (by decide +kernel)) hR (by omega) rfl rfl hav rfl hrm d hf kk
theorem cal_X10_fair : Cal yX10_fair cX10_fair 1 (some .int) 0 := ⟨(TB_in 441 (by decide +kernel) (by decide +kernel)), (TB_in 68 (by decide +kernel) (by decide +kernel)), ⟨by decide +kernel, by decide +kernel⟩, by decide +kernel⟩
theorem cs_L_27 {p : Program} {l : Launch} {e : Env} {R : Room} {s : State} {m : MethodId} {args : Array Value} {below : List Frame} {meth : Method} {c : Code} {cs ss : Nat} {Q : State → Prop} {nL : Nat} {A : Nat → Prop} {D : va_G} {T : Nat → ClassId} {ad zz : Nat → Nat} {σ σ' : Mem} {pc : Nat} {lv : List (Nat × Value)} {rest : List Value} {cc : ByteArray} (C : Cx p s m c cc nL RL A D T ad zz) {fr lo : Nat} {av : (Nat → Nat) → (Nat → Nat) → List Value} {r : Int32} (ct : Ct yX10_fair cX10_fair 1 (some .int) fr lo av σ (fun _ => some (.int r)) σ') (hav : av ad zz = [.ref (ad 0)]) (hR : fr + 1 ≤ R.frames ∧ 8 + (1 + 11) + lo ≤ R.locals) (hrm : (rest.map fun v => v.category).sum ≤ 8) (d : decode cc pc = .ok (.invokevirtual 27, 3)) (hf : cs ≤ R.cells ∧ ss ≤ R.slots) (kk : V p l e R s m args below meth c cs ss Q nL A D T ad σ' (pc + 3) lv (.int r :: rest)) : V p l e R s m args below meth c cs ss Q nL A D T ad σ pc lv (.ref (ad 0) :: rest) :=
  V_callV C [] ct cal_X10_fair (TB_in 438 (by decide +kernel) (by decide +kernel)) (TB_in 439 (by decide +kernel) (by decide +kernel)) (TB_in 440 (by decide +kernel) (by decide +kernel)) hR (by omega) rfl rfl hav rfl hrm d hf kk
theorem cal_X11_fair : Cal yX11_fair cX11_fair 2 (some .int) 0 := ⟨(TB_in 1020 (by decide +kernel) (by decide +kernel)), (TB_in 80 (by decide +kernel) (by decide +kernel)), ⟨by decide +kernel, by decide +kernel⟩, by decide +kernel⟩
theorem cs_L_30 {p : Program} {l : Launch} {e : Env} {R : Room} {s : State} {m : MethodId} {args : Array Value} {below : List Frame} {meth : Method} {c : Code} {cs ss : Nat} {Q : State → Prop} {nL : Nat} {A : Nat → Prop} {D : va_G} {T : Nat → ClassId} {ad zz : Nat → Nat} {σ σ' : Mem} {pc : Nat} {lv : List (Nat × Value)} {rest : List Value} {cc : ByteArray} (C : Cx p s m c cc nL RL A D T ad zz) {fr lo : Nat} {av : (Nat → Nat) → (Nat → Nat) → List Value} {r : Int32} (ct : Ct yX11_fair cX11_fair 2 (some .int) fr lo av σ (fun _ => some (.int r)) σ') (hav : av ad zz = [.ref (ad 11)]) (hR : fr + 1 ≤ R.frames ∧ 8 + (2 + 11) + lo ≤ R.locals) (hrm : (rest.map fun v => v.category).sum ≤ 8) (d : decode cc pc = .ok (.invokevirtual 30, 3)) (hf : cs ≤ R.cells ∧ ss ≤ R.slots) (kk : V p l e R s m args below meth c cs ss Q nL A D T ad σ' (pc + 3) lv (.int r :: rest)) : V p l e R s m args below meth c cs ss Q nL A D T ad σ pc lv (.ref (ad 11) :: rest) :=
  V_callV C [] ct cal_X11_fair (TB_in 1017 (by decide +kernel) (by decide +kernel)) (TB_in 1018 (by decide +kernel) (by decide +kernel)) (TB_in 1019 (by decide +kernel) (by decide +kernel)) hR (by omega) rfl rfl hav rfl hrm d hf kk
theorem cal_X10_about : Cal yX10_about cX10_about 2 (some .int) 1 := ⟨(TB_in 487 (by decide +kernel) (by decide +kernel)), (TB_in 68 (by decide +kernel) (by decide +kernel)), ⟨by decide +kernel, by decide +kernel⟩, by decide +kernel⟩
theorem cs_L_31 {p : Program} {l : Launch} {e : Env} {R : Room} {s : State} {m : MethodId} {args : Array Value} {below : List Frame} {meth : Method} {c : Code} {cs ss : Nat} {Q : State → Prop} {nL : Nat} {A : Nat → Prop} {D : va_G} {T : Nat → ClassId} {ad zz : Nat → Nat} {σ σ' : Mem} {pc : Nat} {lv : List (Nat × Value)} {rest : List Value} {cc : ByteArray} (C : Cx p s m c cc nL RL A D T ad zz) {fr lo : Nat} {av : (Nat → Nat) → (Nat → Nat) → List Value} {r : Int32} {v1 : Value} (ct : Ct yX10_about cX10_about 2 (some .int) fr lo av σ (fun _ => some (.int r)) σ') (hav : av ad zz = [.ref (ad 0), v1]) (hR : fr + 1 ≤ R.frames ∧ 8 + (2 + 11) + lo ≤ R.locals) (hrm : (rest.map fun v => v.category).sum ≤ 8) (d : decode cc pc = .ok (.invokevirtual 31, 3)) (hf : cs ≤ R.cells ∧ ss ≤ R.slots) (kk : V p l e R s m args below meth c cs ss Q nL A D T ad σ' (pc + 3) lv (.int r :: rest)) : V p l e R s m args below meth c cs ss Q nL A D T ad σ pc lv (v1 :: .ref (ad 0) :: rest) :=
  V_callV C [v1] ct cal_X10_about (TB_in 484 (by decide +kernel) (by decide +kernel)) (TB_in 485 (by decide +kernel) (by decide +kernel)) (TB_in 486 (by decide +kernel) (by decide +kernel)) hR (by omega) rfl rfl hav rfl hrm d hf kk
theorem cal_X11_about : Cal yX11_about cX11_about 2 (some .int) 1 := ⟨(TB_in 1024 (by decide +kernel) (by decide +kernel)), (TB_in 80 (by decide +kernel) (by decide +kernel)), ⟨by decide +kernel, by decide +kernel⟩, by decide +kernel⟩
theorem cs_L_34 {p : Program} {l : Launch} {e : Env} {R : Room} {s : State} {m : MethodId} {args : Array Value} {below : List Frame} {meth : Method} {c : Code} {cs ss : Nat} {Q : State → Prop} {nL : Nat} {A : Nat → Prop} {D : va_G} {T : Nat → ClassId} {ad zz : Nat → Nat} {σ σ' : Mem} {pc : Nat} {lv : List (Nat × Value)} {rest : List Value} {cc : ByteArray} (C : Cx p s m c cc nL RL A D T ad zz) {fr lo : Nat} {av : (Nat → Nat) → (Nat → Nat) → List Value} {r : Int32} {v1 : Value} (ct : Ct yX11_about cX11_about 2 (some .int) fr lo av σ (fun _ => some (.int r)) σ') (hav : av ad zz = [.ref (ad 11), v1]) (hR : fr + 1 ≤ R.frames ∧ 8 + (2 + 11) + lo ≤ R.locals) (hrm : (rest.map fun v => v.category).sum ≤ 8) (d : decode cc pc = .ok (.invokevirtual 34, 3)) (hf : cs ≤ R.cells ∧ ss ≤ R.slots) (kk : V p l e R s m args below meth c cs ss Q nL A D T ad σ' (pc + 3) lv (.int r :: rest)) : V p l e R s m args below meth c cs ss Q nL A D T ad σ pc lv (v1 :: .ref (ad 11) :: rest) :=
  V_callV C [v1] ct cal_X11_about (TB_in 1021 (by decide +kernel) (by decide +kernel)) (TB_in 1022 (by decide +kernel) (by decide +kernel)) (TB_in 1023 (by decide +kernel) (by decide +kernel)) hR (by omega) rfl rfl hav rfl hrm d hf kk
theorem cal_X10_horse : Cal yX10_horse cX10_horse 3 (some .int) 2 := ⟨(TB_in 552 (by decide +kernel) (by decide +kernel)), (TB_in 68 (by decide +kernel) (by decide +kernel)), ⟨by decide +kernel, by decide +kernel⟩, by decide +kernel⟩
theorem cs_L_35 {p : Program} {l : Launch} {e : Env} {R : Room} {s : State} {m : MethodId} {args : Array Value} {below : List Frame} {meth : Method} {c : Code} {cs ss : Nat} {Q : State → Prop} {nL : Nat} {A : Nat → Prop} {D : va_G} {T : Nat → ClassId} {ad zz : Nat → Nat} {σ σ' : Mem} {pc : Nat} {lv : List (Nat × Value)} {rest : List Value} {cc : ByteArray} (C : Cx p s m c cc nL RL A D T ad zz) {fr lo : Nat} {av : (Nat → Nat) → (Nat → Nat) → List Value} {r : Int32} {v1 v2 : Value} (ct : Ct yX10_horse cX10_horse 3 (some .int) fr lo av σ (fun _ => some (.int r)) σ') (hav : av ad zz = [.ref (ad 0), v1, v2]) (hR : fr + 1 ≤ R.frames ∧ 8 + (3 + 11) + lo ≤ R.locals) (hrm : (rest.map fun v => v.category).sum ≤ 8) (d : decode cc pc = .ok (.invokevirtual 35, 3)) (hf : cs ≤ R.cells ∧ ss ≤ R.slots) (kk : V p l e R s m args below meth c cs ss Q nL A D T ad σ' (pc + 3) lv (.int r :: rest)) : V p l e R s m args below meth c cs ss Q nL A D T ad σ pc lv (v2 :: v1 :: .ref (ad 0) :: rest) :=
  V_callV C [v1, v2] ct cal_X10_horse (TB_in 549 (by decide +kernel) (by decide +kernel)) (TB_in 550 (by decide +kernel) (by decide +kernel)) (TB_in 551 (by decide +kernel) (by decide +kernel)) hR (by omega) rfl rfl hav rfl hrm d hf kk
theorem cal_X11_horse : Cal yX11_horse cX11_horse 4 (some .int) 2 := ⟨(TB_in 1075 (by decide +kernel) (by decide +kernel)), (TB_in 80 (by decide +kernel) (by decide +kernel)), ⟨by decide +kernel, by decide +kernel⟩, by decide +kernel⟩
theorem cs_L_39 {p : Program} {l : Launch} {e : Env} {R : Room} {s : State} {m : MethodId} {args : Array Value} {below : List Frame} {meth : Method} {c : Code} {cs ss : Nat} {Q : State → Prop} {nL : Nat} {A : Nat → Prop} {D : va_G} {T : Nat → ClassId} {ad zz : Nat → Nat} {σ σ' : Mem} {pc : Nat} {lv : List (Nat × Value)} {rest : List Value} {cc : ByteArray} (C : Cx p s m c cc nL RL A D T ad zz) {fr lo : Nat} {av : (Nat → Nat) → (Nat → Nat) → List Value} {r : Int32} {v1 v2 : Value} (ct : Ct yX11_horse cX11_horse 4 (some .int) fr lo av σ (fun _ => some (.int r)) σ') (hav : av ad zz = [.ref (ad 11), v1, v2]) (hR : fr + 1 ≤ R.frames ∧ 8 + (4 + 11) + lo ≤ R.locals) (hrm : (rest.map fun v => v.category).sum ≤ 8) (d : decode cc pc = .ok (.invokevirtual 39, 3)) (hf : cs ≤ R.cells ∧ ss ≤ R.slots) (kk : V p l e R s m args below meth c cs ss Q nL A D T ad σ' (pc + 3) lv (.int r :: rest)) : V p l e R s m args below meth c cs ss Q nL A D T ad σ pc lv (v2 :: v1 :: .ref (ad 11) :: rest) :=
  V_callV C [v1, v2] ct cal_X11_horse (TB_in 1072 (by decide +kernel) (by decide +kernel)) (TB_in 1073 (by decide +kernel) (by decide +kernel)) (TB_in 1074 (by decide +kernel) (by decide +kernel)) hR (by omega) rfl rfl hav rfl hrm d hf kk
theorem cal_X10_rider : Cal yX10_rider cX10_rider 3 (some .int) 2 := ⟨(TB_in 565 (by decide +kernel) (by decide +kernel)), (TB_in 68 (by decide +kernel) (by decide +kernel)), ⟨by decide +kernel, by decide +kernel⟩, by decide +kernel⟩
theorem cs_L_40 {p : Program} {l : Launch} {e : Env} {R : Room} {s : State} {m : MethodId} {args : Array Value} {below : List Frame} {meth : Method} {c : Code} {cs ss : Nat} {Q : State → Prop} {nL : Nat} {A : Nat → Prop} {D : va_G} {T : Nat → ClassId} {ad zz : Nat → Nat} {σ σ' : Mem} {pc : Nat} {lv : List (Nat × Value)} {rest : List Value} {cc : ByteArray} (C : Cx p s m c cc nL RL A D T ad zz) {fr lo : Nat} {av : (Nat → Nat) → (Nat → Nat) → List Value} {r : Int32} {v1 v2 : Value} (ct : Ct yX10_rider cX10_rider 3 (some .int) fr lo av σ (fun _ => some (.int r)) σ') (hav : av ad zz = [.ref (ad 0), v1, v2]) (hR : fr + 1 ≤ R.frames ∧ 8 + (3 + 11) + lo ≤ R.locals) (hrm : (rest.map fun v => v.category).sum ≤ 8) (d : decode cc pc = .ok (.invokevirtual 40, 3)) (hf : cs ≤ R.cells ∧ ss ≤ R.slots) (kk : V p l e R s m args below meth c cs ss Q nL A D T ad σ' (pc + 3) lv (.int r :: rest)) : V p l e R s m args below meth c cs ss Q nL A D T ad σ pc lv (v2 :: v1 :: .ref (ad 0) :: rest) :=
  V_callV C [v1, v2] ct cal_X10_rider (TB_in 562 (by decide +kernel) (by decide +kernel)) (TB_in 563 (by decide +kernel) (by decide +kernel)) (TB_in 564 (by decide +kernel) (by decide +kernel)) hR (by omega) rfl rfl hav rfl hrm d hf kk
theorem cal_X11_rider : Cal yX11_rider cX11_rider 3 (some .int) 2 := ⟨(TB_in 1083 (by decide +kernel) (by decide +kernel)), (TB_in 80 (by decide +kernel) (by decide +kernel)), ⟨by decide +kernel, by decide +kernel⟩, by decide +kernel⟩
theorem cs_L_43 {p : Program} {l : Launch} {e : Env} {R : Room} {s : State} {m : MethodId} {args : Array Value} {below : List Frame} {meth : Method} {c : Code} {cs ss : Nat} {Q : State → Prop} {nL : Nat} {A : Nat → Prop} {D : va_G} {T : Nat → ClassId} {ad zz : Nat → Nat} {σ σ' : Mem} {pc : Nat} {lv : List (Nat × Value)} {rest : List Value} {cc : ByteArray} (C : Cx p s m c cc nL RL A D T ad zz) {fr lo : Nat} {av : (Nat → Nat) → (Nat → Nat) → List Value} {r : Int32} {v1 v2 : Value} (ct : Ct yX11_rider cX11_rider 3 (some .int) fr lo av σ (fun _ => some (.int r)) σ') (hav : av ad zz = [.ref (ad 11), v1, v2]) (hR : fr + 1 ≤ R.frames ∧ 8 + (3 + 11) + lo ≤ R.locals) (hrm : (rest.map fun v => v.category).sum ≤ 8) (d : decode cc pc = .ok (.invokevirtual 43, 3)) (hf : cs ≤ R.cells ∧ ss ≤ R.slots) (kk : V p l e R s m args below meth c cs ss Q nL A D T ad σ' (pc + 3) lv (.int r :: rest)) : V p l e R s m args below meth c cs ss Q nL A D T ad σ pc lv (v2 :: v1 :: .ref (ad 11) :: rest) :=
  V_callV C [v1, v2] ct cal_X11_rider (TB_in 1080 (by decide +kernel) (by decide +kernel)) (TB_in 1081 (by decide +kernel) (by decide +kernel)) (TB_in 1082 (by decide +kernel) (by decide +kernel)) hR (by omega) rfl rfl hav rfl hrm d hf kk
theorem cal_X10_worth : Cal yX10_worth cX10_worth 3 (some .int) 2 := ⟨(TB_in 586 (by decide +kernel) (by decide +kernel)), (TB_in 68 (by decide +kernel) (by decide +kernel)), ⟨by decide +kernel, by decide +kernel⟩, by decide +kernel⟩
theorem cs_L_44 {p : Program} {l : Launch} {e : Env} {R : Room} {s : State} {m : MethodId} {args : Array Value} {below : List Frame} {meth : Method} {c : Code} {cs ss : Nat} {Q : State → Prop} {nL : Nat} {A : Nat → Prop} {D : va_G} {T : Nat → ClassId} {ad zz : Nat → Nat} {σ σ' : Mem} {pc : Nat} {lv : List (Nat × Value)} {rest : List Value} {cc : ByteArray} (C : Cx p s m c cc nL RL A D T ad zz) {fr lo : Nat} {av : (Nat → Nat) → (Nat → Nat) → List Value} {r : Int32} {v1 v2 : Value} (ct : Ct yX10_worth cX10_worth 3 (some .int) fr lo av σ (fun _ => some (.int r)) σ') (hav : av ad zz = [.ref (ad 0), v1, v2]) (hR : fr + 1 ≤ R.frames ∧ 8 + (3 + 11) + lo ≤ R.locals) (hrm : (rest.map fun v => v.category).sum ≤ 8) (d : decode cc pc = .ok (.invokevirtual 44, 3)) (hf : cs ≤ R.cells ∧ ss ≤ R.slots) (kk : V p l e R s m args below meth c cs ss Q nL A D T ad σ' (pc + 3) lv (.int r :: rest)) : V p l e R s m args below meth c cs ss Q nL A D T ad σ pc lv (v2 :: v1 :: .ref (ad 0) :: rest) :=
  V_callV C [v1, v2] ct cal_X10_worth (TB_in 583 (by decide +kernel) (by decide +kernel)) (TB_in 584 (by decide +kernel) (by decide +kernel)) (TB_in 585 (by decide +kernel) (by decide +kernel)) hR (by omega) rfl rfl hav rfl hrm d hf kk
theorem cal_X11_worth : Cal yX11_worth cX11_worth 3 (some .int) 2 := ⟨(TB_in 1095 (by decide +kernel) (by decide +kernel)), (TB_in 80 (by decide +kernel) (by decide +kernel)), ⟨by decide +kernel, by decide +kernel⟩, by decide +kernel⟩
theorem cs_L_47 {p : Program} {l : Launch} {e : Env} {R : Room} {s : State} {m : MethodId} {args : Array Value} {below : List Frame} {meth : Method} {c : Code} {cs ss : Nat} {Q : State → Prop} {nL : Nat} {A : Nat → Prop} {D : va_G} {T : Nat → ClassId} {ad zz : Nat → Nat} {σ σ' : Mem} {pc : Nat} {lv : List (Nat × Value)} {rest : List Value} {cc : ByteArray} (C : Cx p s m c cc nL RL A D T ad zz) {fr lo : Nat} {av : (Nat → Nat) → (Nat → Nat) → List Value} {r : Int32} {v1 v2 : Value} (ct : Ct yX11_worth cX11_worth 3 (some .int) fr lo av σ (fun _ => some (.int r)) σ') (hav : av ad zz = [.ref (ad 11), v1, v2]) (hR : fr + 1 ≤ R.frames ∧ 8 + (3 + 11) + lo ≤ R.locals) (hrm : (rest.map fun v => v.category).sum ≤ 8) (d : decode cc pc = .ok (.invokevirtual 47, 3)) (hf : cs ≤ R.cells ∧ ss ≤ R.slots) (kk : V p l e R s m args below meth c cs ss Q nL A D T ad σ' (pc + 3) lv (.int r :: rest)) : V p l e R s m args below meth c cs ss Q nL A D T ad σ pc lv (v2 :: v1 :: .ref (ad 11) :: rest) :=
  V_callV C [v1, v2] ct cal_X11_worth (TB_in 1092 (by decide +kernel) (by decide +kernel)) (TB_in 1093 (by decide +kernel) (by decide +kernel)) (TB_in 1094 (by decide +kernel) (by decide +kernel)) hR (by omega) rfl rfl hav rfl hrm d hf kk
theorem cal_X10_lead : Cal yX10_lead cX10_lead 3 (some .int) 2 := ⟨(TB_in 591 (by decide +kernel) (by decide +kernel)), (TB_in 68 (by decide +kernel) (by decide +kernel)), ⟨by decide +kernel, by decide +kernel⟩, by decide +kernel⟩
theorem cs_L_48 {p : Program} {l : Launch} {e : Env} {R : Room} {s : State} {m : MethodId} {args : Array Value} {below : List Frame} {meth : Method} {c : Code} {cs ss : Nat} {Q : State → Prop} {nL : Nat} {A : Nat → Prop} {D : va_G} {T : Nat → ClassId} {ad zz : Nat → Nat} {σ σ' : Mem} {pc : Nat} {lv : List (Nat × Value)} {rest : List Value} {cc : ByteArray} (C : Cx p s m c cc nL RL A D T ad zz) {fr lo : Nat} {av : (Nat → Nat) → (Nat → Nat) → List Value} {r : Int32} {v1 v2 : Value} (ct : Ct yX10_lead cX10_lead 3 (some .int) fr lo av σ (fun _ => some (.int r)) σ') (hav : av ad zz = [.ref (ad 0), v1, v2]) (hR : fr + 1 ≤ R.frames ∧ 8 + (3 + 11) + lo ≤ R.locals) (hrm : (rest.map fun v => v.category).sum ≤ 8) (d : decode cc pc = .ok (.invokevirtual 48, 3)) (hf : cs ≤ R.cells ∧ ss ≤ R.slots) (kk : V p l e R s m args below meth c cs ss Q nL A D T ad σ' (pc + 3) lv (.int r :: rest)) : V p l e R s m args below meth c cs ss Q nL A D T ad σ pc lv (v2 :: v1 :: .ref (ad 0) :: rest) :=
  V_callV C [v1, v2] ct cal_X10_lead (TB_in 588 (by decide +kernel) (by decide +kernel)) (TB_in 589 (by decide +kernel) (by decide +kernel)) (TB_in 590 (by decide +kernel) (by decide +kernel)) hR (by omega) rfl rfl hav rfl hrm d hf kk
theorem cal_X11_lead : Cal yX11_lead cX11_lead 3 (some .int) 2 := ⟨(TB_in 1099 (by decide +kernel) (by decide +kernel)), (TB_in 80 (by decide +kernel) (by decide +kernel)), ⟨by decide +kernel, by decide +kernel⟩, by decide +kernel⟩
theorem cs_L_51 {p : Program} {l : Launch} {e : Env} {R : Room} {s : State} {m : MethodId} {args : Array Value} {below : List Frame} {meth : Method} {c : Code} {cs ss : Nat} {Q : State → Prop} {nL : Nat} {A : Nat → Prop} {D : va_G} {T : Nat → ClassId} {ad zz : Nat → Nat} {σ σ' : Mem} {pc : Nat} {lv : List (Nat × Value)} {rest : List Value} {cc : ByteArray} (C : Cx p s m c cc nL RL A D T ad zz) {fr lo : Nat} {av : (Nat → Nat) → (Nat → Nat) → List Value} {r : Int32} {v1 v2 : Value} (ct : Ct yX11_lead cX11_lead 3 (some .int) fr lo av σ (fun _ => some (.int r)) σ') (hav : av ad zz = [.ref (ad 11), v1, v2]) (hR : fr + 1 ≤ R.frames ∧ 8 + (3 + 11) + lo ≤ R.locals) (hrm : (rest.map fun v => v.category).sum ≤ 8) (d : decode cc pc = .ok (.invokevirtual 51, 3)) (hf : cs ≤ R.cells ∧ ss ≤ R.slots) (kk : V p l e R s m args below meth c cs ss Q nL A D T ad σ' (pc + 3) lv (.int r :: rest)) : V p l e R s m args below meth c cs ss Q nL A D T ad σ pc lv (v2 :: v1 :: .ref (ad 11) :: rest) :=
  V_callV C [v1, v2] ct cal_X11_lead (TB_in 1096 (by decide +kernel) (by decide +kernel)) (TB_in 1097 (by decide +kernel) (by decide +kernel)) (TB_in 1098 (by decide +kernel) (by decide +kernel)) hR (by omega) rfl rfl hav rfl hrm d hf kk
theorem cal_X10_dress : Cal yX10_dress cX10_dress 4 (some .int) 2 := ⟨(TB_in 624 (by decide +kernel) (by decide +kernel)), (TB_in 68 (by decide +kernel) (by decide +kernel)), ⟨by decide +kernel, by decide +kernel⟩, by decide +kernel⟩
theorem cs_L_52 {p : Program} {l : Launch} {e : Env} {R : Room} {s : State} {m : MethodId} {args : Array Value} {below : List Frame} {meth : Method} {c : Code} {cs ss : Nat} {Q : State → Prop} {nL : Nat} {A : Nat → Prop} {D : va_G} {T : Nat → ClassId} {ad zz : Nat → Nat} {σ σ' : Mem} {pc : Nat} {lv : List (Nat × Value)} {rest : List Value} {cc : ByteArray} (C : Cx p s m c cc nL RL A D T ad zz) {fr lo : Nat} {av : (Nat → Nat) → (Nat → Nat) → List Value} {r : Int32} {v1 v2 : Value} (ct : Ct yX10_dress cX10_dress 4 (some .int) fr lo av σ (fun _ => some (.int r)) σ') (hav : av ad zz = [.ref (ad 0), v1, v2]) (hR : fr + 1 ≤ R.frames ∧ 8 + (4 + 11) + lo ≤ R.locals) (hrm : (rest.map fun v => v.category).sum ≤ 8) (d : decode cc pc = .ok (.invokevirtual 52, 3)) (hf : cs ≤ R.cells ∧ ss ≤ R.slots) (kk : V p l e R s m args below meth c cs ss Q nL A D T ad σ' (pc + 3) lv (.int r :: rest)) : V p l e R s m args below meth c cs ss Q nL A D T ad σ pc lv (v2 :: v1 :: .ref (ad 0) :: rest) :=
  V_callV C [v1, v2] ct cal_X10_dress (TB_in 621 (by decide +kernel) (by decide +kernel)) (TB_in 622 (by decide +kernel) (by decide +kernel)) (TB_in 623 (by decide +kernel) (by decide +kernel)) hR (by omega) rfl rfl hav rfl hrm d hf kk
theorem cal_X11_dress : Cal yX11_dress cX11_dress 3 (some .int) 2 := ⟨(TB_in 1111 (by decide +kernel) (by decide +kernel)), (TB_in 80 (by decide +kernel) (by decide +kernel)), ⟨by decide +kernel, by decide +kernel⟩, by decide +kernel⟩
theorem cs_L_55 {p : Program} {l : Launch} {e : Env} {R : Room} {s : State} {m : MethodId} {args : Array Value} {below : List Frame} {meth : Method} {c : Code} {cs ss : Nat} {Q : State → Prop} {nL : Nat} {A : Nat → Prop} {D : va_G} {T : Nat → ClassId} {ad zz : Nat → Nat} {σ σ' : Mem} {pc : Nat} {lv : List (Nat × Value)} {rest : List Value} {cc : ByteArray} (C : Cx p s m c cc nL RL A D T ad zz) {fr lo : Nat} {av : (Nat → Nat) → (Nat → Nat) → List Value} {r : Int32} {v1 v2 : Value} (ct : Ct yX11_dress cX11_dress 3 (some .int) fr lo av σ (fun _ => some (.int r)) σ') (hav : av ad zz = [.ref (ad 11), v1, v2]) (hR : fr + 1 ≤ R.frames ∧ 8 + (3 + 11) + lo ≤ R.locals) (hrm : (rest.map fun v => v.category).sum ≤ 8) (d : decode cc pc = .ok (.invokevirtual 55, 3)) (hf : cs ≤ R.cells ∧ ss ≤ R.slots) (kk : V p l e R s m args below meth c cs ss Q nL A D T ad σ' (pc + 3) lv (.int r :: rest)) : V p l e R s m args below meth c cs ss Q nL A D T ad σ pc lv (v2 :: v1 :: .ref (ad 11) :: rest) :=
  V_callV C [v1, v2] ct cal_X11_dress (TB_in 1108 (by decide +kernel) (by decide +kernel)) (TB_in 1109 (by decide +kernel) (by decide +kernel)) (TB_in 1110 (by decide +kernel) (by decide +kernel)) hR (by omega) rfl rfl hav rfl hrm d hf kk
theorem cal_X10_giveBack : Cal yX10_giveBack cX10_giveBack 3 (some .int) 1 := ⟨(TB_in 632 (by decide +kernel) (by decide +kernel)), (TB_in 68 (by decide +kernel) (by decide +kernel)), ⟨by decide +kernel, by decide +kernel⟩, by decide +kernel⟩
theorem cs_L_56 {p : Program} {l : Launch} {e : Env} {R : Room} {s : State} {m : MethodId} {args : Array Value} {below : List Frame} {meth : Method} {c : Code} {cs ss : Nat} {Q : State → Prop} {nL : Nat} {A : Nat → Prop} {D : va_G} {T : Nat → ClassId} {ad zz : Nat → Nat} {σ σ' : Mem} {pc : Nat} {lv : List (Nat × Value)} {rest : List Value} {cc : ByteArray} (C : Cx p s m c cc nL RL A D T ad zz) {fr lo : Nat} {av : (Nat → Nat) → (Nat → Nat) → List Value} {r : Int32} {v1 : Value} (ct : Ct yX10_giveBack cX10_giveBack 3 (some .int) fr lo av σ (fun _ => some (.int r)) σ') (hav : av ad zz = [.ref (ad 0), v1]) (hR : fr + 1 ≤ R.frames ∧ 8 + (3 + 11) + lo ≤ R.locals) (hrm : (rest.map fun v => v.category).sum ≤ 8) (d : decode cc pc = .ok (.invokevirtual 56, 3)) (hf : cs ≤ R.cells ∧ ss ≤ R.slots) (kk : V p l e R s m args below meth c cs ss Q nL A D T ad σ' (pc + 3) lv (.int r :: rest)) : V p l e R s m args below meth c cs ss Q nL A D T ad σ pc lv (v1 :: .ref (ad 0) :: rest) :=
  V_callV C [v1] ct cal_X10_giveBack (TB_in 629 (by decide +kernel) (by decide +kernel)) (TB_in 630 (by decide +kernel) (by decide +kernel)) (TB_in 631 (by decide +kernel) (by decide +kernel)) hR (by omega) rfl rfl hav rfl hrm d hf kk
theorem cal_X11_giveBack : Cal yX11_giveBack cX11_giveBack 3 (some .int) 1 := ⟨(TB_in 1116 (by decide +kernel) (by decide +kernel)), (TB_in 80 (by decide +kernel) (by decide +kernel)), ⟨by decide +kernel, by decide +kernel⟩, by decide +kernel⟩
theorem cs_L_59 {p : Program} {l : Launch} {e : Env} {R : Room} {s : State} {m : MethodId} {args : Array Value} {below : List Frame} {meth : Method} {c : Code} {cs ss : Nat} {Q : State → Prop} {nL : Nat} {A : Nat → Prop} {D : va_G} {T : Nat → ClassId} {ad zz : Nat → Nat} {σ σ' : Mem} {pc : Nat} {lv : List (Nat × Value)} {rest : List Value} {cc : ByteArray} (C : Cx p s m c cc nL RL A D T ad zz) {fr lo : Nat} {av : (Nat → Nat) → (Nat → Nat) → List Value} {r : Int32} {v1 : Value} (ct : Ct yX11_giveBack cX11_giveBack 3 (some .int) fr lo av σ (fun _ => some (.int r)) σ') (hav : av ad zz = [.ref (ad 11), v1]) (hR : fr + 1 ≤ R.frames ∧ 8 + (3 + 11) + lo ≤ R.locals) (hrm : (rest.map fun v => v.category).sum ≤ 8) (d : decode cc pc = .ok (.invokevirtual 59, 3)) (hf : cs ≤ R.cells ∧ ss ≤ R.slots) (kk : V p l e R s m args below meth c cs ss Q nL A D T ad σ' (pc + 3) lv (.int r :: rest)) : V p l e R s m args below meth c cs ss Q nL A D T ad σ pc lv (v1 :: .ref (ad 11) :: rest) :=
  V_callV C [v1] ct cal_X11_giveBack (TB_in 1113 (by decide +kernel) (by decide +kernel)) (TB_in 1114 (by decide +kernel) (by decide +kernel)) (TB_in 1115 (by decide +kernel) (by decide +kernel)) hR (by omega) rfl rfl hav rfl hrm d hf kk
theorem cal_X10_bell : Cal yX10_bell cX10_bell 4 (some .int) 0 := ⟨(TB_in 637 (by decide +kernel) (by decide +kernel)), (TB_in 68 (by decide +kernel) (by decide +kernel)), ⟨by decide +kernel, by decide +kernel⟩, by decide +kernel⟩
theorem cs_L_60 {p : Program} {l : Launch} {e : Env} {R : Room} {s : State} {m : MethodId} {args : Array Value} {below : List Frame} {meth : Method} {c : Code} {cs ss : Nat} {Q : State → Prop} {nL : Nat} {A : Nat → Prop} {D : va_G} {T : Nat → ClassId} {ad zz : Nat → Nat} {σ σ' : Mem} {pc : Nat} {lv : List (Nat × Value)} {rest : List Value} {cc : ByteArray} (C : Cx p s m c cc nL RL A D T ad zz) {fr lo : Nat} {av : (Nat → Nat) → (Nat → Nat) → List Value} {r : Int32} (ct : Ct yX10_bell cX10_bell 4 (some .int) fr lo av σ (fun _ => some (.int r)) σ') (hav : av ad zz = [.ref (ad 0)]) (hR : fr + 1 ≤ R.frames ∧ 8 + (4 + 11) + lo ≤ R.locals) (hrm : (rest.map fun v => v.category).sum ≤ 8) (d : decode cc pc = .ok (.invokevirtual 60, 3)) (hf : cs ≤ R.cells ∧ ss ≤ R.slots) (kk : V p l e R s m args below meth c cs ss Q nL A D T ad σ' (pc + 3) lv (.int r :: rest)) : V p l e R s m args below meth c cs ss Q nL A D T ad σ pc lv (.ref (ad 0) :: rest) :=
  V_callV C [] ct cal_X10_bell (TB_in 634 (by decide +kernel) (by decide +kernel)) (TB_in 635 (by decide +kernel) (by decide +kernel)) (TB_in 636 (by decide +kernel) (by decide +kernel)) hR (by omega) rfl rfl hav rfl hrm d hf kk
theorem cal_X11_bell : Cal yX11_bell cX11_bell 3 (some .int) 0 := ⟨(TB_in 1120 (by decide +kernel) (by decide +kernel)), (TB_in 80 (by decide +kernel) (by decide +kernel)), ⟨by decide +kernel, by decide +kernel⟩, by decide +kernel⟩
theorem cs_L_63 {p : Program} {l : Launch} {e : Env} {R : Room} {s : State} {m : MethodId} {args : Array Value} {below : List Frame} {meth : Method} {c : Code} {cs ss : Nat} {Q : State → Prop} {nL : Nat} {A : Nat → Prop} {D : va_G} {T : Nat → ClassId} {ad zz : Nat → Nat} {σ σ' : Mem} {pc : Nat} {lv : List (Nat × Value)} {rest : List Value} {cc : ByteArray} (C : Cx p s m c cc nL RL A D T ad zz) {fr lo : Nat} {av : (Nat → Nat) → (Nat → Nat) → List Value} {r : Int32} (ct : Ct yX11_bell cX11_bell 3 (some .int) fr lo av σ (fun _ => some (.int r)) σ') (hav : av ad zz = [.ref (ad 11)]) (hR : fr + 1 ≤ R.frames ∧ 8 + (3 + 11) + lo ≤ R.locals) (hrm : (rest.map fun v => v.category).sum ≤ 8) (d : decode cc pc = .ok (.invokevirtual 63, 3)) (hf : cs ≤ R.cells ∧ ss ≤ R.slots) (kk : V p l e R s m args below meth c cs ss Q nL A D T ad σ' (pc + 3) lv (.int r :: rest)) : V p l e R s m args below meth c cs ss Q nL A D T ad σ pc lv (.ref (ad 11) :: rest) :=
  V_callV C [] ct cal_X11_bell (TB_in 1117 (by decide +kernel) (by decide +kernel)) (TB_in 1118 (by decide +kernel) (by decide +kernel)) (TB_in 1119 (by decide +kernel) (by decide +kernel)) hR (by omega) rfl rfl hav rfl hrm d hf kk
theorem cal_X10_undo : Cal yX10_undo cX10_undo 1 (some .int) 0 := ⟨(TB_in 643 (by decide +kernel) (by decide +kernel)), (TB_in 68 (by decide +kernel) (by decide +kernel)), ⟨by decide +kernel, by decide +kernel⟩, by decide +kernel⟩
theorem cs_L_64 {p : Program} {l : Launch} {e : Env} {R : Room} {s : State} {m : MethodId} {args : Array Value} {below : List Frame} {meth : Method} {c : Code} {cs ss : Nat} {Q : State → Prop} {nL : Nat} {A : Nat → Prop} {D : va_G} {T : Nat → ClassId} {ad zz : Nat → Nat} {σ σ' : Mem} {pc : Nat} {lv : List (Nat × Value)} {rest : List Value} {cc : ByteArray} (C : Cx p s m c cc nL RL A D T ad zz) {fr lo : Nat} {av : (Nat → Nat) → (Nat → Nat) → List Value} {r : Int32} (ct : Ct yX10_undo cX10_undo 1 (some .int) fr lo av σ (fun _ => some (.int r)) σ') (hav : av ad zz = [.ref (ad 0)]) (hR : fr + 1 ≤ R.frames ∧ 8 + (1 + 11) + lo ≤ R.locals) (hrm : (rest.map fun v => v.category).sum ≤ 8) (d : decode cc pc = .ok (.invokevirtual 64, 3)) (hf : cs ≤ R.cells ∧ ss ≤ R.slots) (kk : V p l e R s m args below meth c cs ss Q nL A D T ad σ' (pc + 3) lv (.int r :: rest)) : V p l e R s m args below meth c cs ss Q nL A D T ad σ pc lv (.ref (ad 0) :: rest) :=
  V_callV C [] ct cal_X10_undo (TB_in 640 (by decide +kernel) (by decide +kernel)) (TB_in 641 (by decide +kernel) (by decide +kernel)) (TB_in 642 (by decide +kernel) (by decide +kernel)) hR (by omega) rfl rfl hav rfl hrm d hf kk
theorem cal_X11_undo : Cal yX11_undo cX11_undo 2 (some .int) 0 := ⟨(TB_in 1124 (by decide +kernel) (by decide +kernel)), (TB_in 80 (by decide +kernel) (by decide +kernel)), ⟨by decide +kernel, by decide +kernel⟩, by decide +kernel⟩
theorem cs_L_67 {p : Program} {l : Launch} {e : Env} {R : Room} {s : State} {m : MethodId} {args : Array Value} {below : List Frame} {meth : Method} {c : Code} {cs ss : Nat} {Q : State → Prop} {nL : Nat} {A : Nat → Prop} {D : va_G} {T : Nat → ClassId} {ad zz : Nat → Nat} {σ σ' : Mem} {pc : Nat} {lv : List (Nat × Value)} {rest : List Value} {cc : ByteArray} (C : Cx p s m c cc nL RL A D T ad zz) {fr lo : Nat} {av : (Nat → Nat) → (Nat → Nat) → List Value} {r : Int32} (ct : Ct yX11_undo cX11_undo 2 (some .int) fr lo av σ (fun _ => some (.int r)) σ') (hav : av ad zz = [.ref (ad 11)]) (hR : fr + 1 ≤ R.frames ∧ 8 + (2 + 11) + lo ≤ R.locals) (hrm : (rest.map fun v => v.category).sum ≤ 8) (d : decode cc pc = .ok (.invokevirtual 67, 3)) (hf : cs ≤ R.cells ∧ ss ≤ R.slots) (kk : V p l e R s m args below meth c cs ss Q nL A D T ad σ' (pc + 3) lv (.int r :: rest)) : V p l e R s m args below meth c cs ss Q nL A D T ad σ pc lv (.ref (ad 11) :: rest) :=
  V_callV C [] ct cal_X11_undo (TB_in 1121 (by decide +kernel) (by decide +kernel)) (TB_in 1122 (by decide +kernel) (by decide +kernel)) (TB_in 1123 (by decide +kernel) (by decide +kernel)) hR (by omega) rfl rfl hav rfl hrm d hf kk
theorem cal_X10_bolts : Cal yX10_bolts cX10_bolts 3 (some .int) 2 := ⟨(TB_in 651 (by decide +kernel) (by decide +kernel)), (TB_in 68 (by decide +kernel) (by decide +kernel)), ⟨by decide +kernel, by decide +kernel⟩, by decide +kernel⟩
theorem cs_L_68 {p : Program} {l : Launch} {e : Env} {R : Room} {s : State} {m : MethodId} {args : Array Value} {below : List Frame} {meth : Method} {c : Code} {cs ss : Nat} {Q : State → Prop} {nL : Nat} {A : Nat → Prop} {D : va_G} {T : Nat → ClassId} {ad zz : Nat → Nat} {σ σ' : Mem} {pc : Nat} {lv : List (Nat × Value)} {rest : List Value} {cc : ByteArray} (C : Cx p s m c cc nL RL A D T ad zz) {fr lo : Nat} {av : (Nat → Nat) → (Nat → Nat) → List Value} {r : Int32} {v1 v2 : Value} (ct : Ct yX10_bolts cX10_bolts 3 (some .int) fr lo av σ (fun _ => some (.int r)) σ') (hav : av ad zz = [.ref (ad 0), v1, v2]) (hR : fr + 1 ≤ R.frames ∧ 8 + (3 + 11) + lo ≤ R.locals) (hrm : (rest.map fun v => v.category).sum ≤ 8) (d : decode cc pc = .ok (.invokevirtual 68, 3)) (hf : cs ≤ R.cells ∧ ss ≤ R.slots) (kk : V p l e R s m args below meth c cs ss Q nL A D T ad σ' (pc + 3) lv (.int r :: rest)) : V p l e R s m args below meth c cs ss Q nL A D T ad σ pc lv (v2 :: v1 :: .ref (ad 0) :: rest) :=
  V_callV C [v1, v2] ct cal_X10_bolts (TB_in 648 (by decide +kernel) (by decide +kernel)) (TB_in 649 (by decide +kernel) (by decide +kernel)) (TB_in 650 (by decide +kernel) (by decide +kernel)) hR (by omega) rfl rfl hav rfl hrm d hf kk
theorem cal_X11_bolts : Cal yX11_bolts cX11_bolts 3 (some .int) 2 := ⟨(TB_in 1128 (by decide +kernel) (by decide +kernel)), (TB_in 80 (by decide +kernel) (by decide +kernel)), ⟨by decide +kernel, by decide +kernel⟩, by decide +kernel⟩
theorem cs_L_71 {p : Program} {l : Launch} {e : Env} {R : Room} {s : State} {m : MethodId} {args : Array Value} {below : List Frame} {meth : Method} {c : Code} {cs ss : Nat} {Q : State → Prop} {nL : Nat} {A : Nat → Prop} {D : va_G} {T : Nat → ClassId} {ad zz : Nat → Nat} {σ σ' : Mem} {pc : Nat} {lv : List (Nat × Value)} {rest : List Value} {cc : ByteArray} (C : Cx p s m c cc nL RL A D T ad zz) {fr lo : Nat} {av : (Nat → Nat) → (Nat → Nat) → List Value} {r : Int32} {v1 v2 : Value} (ct : Ct yX11_bolts cX11_bolts 3 (some .int) fr lo av σ (fun _ => some (.int r)) σ') (hav : av ad zz = [.ref (ad 11), v1, v2]) (hR : fr + 1 ≤ R.frames ∧ 8 + (3 + 11) + lo ≤ R.locals) (hrm : (rest.map fun v => v.category).sum ≤ 8) (d : decode cc pc = .ok (.invokevirtual 71, 3)) (hf : cs ≤ R.cells ∧ ss ≤ R.slots) (kk : V p l e R s m args below meth c cs ss Q nL A D T ad σ' (pc + 3) lv (.int r :: rest)) : V p l e R s m args below meth c cs ss Q nL A D T ad σ pc lv (v2 :: v1 :: .ref (ad 11) :: rest) :=
  V_callV C [v1, v2] ct cal_X11_bolts (TB_in 1125 (by decide +kernel) (by decide +kernel)) (TB_in 1126 (by decide +kernel) (by decide +kernel)) (TB_in 1127 (by decide +kernel) (by decide +kernel)) hR (by omega) rfl rfl hav rfl hrm d hf kk
theorem cal_X10_held : Cal yX10_held cX10_held 3 (some .int) 2 := ⟨(TB_in 655 (by decide +kernel) (by decide +kernel)), (TB_in 68 (by decide +kernel) (by decide +kernel)), ⟨by decide +kernel, by decide +kernel⟩, by decide +kernel⟩
theorem cs_L_72 {p : Program} {l : Launch} {e : Env} {R : Room} {s : State} {m : MethodId} {args : Array Value} {below : List Frame} {meth : Method} {c : Code} {cs ss : Nat} {Q : State → Prop} {nL : Nat} {A : Nat → Prop} {D : va_G} {T : Nat → ClassId} {ad zz : Nat → Nat} {σ σ' : Mem} {pc : Nat} {lv : List (Nat × Value)} {rest : List Value} {cc : ByteArray} (C : Cx p s m c cc nL RL A D T ad zz) {fr lo : Nat} {av : (Nat → Nat) → (Nat → Nat) → List Value} {r : Int32} {v1 v2 : Value} (ct : Ct yX10_held cX10_held 3 (some .int) fr lo av σ (fun _ => some (.int r)) σ') (hav : av ad zz = [.ref (ad 0), v1, v2]) (hR : fr + 1 ≤ R.frames ∧ 8 + (3 + 11) + lo ≤ R.locals) (hrm : (rest.map fun v => v.category).sum ≤ 8) (d : decode cc pc = .ok (.invokevirtual 72, 3)) (hf : cs ≤ R.cells ∧ ss ≤ R.slots) (kk : V p l e R s m args below meth c cs ss Q nL A D T ad σ' (pc + 3) lv (.int r :: rest)) : V p l e R s m args below meth c cs ss Q nL A D T ad σ pc lv (v2 :: v1 :: .ref (ad 0) :: rest) :=
  V_callV C [v1, v2] ct cal_X10_held (TB_in 652 (by decide +kernel) (by decide +kernel)) (TB_in 653 (by decide +kernel) (by decide +kernel)) (TB_in 654 (by decide +kernel) (by decide +kernel)) hR (by omega) rfl rfl hav rfl hrm d hf kk
theorem cal_X11_held : Cal yX11_held cX11_held 3 (some .int) 2 := ⟨(TB_in 1132 (by decide +kernel) (by decide +kernel)), (TB_in 80 (by decide +kernel) (by decide +kernel)), ⟨by decide +kernel, by decide +kernel⟩, by decide +kernel⟩
theorem cs_L_76 {p : Program} {l : Launch} {e : Env} {R : Room} {s : State} {m : MethodId} {args : Array Value} {below : List Frame} {meth : Method} {c : Code} {cs ss : Nat} {Q : State → Prop} {nL : Nat} {A : Nat → Prop} {D : va_G} {T : Nat → ClassId} {ad zz : Nat → Nat} {σ σ' : Mem} {pc : Nat} {lv : List (Nat × Value)} {rest : List Value} {cc : ByteArray} (C : Cx p s m c cc nL RL A D T ad zz) {fr lo : Nat} {av : (Nat → Nat) → (Nat → Nat) → List Value} {r : Int32} {v1 v2 : Value} (ct : Ct yX11_held cX11_held 3 (some .int) fr lo av σ (fun _ => some (.int r)) σ') (hav : av ad zz = [.ref (ad 11), v1, v2]) (hR : fr + 1 ≤ R.frames ∧ 8 + (3 + 11) + lo ≤ R.locals) (hrm : (rest.map fun v => v.category).sum ≤ 8) (d : decode cc pc = .ok (.invokevirtual 76, 3)) (hf : cs ≤ R.cells ∧ ss ≤ R.slots) (kk : V p l e R s m args below meth c cs ss Q nL A D T ad σ' (pc + 3) lv (.int r :: rest)) : V p l e R s m args below meth c cs ss Q nL A D T ad σ pc lv (v2 :: v1 :: .ref (ad 11) :: rest) :=
  V_callV C [v1, v2] ct cal_X11_held (TB_in 1129 (by decide +kernel) (by decide +kernel)) (TB_in 1130 (by decide +kernel) (by decide +kernel)) (TB_in 1131 (by decide +kernel) (by decide +kernel)) hR (by omega) rfl rfl hav rfl hrm d hf kk
theorem cal_X10_holds : Cal yX10_holds cX10_holds 1 (some .int) 0 := ⟨(TB_in 698 (by decide +kernel) (by decide +kernel)), (TB_in 68 (by decide +kernel) (by decide +kernel)), ⟨by decide +kernel, by decide +kernel⟩, by decide +kernel⟩
theorem cs_L_77 {p : Program} {l : Launch} {e : Env} {R : Room} {s : State} {m : MethodId} {args : Array Value} {below : List Frame} {meth : Method} {c : Code} {cs ss : Nat} {Q : State → Prop} {nL : Nat} {A : Nat → Prop} {D : va_G} {T : Nat → ClassId} {ad zz : Nat → Nat} {σ σ' : Mem} {pc : Nat} {lv : List (Nat × Value)} {rest : List Value} {cc : ByteArray} (C : Cx p s m c cc nL RL A D T ad zz) {fr lo : Nat} {av : (Nat → Nat) → (Nat → Nat) → List Value} {r : Int32} (ct : Ct yX10_holds cX10_holds 1 (some .int) fr lo av σ (fun _ => some (.int r)) σ') (hav : av ad zz = [.ref (ad 0)]) (hR : fr + 1 ≤ R.frames ∧ 8 + (1 + 11) + lo ≤ R.locals) (hrm : (rest.map fun v => v.category).sum ≤ 8) (d : decode cc pc = .ok (.invokevirtual 77, 3)) (hf : cs ≤ R.cells ∧ ss ≤ R.slots) (kk : V p l e R s m args below meth c cs ss Q nL A D T ad σ' (pc + 3) lv (.int r :: rest)) : V p l e R s m args below meth c cs ss Q nL A D T ad σ pc lv (.ref (ad 0) :: rest) :=
  V_callV C [] ct cal_X10_holds (TB_in 695 (by decide +kernel) (by decide +kernel)) (TB_in 696 (by decide +kernel) (by decide +kernel)) (TB_in 697 (by decide +kernel) (by decide +kernel)) hR (by omega) rfl rfl hav rfl hrm d hf kk
theorem cal_X11_holds : Cal yX11_holds cX11_holds 1 (some .int) 0 := ⟨(TB_in 1163 (by decide +kernel) (by decide +kernel)), (TB_in 80 (by decide +kernel) (by decide +kernel)), ⟨by decide +kernel, by decide +kernel⟩, by decide +kernel⟩
theorem cs_L_80 {p : Program} {l : Launch} {e : Env} {R : Room} {s : State} {m : MethodId} {args : Array Value} {below : List Frame} {meth : Method} {c : Code} {cs ss : Nat} {Q : State → Prop} {nL : Nat} {A : Nat → Prop} {D : va_G} {T : Nat → ClassId} {ad zz : Nat → Nat} {σ σ' : Mem} {pc : Nat} {lv : List (Nat × Value)} {rest : List Value} {cc : ByteArray} (C : Cx p s m c cc nL RL A D T ad zz) {fr lo : Nat} {av : (Nat → Nat) → (Nat → Nat) → List Value} {r : Int32} (ct : Ct yX11_holds cX11_holds 1 (some .int) fr lo av σ (fun _ => some (.int r)) σ') (hav : av ad zz = [.ref (ad 11)]) (hR : fr + 1 ≤ R.frames ∧ 8 + (1 + 11) + lo ≤ R.locals) (hrm : (rest.map fun v => v.category).sum ≤ 8) (d : decode cc pc = .ok (.invokevirtual 80, 3)) (hf : cs ≤ R.cells ∧ ss ≤ R.slots) (kk : V p l e R s m args below meth c cs ss Q nL A D T ad σ' (pc + 3) lv (.int r :: rest)) : V p l e R s m args below meth c cs ss Q nL A D T ad σ pc lv (.ref (ad 11) :: rest) :=
  V_callV C [] ct cal_X11_holds (TB_in 1160 (by decide +kernel) (by decide +kernel)) (TB_in 1161 (by decide +kernel) (by decide +kernel)) (TB_in 1162 (by decide +kernel) (by decide +kernel)) hR (by omega) rfl rfl hav rfl hrm d hf kk
theorem cal_X10_sure : Cal yX10_sure cX10_sure 3 (some .int) 1 := ⟨(TB_in 741 (by decide +kernel) (by decide +kernel)), (TB_in 68 (by decide +kernel) (by decide +kernel)), ⟨by decide +kernel, by decide +kernel⟩, by decide +kernel⟩
theorem cs_L_81 {p : Program} {l : Launch} {e : Env} {R : Room} {s : State} {m : MethodId} {args : Array Value} {below : List Frame} {meth : Method} {c : Code} {cs ss : Nat} {Q : State → Prop} {nL : Nat} {A : Nat → Prop} {D : va_G} {T : Nat → ClassId} {ad zz : Nat → Nat} {σ σ' : Mem} {pc : Nat} {lv : List (Nat × Value)} {rest : List Value} {cc : ByteArray} (C : Cx p s m c cc nL RL A D T ad zz) {fr lo : Nat} {av : (Nat → Nat) → (Nat → Nat) → List Value} {r : Int32} {v1 : Value} (ct : Ct yX10_sure cX10_sure 3 (some .int) fr lo av σ (fun _ => some (.int r)) σ') (hav : av ad zz = [.ref (ad 0), v1]) (hR : fr + 1 ≤ R.frames ∧ 8 + (3 + 11) + lo ≤ R.locals) (hrm : (rest.map fun v => v.category).sum ≤ 8) (d : decode cc pc = .ok (.invokevirtual 81, 3)) (hf : cs ≤ R.cells ∧ ss ≤ R.slots) (kk : V p l e R s m args below meth c cs ss Q nL A D T ad σ' (pc + 3) lv (.int r :: rest)) : V p l e R s m args below meth c cs ss Q nL A D T ad σ pc lv (v1 :: .ref (ad 0) :: rest) :=
  V_callV C [v1] ct cal_X10_sure (TB_in 738 (by decide +kernel) (by decide +kernel)) (TB_in 739 (by decide +kernel) (by decide +kernel)) (TB_in 740 (by decide +kernel) (by decide +kernel)) hR (by omega) rfl rfl hav rfl hrm d hf kk
theorem cal_X11_sure : Cal yX11_sure cX11_sure 2 (some .int) 1 := ⟨(TB_in 1187 (by decide +kernel) (by decide +kernel)), (TB_in 80 (by decide +kernel) (by decide +kernel)), ⟨by decide +kernel, by decide +kernel⟩, by decide +kernel⟩
theorem cs_L_84 {p : Program} {l : Launch} {e : Env} {R : Room} {s : State} {m : MethodId} {args : Array Value} {below : List Frame} {meth : Method} {c : Code} {cs ss : Nat} {Q : State → Prop} {nL : Nat} {A : Nat → Prop} {D : va_G} {T : Nat → ClassId} {ad zz : Nat → Nat} {σ σ' : Mem} {pc : Nat} {lv : List (Nat × Value)} {rest : List Value} {cc : ByteArray} (C : Cx p s m c cc nL RL A D T ad zz) {fr lo : Nat} {av : (Nat → Nat) → (Nat → Nat) → List Value} {r : Int32} {v1 : Value} (ct : Ct yX11_sure cX11_sure 2 (some .int) fr lo av σ (fun _ => some (.int r)) σ') (hav : av ad zz = [.ref (ad 11), v1]) (hR : fr + 1 ≤ R.frames ∧ 8 + (2 + 11) + lo ≤ R.locals) (hrm : (rest.map fun v => v.category).sum ≤ 8) (d : decode cc pc = .ok (.invokevirtual 84, 3)) (hf : cs ≤ R.cells ∧ ss ≤ R.slots) (kk : V p l e R s m args below meth c cs ss Q nL A D T ad σ' (pc + 3) lv (.int r :: rest)) : V p l e R s m args below meth c cs ss Q nL A D T ad σ pc lv (v1 :: .ref (ad 11) :: rest) :=
  V_callV C [v1] ct cal_X11_sure (TB_in 1184 (by decide +kernel) (by decide +kernel)) (TB_in 1185 (by decide +kernel) (by decide +kernel)) (TB_in 1186 (by decide +kernel) (by decide +kernel)) hR (by omega) rfl rfl hav rfl hrm d hf kk
theorem cal_X10_forged : Cal yX10_forged cX10_forged 8 (some .int) 3 := ⟨(TB_in 746 (by decide +kernel) (by decide +kernel)), (TB_in 68 (by decide +kernel) (by decide +kernel)), ⟨by decide +kernel, by decide +kernel⟩, by decide +kernel⟩
theorem cs_L_85 {p : Program} {l : Launch} {e : Env} {R : Room} {s : State} {m : MethodId} {args : Array Value} {below : List Frame} {meth : Method} {c : Code} {cs ss : Nat} {Q : State → Prop} {nL : Nat} {A : Nat → Prop} {D : va_G} {T : Nat → ClassId} {ad zz : Nat → Nat} {σ σ' : Mem} {pc : Nat} {lv : List (Nat × Value)} {rest : List Value} {cc : ByteArray} (C : Cx p s m c cc nL RL A D T ad zz) {fr lo : Nat} {av : (Nat → Nat) → (Nat → Nat) → List Value} {r : Int32} {v1 v2 v3 : Value} (ct : Ct yX10_forged cX10_forged 8 (some .int) fr lo av σ (fun _ => some (.int r)) σ') (hav : av ad zz = [.ref (ad 0), v1, v2, v3]) (hR : fr + 1 ≤ R.frames ∧ 8 + (8 + 11) + lo ≤ R.locals) (hrm : (rest.map fun v => v.category).sum ≤ 8) (d : decode cc pc = .ok (.invokevirtual 85, 3)) (hf : cs ≤ R.cells ∧ ss ≤ R.slots) (kk : V p l e R s m args below meth c cs ss Q nL A D T ad σ' (pc + 3) lv (.int r :: rest)) : V p l e R s m args below meth c cs ss Q nL A D T ad σ pc lv (v3 :: v2 :: v1 :: .ref (ad 0) :: rest) :=
  V_callV C [v1, v2, v3] ct cal_X10_forged (TB_in 743 (by decide +kernel) (by decide +kernel)) (TB_in 744 (by decide +kernel) (by decide +kernel)) (TB_in 745 (by decide +kernel) (by decide +kernel)) hR (by omega) rfl rfl hav rfl hrm d hf kk
theorem cal_X11_forged : Cal yX11_forged cX11_forged 12 (some .int) 3 := ⟨(TB_in 1191 (by decide +kernel) (by decide +kernel)), (TB_in 80 (by decide +kernel) (by decide +kernel)), ⟨by decide +kernel, by decide +kernel⟩, by decide +kernel⟩
theorem cs_L_89 {p : Program} {l : Launch} {e : Env} {R : Room} {s : State} {m : MethodId} {args : Array Value} {below : List Frame} {meth : Method} {c : Code} {cs ss : Nat} {Q : State → Prop} {nL : Nat} {A : Nat → Prop} {D : va_G} {T : Nat → ClassId} {ad zz : Nat → Nat} {σ σ' : Mem} {pc : Nat} {lv : List (Nat × Value)} {rest : List Value} {cc : ByteArray} (C : Cx p s m c cc nL RL A D T ad zz) {fr lo : Nat} {av : (Nat → Nat) → (Nat → Nat) → List Value} {r : Int32} {v1 v2 v3 : Value} (ct : Ct yX11_forged cX11_forged 12 (some .int) fr lo av σ (fun _ => some (.int r)) σ') (hav : av ad zz = [.ref (ad 11), v1, v2, v3]) (hR : fr + 1 ≤ R.frames ∧ 8 + (12 + 11) + lo ≤ R.locals) (hrm : (rest.map fun v => v.category).sum ≤ 8) (d : decode cc pc = .ok (.invokevirtual 89, 3)) (hf : cs ≤ R.cells ∧ ss ≤ R.slots) (kk : V p l e R s m args below meth c cs ss Q nL A D T ad σ' (pc + 3) lv (.int r :: rest)) : V p l e R s m args below meth c cs ss Q nL A D T ad σ pc lv (v3 :: v2 :: v1 :: .ref (ad 11) :: rest) :=
  V_callV C [v1, v2, v3] ct cal_X11_forged (TB_in 1188 (by decide +kernel) (by decide +kernel)) (TB_in 1189 (by decide +kernel) (by decide +kernel)) (TB_in 1190 (by decide +kernel) (by decide +kernel)) hR (by omega) rfl rfl hav rfl hrm d hf kk
theorem cal_X10_left : Cal yX10_left cX10_left 3 (some .int) 0 := ⟨(TB_in 755 (by decide +kernel) (by decide +kernel)), (TB_in 68 (by decide +kernel) (by decide +kernel)), ⟨by decide +kernel, by decide +kernel⟩, by decide +kernel⟩
theorem cs_L_90 {p : Program} {l : Launch} {e : Env} {R : Room} {s : State} {m : MethodId} {args : Array Value} {below : List Frame} {meth : Method} {c : Code} {cs ss : Nat} {Q : State → Prop} {nL : Nat} {A : Nat → Prop} {D : va_G} {T : Nat → ClassId} {ad zz : Nat → Nat} {σ σ' : Mem} {pc : Nat} {lv : List (Nat × Value)} {rest : List Value} {cc : ByteArray} (C : Cx p s m c cc nL RL A D T ad zz) {fr lo : Nat} {av : (Nat → Nat) → (Nat → Nat) → List Value} {r : Int32} (ct : Ct yX10_left cX10_left 3 (some .int) fr lo av σ (fun _ => some (.int r)) σ') (hav : av ad zz = [.ref (ad 0)]) (hR : fr + 1 ≤ R.frames ∧ 8 + (3 + 11) + lo ≤ R.locals) (hrm : (rest.map fun v => v.category).sum ≤ 8) (d : decode cc pc = .ok (.invokevirtual 90, 3)) (hf : cs ≤ R.cells ∧ ss ≤ R.slots) (kk : V p l e R s m args below meth c cs ss Q nL A D T ad σ' (pc + 3) lv (.int r :: rest)) : V p l e R s m args below meth c cs ss Q nL A D T ad σ pc lv (.ref (ad 0) :: rest) :=
  V_callV C [] ct cal_X10_left (TB_in 752 (by decide +kernel) (by decide +kernel)) (TB_in 753 (by decide +kernel) (by decide +kernel)) (TB_in 754 (by decide +kernel) (by decide +kernel)) hR (by omega) rfl rfl hav rfl hrm d hf kk
theorem cal_X11_left : Cal yX11_left cX11_left 3 (some .int) 0 := ⟨(TB_in 1195 (by decide +kernel) (by decide +kernel)), (TB_in 80 (by decide +kernel) (by decide +kernel)), ⟨by decide +kernel, by decide +kernel⟩, by decide +kernel⟩
theorem cs_L_93 {p : Program} {l : Launch} {e : Env} {R : Room} {s : State} {m : MethodId} {args : Array Value} {below : List Frame} {meth : Method} {c : Code} {cs ss : Nat} {Q : State → Prop} {nL : Nat} {A : Nat → Prop} {D : va_G} {T : Nat → ClassId} {ad zz : Nat → Nat} {σ σ' : Mem} {pc : Nat} {lv : List (Nat × Value)} {rest : List Value} {cc : ByteArray} (C : Cx p s m c cc nL RL A D T ad zz) {fr lo : Nat} {av : (Nat → Nat) → (Nat → Nat) → List Value} {r : Int32} (ct : Ct yX11_left cX11_left 3 (some .int) fr lo av σ (fun _ => some (.int r)) σ') (hav : av ad zz = [.ref (ad 11)]) (hR : fr + 1 ≤ R.frames ∧ 8 + (3 + 11) + lo ≤ R.locals) (hrm : (rest.map fun v => v.category).sum ≤ 8) (d : decode cc pc = .ok (.invokevirtual 93, 3)) (hf : cs ≤ R.cells ∧ ss ≤ R.slots) (kk : V p l e R s m args below meth c cs ss Q nL A D T ad σ' (pc + 3) lv (.int r :: rest)) : V p l e R s m args below meth c cs ss Q nL A D T ad σ pc lv (.ref (ad 11) :: rest) :=
  V_callV C [] ct cal_X11_left (TB_in 1192 (by decide +kernel) (by decide +kernel)) (TB_in 1193 (by decide +kernel) (by decide +kernel)) (TB_in 1194 (by decide +kernel) (by decide +kernel)) hR (by omega) rfl rfl hav rfl hrm d hf kk
theorem cal_X10_race : Cal yX10_race cX10_race 1 (some .int) 0 := ⟨(TB_in 760 (by decide +kernel) (by decide +kernel)), (TB_in 68 (by decide +kernel) (by decide +kernel)), ⟨by decide +kernel, by decide +kernel⟩, by decide +kernel⟩
theorem cs_L_94 {p : Program} {l : Launch} {e : Env} {R : Room} {s : State} {m : MethodId} {args : Array Value} {below : List Frame} {meth : Method} {c : Code} {cs ss : Nat} {Q : State → Prop} {nL : Nat} {A : Nat → Prop} {D : va_G} {T : Nat → ClassId} {ad zz : Nat → Nat} {σ σ' : Mem} {pc : Nat} {lv : List (Nat × Value)} {rest : List Value} {cc : ByteArray} (C : Cx p s m c cc nL RL A D T ad zz) {fr lo : Nat} {av : (Nat → Nat) → (Nat → Nat) → List Value} {r : Int32} (ct : Ct yX10_race cX10_race 1 (some .int) fr lo av σ (fun _ => some (.int r)) σ') (hav : av ad zz = [.ref (ad 0)]) (hR : fr + 1 ≤ R.frames ∧ 8 + (1 + 11) + lo ≤ R.locals) (hrm : (rest.map fun v => v.category).sum ≤ 8) (d : decode cc pc = .ok (.invokevirtual 94, 3)) (hf : cs ≤ R.cells ∧ ss ≤ R.slots) (kk : V p l e R s m args below meth c cs ss Q nL A D T ad σ' (pc + 3) lv (.int r :: rest)) : V p l e R s m args below meth c cs ss Q nL A D T ad σ pc lv (.ref (ad 0) :: rest) :=
  V_callV C [] ct cal_X10_race (TB_in 757 (by decide +kernel) (by decide +kernel)) (TB_in 758 (by decide +kernel) (by decide +kernel)) (TB_in 759 (by decide +kernel) (by decide +kernel)) hR (by omega) rfl rfl hav rfl hrm d hf kk
theorem cal_X11_race : Cal yX11_race cX11_race 1 (some .int) 0 := ⟨(TB_in 1199 (by decide +kernel) (by decide +kernel)), (TB_in 80 (by decide +kernel) (by decide +kernel)), ⟨by decide +kernel, by decide +kernel⟩, by decide +kernel⟩
theorem cs_L_97 {p : Program} {l : Launch} {e : Env} {R : Room} {s : State} {m : MethodId} {args : Array Value} {below : List Frame} {meth : Method} {c : Code} {cs ss : Nat} {Q : State → Prop} {nL : Nat} {A : Nat → Prop} {D : va_G} {T : Nat → ClassId} {ad zz : Nat → Nat} {σ σ' : Mem} {pc : Nat} {lv : List (Nat × Value)} {rest : List Value} {cc : ByteArray} (C : Cx p s m c cc nL RL A D T ad zz) {fr lo : Nat} {av : (Nat → Nat) → (Nat → Nat) → List Value} {r : Int32} (ct : Ct yX11_race cX11_race 1 (some .int) fr lo av σ (fun _ => some (.int r)) σ') (hav : av ad zz = [.ref (ad 11)]) (hR : fr + 1 ≤ R.frames ∧ 8 + (1 + 11) + lo ≤ R.locals) (hrm : (rest.map fun v => v.category).sum ≤ 8) (d : decode cc pc = .ok (.invokevirtual 97, 3)) (hf : cs ≤ R.cells ∧ ss ≤ R.slots) (kk : V p l e R s m args below meth c cs ss Q nL A D T ad σ' (pc + 3) lv (.int r :: rest)) : V p l e R s m args below meth c cs ss Q nL A D T ad σ pc lv (.ref (ad 11) :: rest) :=
  V_callV C [] ct cal_X11_race (TB_in 1196 (by decide +kernel) (by decide +kernel)) (TB_in 1197 (by decide +kernel) (by decide +kernel)) (TB_in 1198 (by decide +kernel) (by decide +kernel)) hR (by omega) rfl rfl hav rfl hrm d hf kk
theorem cal_X10_raceOf : Cal yX10_raceOf cX10_raceOf 3 (some .int) 1 := ⟨(TB_in 776 (by decide +kernel) (by decide +kernel)), (TB_in 68 (by decide +kernel) (by decide +kernel)), ⟨by decide +kernel, by decide +kernel⟩, by decide +kernel⟩
theorem cs_L_98 {p : Program} {l : Launch} {e : Env} {R : Room} {s : State} {m : MethodId} {args : Array Value} {below : List Frame} {meth : Method} {c : Code} {cs ss : Nat} {Q : State → Prop} {nL : Nat} {A : Nat → Prop} {D : va_G} {T : Nat → ClassId} {ad zz : Nat → Nat} {σ σ' : Mem} {pc : Nat} {lv : List (Nat × Value)} {rest : List Value} {cc : ByteArray} (C : Cx p s m c cc nL RL A D T ad zz) {fr lo : Nat} {av : (Nat → Nat) → (Nat → Nat) → List Value} {r : Int32} {v1 : Value} (ct : Ct yX10_raceOf cX10_raceOf 3 (some .int) fr lo av σ (fun _ => some (.int r)) σ') (hav : av ad zz = [.ref (ad 0), v1]) (hR : fr + 1 ≤ R.frames ∧ 8 + (3 + 11) + lo ≤ R.locals) (hrm : (rest.map fun v => v.category).sum ≤ 8) (d : decode cc pc = .ok (.invokevirtual 98, 3)) (hf : cs ≤ R.cells ∧ ss ≤ R.slots) (kk : V p l e R s m args below meth c cs ss Q nL A D T ad σ' (pc + 3) lv (.int r :: rest)) : V p l e R s m args below meth c cs ss Q nL A D T ad σ pc lv (v1 :: .ref (ad 0) :: rest) :=
  V_callV C [v1] ct cal_X10_raceOf (TB_in 773 (by decide +kernel) (by decide +kernel)) (TB_in 774 (by decide +kernel) (by decide +kernel)) (TB_in 775 (by decide +kernel) (by decide +kernel)) hR (by omega) rfl rfl hav rfl hrm d hf kk
theorem cal_X11_raceOf : Cal yX11_raceOf cX11_raceOf 2 (some .int) 1 := ⟨(TB_in 1207 (by decide +kernel) (by decide +kernel)), (TB_in 80 (by decide +kernel) (by decide +kernel)), ⟨by decide +kernel, by decide +kernel⟩, by decide +kernel⟩
theorem cs_L_101 {p : Program} {l : Launch} {e : Env} {R : Room} {s : State} {m : MethodId} {args : Array Value} {below : List Frame} {meth : Method} {c : Code} {cs ss : Nat} {Q : State → Prop} {nL : Nat} {A : Nat → Prop} {D : va_G} {T : Nat → ClassId} {ad zz : Nat → Nat} {σ σ' : Mem} {pc : Nat} {lv : List (Nat × Value)} {rest : List Value} {cc : ByteArray} (C : Cx p s m c cc nL RL A D T ad zz) {fr lo : Nat} {av : (Nat → Nat) → (Nat → Nat) → List Value} {r : Int32} {v1 : Value} (ct : Ct yX11_raceOf cX11_raceOf 2 (some .int) fr lo av σ (fun _ => some (.int r)) σ') (hav : av ad zz = [.ref (ad 11), v1]) (hR : fr + 1 ≤ R.frames ∧ 8 + (2 + 11) + lo ≤ R.locals) (hrm : (rest.map fun v => v.category).sum ≤ 8) (d : decode cc pc = .ok (.invokevirtual 101, 3)) (hf : cs ≤ R.cells ∧ ss ≤ R.slots) (kk : V p l e R s m args below meth c cs ss Q nL A D T ad σ' (pc + 3) lv (.int r :: rest)) : V p l e R s m args below meth c cs ss Q nL A D T ad σ pc lv (v1 :: .ref (ad 11) :: rest) :=
  V_callV C [v1] ct cal_X11_raceOf (TB_in 1204 (by decide +kernel) (by decide +kernel)) (TB_in 1205 (by decide +kernel) (by decide +kernel)) (TB_in 1206 (by decide +kernel) (by decide +kernel)) hR (by omega) rfl rfl hav rfl hrm d hf kk
theorem cal_X10_choose : Cal yX10_choose cX10_choose 3 (some .int) 2 := ⟨(TB_in 780 (by decide +kernel) (by decide +kernel)), (TB_in 68 (by decide +kernel) (by decide +kernel)), ⟨by decide +kernel, by decide +kernel⟩, by decide +kernel⟩
theorem cs_L_102 {p : Program} {l : Launch} {e : Env} {R : Room} {s : State} {m : MethodId} {args : Array Value} {below : List Frame} {meth : Method} {c : Code} {cs ss : Nat} {Q : State → Prop} {nL : Nat} {A : Nat → Prop} {D : va_G} {T : Nat → ClassId} {ad zz : Nat → Nat} {σ σ' : Mem} {pc : Nat} {lv : List (Nat × Value)} {rest : List Value} {cc : ByteArray} (C : Cx p s m c cc nL RL A D T ad zz) {fr lo : Nat} {av : (Nat → Nat) → (Nat → Nat) → List Value} {r : Int32} {v1 v2 : Value} (ct : Ct yX10_choose cX10_choose 3 (some .int) fr lo av σ (fun _ => some (.int r)) σ') (hav : av ad zz = [.ref (ad 0), v1, v2]) (hR : fr + 1 ≤ R.frames ∧ 8 + (3 + 11) + lo ≤ R.locals) (hrm : (rest.map fun v => v.category).sum ≤ 8) (d : decode cc pc = .ok (.invokevirtual 102, 3)) (hf : cs ≤ R.cells ∧ ss ≤ R.slots) (kk : V p l e R s m args below meth c cs ss Q nL A D T ad σ' (pc + 3) lv (.int r :: rest)) : V p l e R s m args below meth c cs ss Q nL A D T ad σ pc lv (v2 :: v1 :: .ref (ad 0) :: rest) :=
  V_callV C [v1, v2] ct cal_X10_choose (TB_in 777 (by decide +kernel) (by decide +kernel)) (TB_in 778 (by decide +kernel) (by decide +kernel)) (TB_in 779 (by decide +kernel) (by decide +kernel)) hR (by omega) rfl rfl hav rfl hrm d hf kk
theorem cal_X11_choose : Cal yX11_choose cX11_choose 3 (some .int) 2 := ⟨(TB_in 1211 (by decide +kernel) (by decide +kernel)), (TB_in 80 (by decide +kernel) (by decide +kernel)), ⟨by decide +kernel, by decide +kernel⟩, by decide +kernel⟩
theorem cs_L_105 {p : Program} {l : Launch} {e : Env} {R : Room} {s : State} {m : MethodId} {args : Array Value} {below : List Frame} {meth : Method} {c : Code} {cs ss : Nat} {Q : State → Prop} {nL : Nat} {A : Nat → Prop} {D : va_G} {T : Nat → ClassId} {ad zz : Nat → Nat} {σ σ' : Mem} {pc : Nat} {lv : List (Nat × Value)} {rest : List Value} {cc : ByteArray} (C : Cx p s m c cc nL RL A D T ad zz) {fr lo : Nat} {av : (Nat → Nat) → (Nat → Nat) → List Value} {r : Int32} {v1 v2 : Value} (ct : Ct yX11_choose cX11_choose 3 (some .int) fr lo av σ (fun _ => some (.int r)) σ') (hav : av ad zz = [.ref (ad 11), v1, v2]) (hR : fr + 1 ≤ R.frames ∧ 8 + (3 + 11) + lo ≤ R.locals) (hrm : (rest.map fun v => v.category).sum ≤ 8) (d : decode cc pc = .ok (.invokevirtual 105, 3)) (hf : cs ≤ R.cells ∧ ss ≤ R.slots) (kk : V p l e R s m args below meth c cs ss Q nL A D T ad σ' (pc + 3) lv (.int r :: rest)) : V p l e R s m args below meth c cs ss Q nL A D T ad σ pc lv (v2 :: v1 :: .ref (ad 11) :: rest) :=
  V_callV C [v1, v2] ct cal_X11_choose (TB_in 1208 (by decide +kernel) (by decide +kernel)) (TB_in 1209 (by decide +kernel) (by decide +kernel)) (TB_in 1210 (by decide +kernel) (by decide +kernel)) hR (by omega) rfl rfl hav rfl hrm d hf kk
theorem cal_X10_unchoose : Cal yX10_unchoose cX10_unchoose 2 (some .int) 0 := ⟨(TB_in 789 (by decide +kernel) (by decide +kernel)), (TB_in 68 (by decide +kernel) (by decide +kernel)), ⟨by decide +kernel, by decide +kernel⟩, by decide +kernel⟩
theorem cs_L_106 {p : Program} {l : Launch} {e : Env} {R : Room} {s : State} {m : MethodId} {args : Array Value} {below : List Frame} {meth : Method} {c : Code} {cs ss : Nat} {Q : State → Prop} {nL : Nat} {A : Nat → Prop} {D : va_G} {T : Nat → ClassId} {ad zz : Nat → Nat} {σ σ' : Mem} {pc : Nat} {lv : List (Nat × Value)} {rest : List Value} {cc : ByteArray} (C : Cx p s m c cc nL RL A D T ad zz) {fr lo : Nat} {av : (Nat → Nat) → (Nat → Nat) → List Value} {r : Int32} (ct : Ct yX10_unchoose cX10_unchoose 2 (some .int) fr lo av σ (fun _ => some (.int r)) σ') (hav : av ad zz = [.ref (ad 0)]) (hR : fr + 1 ≤ R.frames ∧ 8 + (2 + 11) + lo ≤ R.locals) (hrm : (rest.map fun v => v.category).sum ≤ 8) (d : decode cc pc = .ok (.invokevirtual 106, 3)) (hf : cs ≤ R.cells ∧ ss ≤ R.slots) (kk : V p l e R s m args below meth c cs ss Q nL A D T ad σ' (pc + 3) lv (.int r :: rest)) : V p l e R s m args below meth c cs ss Q nL A D T ad σ pc lv (.ref (ad 0) :: rest) :=
  V_callV C [] ct cal_X10_unchoose (TB_in 786 (by decide +kernel) (by decide +kernel)) (TB_in 787 (by decide +kernel) (by decide +kernel)) (TB_in 788 (by decide +kernel) (by decide +kernel)) hR (by omega) rfl rfl hav rfl hrm d hf kk
theorem cal_X11_unchoose : Cal yX11_unchoose cX11_unchoose 2 (some .int) 0 := ⟨(TB_in 1215 (by decide +kernel) (by decide +kernel)), (TB_in 80 (by decide +kernel) (by decide +kernel)), ⟨by decide +kernel, by decide +kernel⟩, by decide +kernel⟩
theorem cs_L_109 {p : Program} {l : Launch} {e : Env} {R : Room} {s : State} {m : MethodId} {args : Array Value} {below : List Frame} {meth : Method} {c : Code} {cs ss : Nat} {Q : State → Prop} {nL : Nat} {A : Nat → Prop} {D : va_G} {T : Nat → ClassId} {ad zz : Nat → Nat} {σ σ' : Mem} {pc : Nat} {lv : List (Nat × Value)} {rest : List Value} {cc : ByteArray} (C : Cx p s m c cc nL RL A D T ad zz) {fr lo : Nat} {av : (Nat → Nat) → (Nat → Nat) → List Value} {r : Int32} (ct : Ct yX11_unchoose cX11_unchoose 2 (some .int) fr lo av σ (fun _ => some (.int r)) σ') (hav : av ad zz = [.ref (ad 11)]) (hR : fr + 1 ≤ R.frames ∧ 8 + (2 + 11) + lo ≤ R.locals) (hrm : (rest.map fun v => v.category).sum ≤ 8) (d : decode cc pc = .ok (.invokevirtual 109, 3)) (hf : cs ≤ R.cells ∧ ss ≤ R.slots) (kk : V p l e R s m args below meth c cs ss Q nL A D T ad σ' (pc + 3) lv (.int r :: rest)) : V p l e R s m args below meth c cs ss Q nL A D T ad σ pc lv (.ref (ad 11) :: rest) :=
  V_callV C [] ct cal_X11_unchoose (TB_in 1212 (by decide +kernel) (by decide +kernel)) (TB_in 1213 (by decide +kernel) (by decide +kernel)) (TB_in 1214 (by decide +kernel) (by decide +kernel)) hR (by omega) rfl rfl hav rfl hrm d hf kk
theorem cal_X10_learnt : Cal yX10_learnt cX10_learnt 4 (some .int) 1 := ⟨(TB_in 793 (by decide +kernel) (by decide +kernel)), (TB_in 68 (by decide +kernel) (by decide +kernel)), ⟨by decide +kernel, by decide +kernel⟩, by decide +kernel⟩
theorem cs_L_110 {p : Program} {l : Launch} {e : Env} {R : Room} {s : State} {m : MethodId} {args : Array Value} {below : List Frame} {meth : Method} {c : Code} {cs ss : Nat} {Q : State → Prop} {nL : Nat} {A : Nat → Prop} {D : va_G} {T : Nat → ClassId} {ad zz : Nat → Nat} {σ σ' : Mem} {pc : Nat} {lv : List (Nat × Value)} {rest : List Value} {cc : ByteArray} (C : Cx p s m c cc nL RL A D T ad zz) {fr lo : Nat} {av : (Nat → Nat) → (Nat → Nat) → List Value} {r : Int32} {v1 : Value} (ct : Ct yX10_learnt cX10_learnt 4 (some .int) fr lo av σ (fun _ => some (.int r)) σ') (hav : av ad zz = [.ref (ad 0), v1]) (hR : fr + 1 ≤ R.frames ∧ 8 + (4 + 11) + lo ≤ R.locals) (hrm : (rest.map fun v => v.category).sum ≤ 8) (d : decode cc pc = .ok (.invokevirtual 110, 3)) (hf : cs ≤ R.cells ∧ ss ≤ R.slots) (kk : V p l e R s m args below meth c cs ss Q nL A D T ad σ' (pc + 3) lv (.int r :: rest)) : V p l e R s m args below meth c cs ss Q nL A D T ad σ pc lv (v1 :: .ref (ad 0) :: rest) :=
  V_callV C [v1] ct cal_X10_learnt (TB_in 790 (by decide +kernel) (by decide +kernel)) (TB_in 791 (by decide +kernel) (by decide +kernel)) (TB_in 792 (by decide +kernel) (by decide +kernel)) hR (by omega) rfl rfl hav rfl hrm d hf kk
theorem cal_X11_learnt : Cal yX11_learnt cX11_learnt 5 (some .int) 1 := ⟨(TB_in 1219 (by decide +kernel) (by decide +kernel)), (TB_in 80 (by decide +kernel) (by decide +kernel)), ⟨by decide +kernel, by decide +kernel⟩, by decide +kernel⟩
theorem cs_L_113 {p : Program} {l : Launch} {e : Env} {R : Room} {s : State} {m : MethodId} {args : Array Value} {below : List Frame} {meth : Method} {c : Code} {cs ss : Nat} {Q : State → Prop} {nL : Nat} {A : Nat → Prop} {D : va_G} {T : Nat → ClassId} {ad zz : Nat → Nat} {σ σ' : Mem} {pc : Nat} {lv : List (Nat × Value)} {rest : List Value} {cc : ByteArray} (C : Cx p s m c cc nL RL A D T ad zz) {fr lo : Nat} {av : (Nat → Nat) → (Nat → Nat) → List Value} {r : Int32} {v1 : Value} (ct : Ct yX11_learnt cX11_learnt 5 (some .int) fr lo av σ (fun _ => some (.int r)) σ') (hav : av ad zz = [.ref (ad 11), v1]) (hR : fr + 1 ≤ R.frames ∧ 8 + (5 + 11) + lo ≤ R.locals) (hrm : (rest.map fun v => v.category).sum ≤ 8) (d : decode cc pc = .ok (.invokevirtual 113, 3)) (hf : cs ≤ R.cells ∧ ss ≤ R.slots) (kk : V p l e R s m args below meth c cs ss Q nL A D T ad σ' (pc + 3) lv (.int r :: rest)) : V p l e R s m args below meth c cs ss Q nL A D T ad σ pc lv (v1 :: .ref (ad 11) :: rest) :=
  V_callV C [v1] ct cal_X11_learnt (TB_in 1216 (by decide +kernel) (by decide +kernel)) (TB_in 1217 (by decide +kernel) (by decide +kernel)) (TB_in 1218 (by decide +kernel) (by decide +kernel)) hR (by omega) rfl rfl hav rfl hrm d hf kk
theorem cal_X10_next : Cal yX10_next cX10_next 10 (some .int) 0 := ⟨(TB_in 821 (by decide +kernel) (by decide +kernel)), (TB_in 68 (by decide +kernel) (by decide +kernel)), ⟨by decide +kernel, by decide +kernel⟩, by decide +kernel⟩
theorem cs_L_114 {p : Program} {l : Launch} {e : Env} {R : Room} {s : State} {m : MethodId} {args : Array Value} {below : List Frame} {meth : Method} {c : Code} {cs ss : Nat} {Q : State → Prop} {nL : Nat} {A : Nat → Prop} {D : va_G} {T : Nat → ClassId} {ad zz : Nat → Nat} {σ σ' : Mem} {pc : Nat} {lv : List (Nat × Value)} {rest : List Value} {cc : ByteArray} (C : Cx p s m c cc nL RL A D T ad zz) {fr lo : Nat} {av : (Nat → Nat) → (Nat → Nat) → List Value} {r : Int32} (ct : Ct yX10_next cX10_next 10 (some .int) fr lo av σ (fun _ => some (.int r)) σ') (hav : av ad zz = [.ref (ad 0)]) (hR : fr + 1 ≤ R.frames ∧ 8 + (10 + 11) + lo ≤ R.locals) (hrm : (rest.map fun v => v.category).sum ≤ 8) (d : decode cc pc = .ok (.invokevirtual 114, 3)) (hf : cs ≤ R.cells ∧ ss ≤ R.slots) (kk : V p l e R s m args below meth c cs ss Q nL A D T ad σ' (pc + 3) lv (.int r :: rest)) : V p l e R s m args below meth c cs ss Q nL A D T ad σ pc lv (.ref (ad 0) :: rest) :=
  V_callV C [] ct cal_X10_next (TB_in 818 (by decide +kernel) (by decide +kernel)) (TB_in 819 (by decide +kernel) (by decide +kernel)) (TB_in 820 (by decide +kernel) (by decide +kernel)) hR (by omega) rfl rfl hav rfl hrm d hf kk
theorem cal_X11_next : Cal yX11_next cX11_next 9 (some .int) 0 := ⟨(TB_in 1231 (by decide +kernel) (by decide +kernel)), (TB_in 80 (by decide +kernel) (by decide +kernel)), ⟨by decide +kernel, by decide +kernel⟩, by decide +kernel⟩
theorem cs_L_117 {p : Program} {l : Launch} {e : Env} {R : Room} {s : State} {m : MethodId} {args : Array Value} {below : List Frame} {meth : Method} {c : Code} {cs ss : Nat} {Q : State → Prop} {nL : Nat} {A : Nat → Prop} {D : va_G} {T : Nat → ClassId} {ad zz : Nat → Nat} {σ σ' : Mem} {pc : Nat} {lv : List (Nat × Value)} {rest : List Value} {cc : ByteArray} (C : Cx p s m c cc nL RL A D T ad zz) {fr lo : Nat} {av : (Nat → Nat) → (Nat → Nat) → List Value} {r : Int32} (ct : Ct yX11_next cX11_next 9 (some .int) fr lo av σ (fun _ => some (.int r)) σ') (hav : av ad zz = [.ref (ad 11)]) (hR : fr + 1 ≤ R.frames ∧ 8 + (9 + 11) + lo ≤ R.locals) (hrm : (rest.map fun v => v.category).sum ≤ 8) (d : decode cc pc = .ok (.invokevirtual 117, 3)) (hf : cs ≤ R.cells ∧ ss ≤ R.slots) (kk : V p l e R s m args below meth c cs ss Q nL A D T ad σ' (pc + 3) lv (.int r :: rest)) : V p l e R s m args below meth c cs ss Q nL A D T ad σ pc lv (.ref (ad 11) :: rest) :=
  V_callV C [] ct cal_X11_next (TB_in 1228 (by decide +kernel) (by decide +kernel)) (TB_in 1229 (by decide +kernel) (by decide +kernel)) (TB_in 1230 (by decide +kernel) (by decide +kernel)) hR (by omega) rfl rfl hav rfl hrm d hf kk
theorem cal_X10_oats : Cal yX10_oats cX10_oats 5 (some .int) 4 := ⟨(TB_in 827 (by decide +kernel) (by decide +kernel)), (TB_in 68 (by decide +kernel) (by decide +kernel)), ⟨by decide +kernel, by decide +kernel⟩, by decide +kernel⟩
theorem cs_L_118 {p : Program} {l : Launch} {e : Env} {R : Room} {s : State} {m : MethodId} {args : Array Value} {below : List Frame} {meth : Method} {c : Code} {cs ss : Nat} {Q : State → Prop} {nL : Nat} {A : Nat → Prop} {D : va_G} {T : Nat → ClassId} {ad zz : Nat → Nat} {σ σ' : Mem} {pc : Nat} {lv : List (Nat × Value)} {rest : List Value} {cc : ByteArray} (C : Cx p s m c cc nL RL A D T ad zz) {fr lo : Nat} {av : (Nat → Nat) → (Nat → Nat) → List Value} {r : Int32} {v1 v2 v3 v4 : Value} (ct : Ct yX10_oats cX10_oats 5 (some .int) fr lo av σ (fun _ => some (.int r)) σ') (hav : av ad zz = [.ref (ad 0), v1, v2, v3, v4]) (hR : fr + 1 ≤ R.frames ∧ 8 + (5 + 11) + lo ≤ R.locals) (hrm : (rest.map fun v => v.category).sum ≤ 8) (d : decode cc pc = .ok (.invokevirtual 118, 3)) (hf : cs ≤ R.cells ∧ ss ≤ R.slots) (kk : V p l e R s m args below meth c cs ss Q nL A D T ad σ' (pc + 3) lv (.int r :: rest)) : V p l e R s m args below meth c cs ss Q nL A D T ad σ pc lv (v4 :: v3 :: v2 :: v1 :: .ref (ad 0) :: rest) :=
  V_callV C [v1, v2, v3, v4] ct cal_X10_oats (TB_in 824 (by decide +kernel) (by decide +kernel)) (TB_in 825 (by decide +kernel) (by decide +kernel)) (TB_in 826 (by decide +kernel) (by decide +kernel)) hR (by omega) rfl rfl hav rfl hrm d hf kk
theorem cal_X11_oats : Cal yX11_oats cX11_oats 13 (some .int) 4 := ⟨(TB_in 1235 (by decide +kernel) (by decide +kernel)), (TB_in 80 (by decide +kernel) (by decide +kernel)), ⟨by decide +kernel, by decide +kernel⟩, by decide +kernel⟩
theorem cs_L_122 {p : Program} {l : Launch} {e : Env} {R : Room} {s : State} {m : MethodId} {args : Array Value} {below : List Frame} {meth : Method} {c : Code} {cs ss : Nat} {Q : State → Prop} {nL : Nat} {A : Nat → Prop} {D : va_G} {T : Nat → ClassId} {ad zz : Nat → Nat} {σ σ' : Mem} {pc : Nat} {lv : List (Nat × Value)} {rest : List Value} {cc : ByteArray} (C : Cx p s m c cc nL RL A D T ad zz) {fr lo : Nat} {av : (Nat → Nat) → (Nat → Nat) → List Value} {r : Int32} {v1 v2 v3 v4 : Value} (ct : Ct yX11_oats cX11_oats 13 (some .int) fr lo av σ (fun _ => some (.int r)) σ') (hav : av ad zz = [.ref (ad 11), v1, v2, v3, v4]) (hR : fr + 1 ≤ R.frames ∧ 8 + (13 + 11) + lo ≤ R.locals) (hrm : (rest.map fun v => v.category).sum ≤ 8) (d : decode cc pc = .ok (.invokevirtual 122, 3)) (hf : cs ≤ R.cells ∧ ss ≤ R.slots) (kk : V p l e R s m args below meth c cs ss Q nL A D T ad σ' (pc + 3) lv (.int r :: rest)) : V p l e R s m args below meth c cs ss Q nL A D T ad σ pc lv (v4 :: v3 :: v2 :: v1 :: .ref (ad 11) :: rest) :=
  V_callV C [v1, v2, v3, v4] ct cal_X11_oats (TB_in 1232 (by decide +kernel) (by decide +kernel)) (TB_in 1233 (by decide +kernel) (by decide +kernel)) (TB_in 1234 (by decide +kernel) (by decide +kernel)) hR (by omega) rfl rfl hav rfl hrm d hf kk
theorem cal_X10_saddles : Cal yX10_saddles cX10_saddles 8 (some .int) 4 := ⟨(TB_in 851 (by decide +kernel) (by decide +kernel)), (TB_in 68 (by decide +kernel) (by decide +kernel)), ⟨by decide +kernel, by decide +kernel⟩, by decide +kernel⟩
theorem cs_L_123 {p : Program} {l : Launch} {e : Env} {R : Room} {s : State} {m : MethodId} {args : Array Value} {below : List Frame} {meth : Method} {c : Code} {cs ss : Nat} {Q : State → Prop} {nL : Nat} {A : Nat → Prop} {D : va_G} {T : Nat → ClassId} {ad zz : Nat → Nat} {σ σ' : Mem} {pc : Nat} {lv : List (Nat × Value)} {rest : List Value} {cc : ByteArray} (C : Cx p s m c cc nL RL A D T ad zz) {fr lo : Nat} {av : (Nat → Nat) → (Nat → Nat) → List Value} {r : Int32} {v1 v2 v3 v4 : Value} (ct : Ct yX10_saddles cX10_saddles 8 (some .int) fr lo av σ (fun _ => some (.int r)) σ') (hav : av ad zz = [.ref (ad 0), v1, v2, v3, v4]) (hR : fr + 1 ≤ R.frames ∧ 8 + (8 + 11) + lo ≤ R.locals) (hrm : (rest.map fun v => v.category).sum ≤ 8) (d : decode cc pc = .ok (.invokevirtual 123, 3)) (hf : cs ≤ R.cells ∧ ss ≤ R.slots) (kk : V p l e R s m args below meth c cs ss Q nL A D T ad σ' (pc + 3) lv (.int r :: rest)) : V p l e R s m args below meth c cs ss Q nL A D T ad σ pc lv (v4 :: v3 :: v2 :: v1 :: .ref (ad 0) :: rest) :=
  V_callV C [v1, v2, v3, v4] ct cal_X10_saddles (TB_in 848 (by decide +kernel) (by decide +kernel)) (TB_in 849 (by decide +kernel) (by decide +kernel)) (TB_in 850 (by decide +kernel) (by decide +kernel)) hR (by omega) rfl rfl hav rfl hrm d hf kk
theorem cal_X11_saddles : Cal yX11_saddles cX11_saddles 11 (some .int) 4 := ⟨(TB_in 1242 (by decide +kernel) (by decide +kernel)), (TB_in 80 (by decide +kernel) (by decide +kernel)), ⟨by decide +kernel, by decide +kernel⟩, by decide +kernel⟩
theorem cs_L_126 {p : Program} {l : Launch} {e : Env} {R : Room} {s : State} {m : MethodId} {args : Array Value} {below : List Frame} {meth : Method} {c : Code} {cs ss : Nat} {Q : State → Prop} {nL : Nat} {A : Nat → Prop} {D : va_G} {T : Nat → ClassId} {ad zz : Nat → Nat} {σ σ' : Mem} {pc : Nat} {lv : List (Nat × Value)} {rest : List Value} {cc : ByteArray} (C : Cx p s m c cc nL RL A D T ad zz) {fr lo : Nat} {av : (Nat → Nat) → (Nat → Nat) → List Value} {r : Int32} {v1 v2 v3 v4 : Value} (ct : Ct yX11_saddles cX11_saddles 11 (some .int) fr lo av σ (fun _ => some (.int r)) σ') (hav : av ad zz = [.ref (ad 11), v1, v2, v3, v4]) (hR : fr + 1 ≤ R.frames ∧ 8 + (11 + 11) + lo ≤ R.locals) (hrm : (rest.map fun v => v.category).sum ≤ 8) (d : decode cc pc = .ok (.invokevirtual 126, 3)) (hf : cs ≤ R.cells ∧ ss ≤ R.slots) (kk : V p l e R s m args below meth c cs ss Q nL A D T ad σ' (pc + 3) lv (.int r :: rest)) : V p l e R s m args below meth c cs ss Q nL A D T ad σ pc lv (v4 :: v3 :: v2 :: v1 :: .ref (ad 11) :: rest) :=
  V_callV C [v1, v2, v3, v4] ct cal_X11_saddles (TB_in 1239 (by decide +kernel) (by decide +kernel)) (TB_in 1240 (by decide +kernel) (by decide +kernel)) (TB_in 1241 (by decide +kernel) (by decide +kernel)) hR (by omega) rfl rfl hav rfl hrm d hf kk
theorem cal_X10_chance : Cal yX10_chance cX10_chance 8 (some .int) 4 := ⟨(TB_in 864 (by decide +kernel) (by decide +kernel)), (TB_in 68 (by decide +kernel) (by decide +kernel)), ⟨by decide +kernel, by decide +kernel⟩, by decide +kernel⟩
theorem cs_L_127 {p : Program} {l : Launch} {e : Env} {R : Room} {s : State} {m : MethodId} {args : Array Value} {below : List Frame} {meth : Method} {c : Code} {cs ss : Nat} {Q : State → Prop} {nL : Nat} {A : Nat → Prop} {D : va_G} {T : Nat → ClassId} {ad zz : Nat → Nat} {σ σ' : Mem} {pc : Nat} {lv : List (Nat × Value)} {rest : List Value} {cc : ByteArray} (C : Cx p s m c cc nL RL A D T ad zz) {fr lo : Nat} {av : (Nat → Nat) → (Nat → Nat) → List Value} {r : Int32} {v1 v2 v3 v4 : Value} (ct : Ct yX10_chance cX10_chance 8 (some .int) fr lo av σ (fun _ => some (.int r)) σ') (hav : av ad zz = [.ref (ad 0), v1, v2, v3, v4]) (hR : fr + 1 ≤ R.frames ∧ 8 + (8 + 11) + lo ≤ R.locals) (hrm : (rest.map fun v => v.category).sum ≤ 8) (d : decode cc pc = .ok (.invokevirtual 127, 3)) (hf : cs ≤ R.cells ∧ ss ≤ R.slots) (kk : V p l e R s m args below meth c cs ss Q nL A D T ad σ' (pc + 3) lv (.int r :: rest)) : V p l e R s m args below meth c cs ss Q nL A D T ad σ pc lv (v4 :: v3 :: v2 :: v1 :: .ref (ad 0) :: rest) :=
  V_callV C [v1, v2, v3, v4] ct cal_X10_chance (TB_in 861 (by decide +kernel) (by decide +kernel)) (TB_in 862 (by decide +kernel) (by decide +kernel)) (TB_in 863 (by decide +kernel) (by decide +kernel)) hR (by omega) rfl rfl hav rfl hrm d hf kk
theorem cal_X11_chance : Cal yX11_chance cX11_chance 8 (some .int) 4 := ⟨(TB_in 1247 (by decide +kernel) (by decide +kernel)), (TB_in 80 (by decide +kernel) (by decide +kernel)), ⟨by decide +kernel, by decide +kernel⟩, by decide +kernel⟩
theorem cs_L_131 {p : Program} {l : Launch} {e : Env} {R : Room} {s : State} {m : MethodId} {args : Array Value} {below : List Frame} {meth : Method} {c : Code} {cs ss : Nat} {Q : State → Prop} {nL : Nat} {A : Nat → Prop} {D : va_G} {T : Nat → ClassId} {ad zz : Nat → Nat} {σ σ' : Mem} {pc : Nat} {lv : List (Nat × Value)} {rest : List Value} {cc : ByteArray} (C : Cx p s m c cc nL RL A D T ad zz) {fr lo : Nat} {av : (Nat → Nat) → (Nat → Nat) → List Value} {r : Int32} {v1 v2 v3 v4 : Value} (ct : Ct yX11_chance cX11_chance 8 (some .int) fr lo av σ (fun _ => some (.int r)) σ') (hav : av ad zz = [.ref (ad 11), v1, v2, v3, v4]) (hR : fr + 1 ≤ R.frames ∧ 8 + (8 + 11) + lo ≤ R.locals) (hrm : (rest.map fun v => v.category).sum ≤ 8) (d : decode cc pc = .ok (.invokevirtual 131, 3)) (hf : cs ≤ R.cells ∧ ss ≤ R.slots) (kk : V p l e R s m args below meth c cs ss Q nL A D T ad σ' (pc + 3) lv (.int r :: rest)) : V p l e R s m args below meth c cs ss Q nL A D T ad σ pc lv (v4 :: v3 :: v2 :: v1 :: .ref (ad 11) :: rest) :=
  V_callV C [v1, v2, v3, v4] ct cal_X11_chance (TB_in 1244 (by decide +kernel) (by decide +kernel)) (TB_in 1245 (by decide +kernel) (by decide +kernel)) (TB_in 1246 (by decide +kernel) (by decide +kernel)) hR (by omega) rfl rfl hav rfl hrm d hf kk
theorem cal_X10_seed : Cal yX10_seed cX10_seed 5 (some .long) 1 := ⟨(TB_in 875 (by decide +kernel) (by decide +kernel)), (TB_in 68 (by decide +kernel) (by decide +kernel)), ⟨by decide +kernel, by decide +kernel⟩, by decide +kernel⟩
theorem cs_L_134 {p : Program} {l : Launch} {e : Env} {R : Room} {s : State} {m : MethodId} {args : Array Value} {below : List Frame} {meth : Method} {c : Code} {cs ss : Nat} {Q : State → Prop} {nL : Nat} {A : Nat → Prop} {D : va_G} {T : Nat → ClassId} {ad zz : Nat → Nat} {σ σ' : Mem} {pc : Nat} {lv : List (Nat × Value)} {rest : List Value} {cc : ByteArray} (C : Cx p s m c cc nL RL A D T ad zz) {fr lo : Nat} {av : (Nat → Nat) → (Nat → Nat) → List Value} {r : Int64} {v1 : Value} (ct : Ct yX10_seed cX10_seed 5 (some .long) fr lo av σ (fun _ => some (.long r)) σ') (hav : av ad zz = [.ref (ad 0), v1]) (hR : fr + 1 ≤ R.frames ∧ 8 + (5 + 11) + lo ≤ R.locals) (hrm : (rest.map fun v => v.category).sum ≤ 8) (d : decode cc pc = .ok (.invokevirtual 134, 3)) (hf : cs ≤ R.cells ∧ ss ≤ R.slots) (kk : V p l e R s m args below meth c cs ss Q nL A D T ad σ' (pc + 3) lv (.long r :: rest)) : V p l e R s m args below meth c cs ss Q nL A D T ad σ pc lv (v1 :: .ref (ad 0) :: rest) :=
  V_callV C [v1] ct cal_X10_seed (TB_in 872 (by decide +kernel) (by decide +kernel)) (TB_in 873 (by decide +kernel) (by decide +kernel)) (TB_in 874 (by decide +kernel) (by decide +kernel)) hR (by omega) rfl rfl hav rfl hrm d hf kk
theorem cal_X11_seed : Cal yX11_seed cX11_seed 5 (some .long) 1 := ⟨(TB_in 1258 (by decide +kernel) (by decide +kernel)), (TB_in 80 (by decide +kernel) (by decide +kernel)), ⟨by decide +kernel, by decide +kernel⟩, by decide +kernel⟩
theorem cs_L_138 {p : Program} {l : Launch} {e : Env} {R : Room} {s : State} {m : MethodId} {args : Array Value} {below : List Frame} {meth : Method} {c : Code} {cs ss : Nat} {Q : State → Prop} {nL : Nat} {A : Nat → Prop} {D : va_G} {T : Nat → ClassId} {ad zz : Nat → Nat} {σ σ' : Mem} {pc : Nat} {lv : List (Nat × Value)} {rest : List Value} {cc : ByteArray} (C : Cx p s m c cc nL RL A D T ad zz) {fr lo : Nat} {av : (Nat → Nat) → (Nat → Nat) → List Value} {r : Int64} {v1 : Value} (ct : Ct yX11_seed cX11_seed 5 (some .long) fr lo av σ (fun _ => some (.long r)) σ') (hav : av ad zz = [.ref (ad 11), v1]) (hR : fr + 1 ≤ R.frames ∧ 8 + (5 + 11) + lo ≤ R.locals) (hrm : (rest.map fun v => v.category).sum ≤ 8) (d : decode cc pc = .ok (.invokevirtual 138, 3)) (hf : cs ≤ R.cells ∧ ss ≤ R.slots) (kk : V p l e R s m args below meth c cs ss Q nL A D T ad σ' (pc + 3) lv (.long r :: rest)) : V p l e R s m args below meth c cs ss Q nL A D T ad σ pc lv (v1 :: .ref (ad 11) :: rest) :=
  V_callV C [v1] ct cal_X11_seed (TB_in 1255 (by decide +kernel) (by decide +kernel)) (TB_in 1256 (by decide +kernel) (by decide +kernel)) (TB_in 1257 (by decide +kernel) (by decide +kernel)) hR (by omega) rfl rfl hav rfl hrm d hf kk
theorem cal_X10_days : Cal yX10_days cX10_days 7 (some .int) 1 := ⟨(TB_in 879 (by decide +kernel) (by decide +kernel)), (TB_in 68 (by decide +kernel) (by decide +kernel)), ⟨by decide +kernel, by decide +kernel⟩, by decide +kernel⟩
theorem cs_L_139 {p : Program} {l : Launch} {e : Env} {R : Room} {s : State} {m : MethodId} {args : Array Value} {below : List Frame} {meth : Method} {c : Code} {cs ss : Nat} {Q : State → Prop} {nL : Nat} {A : Nat → Prop} {D : va_G} {T : Nat → ClassId} {ad zz : Nat → Nat} {σ σ' : Mem} {pc : Nat} {lv : List (Nat × Value)} {rest : List Value} {cc : ByteArray} (C : Cx p s m c cc nL RL A D T ad zz) {fr lo : Nat} {av : (Nat → Nat) → (Nat → Nat) → List Value} {r : Int32} {v1 : Value} (ct : Ct yX10_days cX10_days 7 (some .int) fr lo av σ (fun _ => some (.int r)) σ') (hav : av ad zz = [.ref (ad 0), v1]) (hR : fr + 1 ≤ R.frames ∧ 8 + (7 + 11) + lo ≤ R.locals) (hrm : (rest.map fun v => v.category).sum ≤ 8) (d : decode cc pc = .ok (.invokevirtual 139, 3)) (hf : cs ≤ R.cells ∧ ss ≤ R.slots) (kk : V p l e R s m args below meth c cs ss Q nL A D T ad σ' (pc + 3) lv (.int r :: rest)) : V p l e R s m args below meth c cs ss Q nL A D T ad σ pc lv (v1 :: .ref (ad 0) :: rest) :=
  V_callV C [v1] ct cal_X10_days (TB_in 876 (by decide +kernel) (by decide +kernel)) (TB_in 877 (by decide +kernel) (by decide +kernel)) (TB_in 878 (by decide +kernel) (by decide +kernel)) hR (by omega) rfl rfl hav rfl hrm d hf kk
theorem cal_X11_days : Cal yX11_days cX11_days 4 (some .int) 1 := ⟨(TB_in 1262 (by decide +kernel) (by decide +kernel)), (TB_in 80 (by decide +kernel) (by decide +kernel)), ⟨by decide +kernel, by decide +kernel⟩, by decide +kernel⟩
theorem cs_L_142 {p : Program} {l : Launch} {e : Env} {R : Room} {s : State} {m : MethodId} {args : Array Value} {below : List Frame} {meth : Method} {c : Code} {cs ss : Nat} {Q : State → Prop} {nL : Nat} {A : Nat → Prop} {D : va_G} {T : Nat → ClassId} {ad zz : Nat → Nat} {σ σ' : Mem} {pc : Nat} {lv : List (Nat × Value)} {rest : List Value} {cc : ByteArray} (C : Cx p s m c cc nL RL A D T ad zz) {fr lo : Nat} {av : (Nat → Nat) → (Nat → Nat) → List Value} {r : Int32} {v1 : Value} (ct : Ct yX11_days cX11_days 4 (some .int) fr lo av σ (fun _ => some (.int r)) σ') (hav : av ad zz = [.ref (ad 11), v1]) (hR : fr + 1 ≤ R.frames ∧ 8 + (4 + 11) + lo ≤ R.locals) (hrm : (rest.map fun v => v.category).sum ≤ 8) (d : decode cc pc = .ok (.invokevirtual 142, 3)) (hf : cs ≤ R.cells ∧ ss ≤ R.slots) (kk : V p l e R s m args below meth c cs ss Q nL A D T ad σ' (pc + 3) lv (.int r :: rest)) : V p l e R s m args below meth c cs ss Q nL A D T ad σ pc lv (v1 :: .ref (ad 11) :: rest) :=
  V_callV C [v1] ct cal_X11_days (TB_in 1259 (by decide +kernel) (by decide +kernel)) (TB_in 1260 (by decide +kernel) (by decide +kernel)) (TB_in 1261 (by decide +kernel) (by decide +kernel)) hR (by omega) rfl rfl hav rfl hrm d hf kk
theorem cal_X10_keep : Cal yX10_keep cX10_keep 3 (some .int) 1 := ⟨(TB_in 886 (by decide +kernel) (by decide +kernel)), (TB_in 68 (by decide +kernel) (by decide +kernel)), ⟨by decide +kernel, by decide +kernel⟩, by decide +kernel⟩
theorem cs_L_143 {p : Program} {l : Launch} {e : Env} {R : Room} {s : State} {m : MethodId} {args : Array Value} {below : List Frame} {meth : Method} {c : Code} {cs ss : Nat} {Q : State → Prop} {nL : Nat} {A : Nat → Prop} {D : va_G} {T : Nat → ClassId} {ad zz : Nat → Nat} {σ σ' : Mem} {pc : Nat} {lv : List (Nat × Value)} {rest : List Value} {cc : ByteArray} (C : Cx p s m c cc nL RL A D T ad zz) {fr lo : Nat} {av : (Nat → Nat) → (Nat → Nat) → List Value} {r : Int32} {v1 : Value} (ct : Ct yX10_keep cX10_keep 3 (some .int) fr lo av σ (fun _ => some (.int r)) σ') (hav : av ad zz = [.ref (ad 0), v1]) (hR : fr + 1 ≤ R.frames ∧ 8 + (3 + 11) + lo ≤ R.locals) (hrm : (rest.map fun v => v.category).sum ≤ 8) (d : decode cc pc = .ok (.invokevirtual 143, 3)) (hf : cs ≤ R.cells ∧ ss ≤ R.slots) (kk : V p l e R s m args below meth c cs ss Q nL A D T ad σ' (pc + 3) lv (.int r :: rest)) : V p l e R s m args below meth c cs ss Q nL A D T ad σ pc lv (v1 :: .ref (ad 0) :: rest) :=
  V_callV C [v1] ct cal_X10_keep (TB_in 883 (by decide +kernel) (by decide +kernel)) (TB_in 884 (by decide +kernel) (by decide +kernel)) (TB_in 885 (by decide +kernel) (by decide +kernel)) hR (by omega) rfl rfl hav rfl hrm d hf kk
theorem cal_X11_keep : Cal yX11_keep cX11_keep 3 (some .int) 1 := ⟨(TB_in 1269 (by decide +kernel) (by decide +kernel)), (TB_in 80 (by decide +kernel) (by decide +kernel)), ⟨by decide +kernel, by decide +kernel⟩, by decide +kernel⟩
theorem cs_L_146 {p : Program} {l : Launch} {e : Env} {R : Room} {s : State} {m : MethodId} {args : Array Value} {below : List Frame} {meth : Method} {c : Code} {cs ss : Nat} {Q : State → Prop} {nL : Nat} {A : Nat → Prop} {D : va_G} {T : Nat → ClassId} {ad zz : Nat → Nat} {σ σ' : Mem} {pc : Nat} {lv : List (Nat × Value)} {rest : List Value} {cc : ByteArray} (C : Cx p s m c cc nL RL A D T ad zz) {fr lo : Nat} {av : (Nat → Nat) → (Nat → Nat) → List Value} {r : Int32} {v1 : Value} (ct : Ct yX11_keep cX11_keep 3 (some .int) fr lo av σ (fun _ => some (.int r)) σ') (hav : av ad zz = [.ref (ad 11), v1]) (hR : fr + 1 ≤ R.frames ∧ 8 + (3 + 11) + lo ≤ R.locals) (hrm : (rest.map fun v => v.category).sum ≤ 8) (d : decode cc pc = .ok (.invokevirtual 146, 3)) (hf : cs ≤ R.cells ∧ ss ≤ R.slots) (kk : V p l e R s m args below meth c cs ss Q nL A D T ad σ' (pc + 3) lv (.int r :: rest)) : V p l e R s m args below meth c cs ss Q nL A D T ad σ pc lv (v1 :: .ref (ad 11) :: rest) :=
  V_callV C [v1] ct cal_X11_keep (TB_in 1266 (by decide +kernel) (by decide +kernel)) (TB_in 1267 (by decide +kernel) (by decide +kernel)) (TB_in 1268 (by decide +kernel) (by decide +kernel)) hR (by omega) rfl rfl hav rfl hrm d hf kk
theorem cal_X10_again : Cal yX10_again cX10_again 3 (some .int) 1 := ⟨(TB_in 891 (by decide +kernel) (by decide +kernel)), (TB_in 68 (by decide +kernel) (by decide +kernel)), ⟨by decide +kernel, by decide +kernel⟩, by decide +kernel⟩
theorem cs_L_147 {p : Program} {l : Launch} {e : Env} {R : Room} {s : State} {m : MethodId} {args : Array Value} {below : List Frame} {meth : Method} {c : Code} {cs ss : Nat} {Q : State → Prop} {nL : Nat} {A : Nat → Prop} {D : va_G} {T : Nat → ClassId} {ad zz : Nat → Nat} {σ σ' : Mem} {pc : Nat} {lv : List (Nat × Value)} {rest : List Value} {cc : ByteArray} (C : Cx p s m c cc nL RL A D T ad zz) {fr lo : Nat} {av : (Nat → Nat) → (Nat → Nat) → List Value} {r : Int32} {v1 : Value} (ct : Ct yX10_again cX10_again 3 (some .int) fr lo av σ (fun _ => some (.int r)) σ') (hav : av ad zz = [.ref (ad 0), v1]) (hR : fr + 1 ≤ R.frames ∧ 8 + (3 + 11) + lo ≤ R.locals) (hrm : (rest.map fun v => v.category).sum ≤ 8) (d : decode cc pc = .ok (.invokevirtual 147, 3)) (hf : cs ≤ R.cells ∧ ss ≤ R.slots) (kk : V p l e R s m args below meth c cs ss Q nL A D T ad σ' (pc + 3) lv (.int r :: rest)) : V p l e R s m args below meth c cs ss Q nL A D T ad σ pc lv (v1 :: .ref (ad 0) :: rest) :=
  V_callV C [v1] ct cal_X10_again (TB_in 888 (by decide +kernel) (by decide +kernel)) (TB_in 889 (by decide +kernel) (by decide +kernel)) (TB_in 890 (by decide +kernel) (by decide +kernel)) hR (by omega) rfl rfl hav rfl hrm d hf kk
theorem cal_X11_again : Cal yX11_again cX11_again 3 (some .int) 1 := ⟨(TB_in 1273 (by decide +kernel) (by decide +kernel)), (TB_in 80 (by decide +kernel) (by decide +kernel)), ⟨by decide +kernel, by decide +kernel⟩, by decide +kernel⟩
theorem cs_L_150 {p : Program} {l : Launch} {e : Env} {R : Room} {s : State} {m : MethodId} {args : Array Value} {below : List Frame} {meth : Method} {c : Code} {cs ss : Nat} {Q : State → Prop} {nL : Nat} {A : Nat → Prop} {D : va_G} {T : Nat → ClassId} {ad zz : Nat → Nat} {σ σ' : Mem} {pc : Nat} {lv : List (Nat × Value)} {rest : List Value} {cc : ByteArray} (C : Cx p s m c cc nL RL A D T ad zz) {fr lo : Nat} {av : (Nat → Nat) → (Nat → Nat) → List Value} {r : Int32} {v1 : Value} (ct : Ct yX11_again cX11_again 3 (some .int) fr lo av σ (fun _ => some (.int r)) σ') (hav : av ad zz = [.ref (ad 11), v1]) (hR : fr + 1 ≤ R.frames ∧ 8 + (3 + 11) + lo ≤ R.locals) (hrm : (rest.map fun v => v.category).sum ≤ 8) (d : decode cc pc = .ok (.invokevirtual 150, 3)) (hf : cs ≤ R.cells ∧ ss ≤ R.slots) (kk : V p l e R s m args below meth c cs ss Q nL A D T ad σ' (pc + 3) lv (.int r :: rest)) : V p l e R s m args below meth c cs ss Q nL A D T ad σ pc lv (v1 :: .ref (ad 11) :: rest) :=
  V_callV C [v1] ct cal_X11_again (TB_in 1270 (by decide +kernel) (by decide +kernel)) (TB_in 1271 (by decide +kernel) (by decide +kernel)) (TB_in 1272 (by decide +kernel) (by decide +kernel)) hR (by omega) rfl rfl hav rfl hrm d hf kk
def Step_write (Inv : Mem → Prop) : Prop := ∀ (a1 : Int32) (σ : Mem), Inv σ → ∃ (r : Int32) (σ1 σ2 : Mem), F_X10_write a1 σ = some (r, σ1) ∧ F_X11_write a1 σ1 = some (r, σ2) ∧ Inv σ2
def Step_wipe (Inv : Mem → Prop) : Prop := ∀ (σ : Mem), Inv σ → ∃ (r : Int32) (σ1 σ2 : Mem), F_X10_wipe σ = some (r, σ1) ∧ F_X11_wipe σ1 = some (r, σ2) ∧ Inv σ2
def Step_fault (Inv : Mem → Prop) : Prop := ∀ (σ : Mem), Inv σ → ∃ (r : Int32) (σ2 : Mem), F_X10_fault σ = some r ∧ F_X11_fault σ = some (r, σ2) ∧ Inv σ2
def Step_fair (Inv : Mem → Prop) : Prop := ∀ (σ : Mem), Inv σ → ∃ (r : Int32) (σ1 σ2 : Mem), F_X10_fair σ = some (r, σ1) ∧ F_X11_fair σ1 = some (r, σ2) ∧ Inv σ2
def Step_about (Inv : Mem → Prop) : Prop := ∀ (a1 : Int32) (σ : Mem), Inv σ → ∃ (r : Int32) (σ1 σ2 : Mem), F_X10_about a1 σ = some (r, σ1) ∧ F_X11_about a1 σ1 = some (r, σ2) ∧ Inv σ2
def Step_horse (Inv : Mem → Prop) : Prop := ∀ (a1 : Int32) (a2 : Int32) (σ : Mem), Inv σ → ∃ (r : Int32) (σ2 : Mem), F_X10_horse a1 a2 σ = some r ∧ F_X11_horse a1 a2 σ = some (r, σ2) ∧ Inv σ2
def Step_rider (Inv : Mem → Prop) : Prop := ∀ (a1 : Int32) (a2 : Int32) (σ : Mem), Inv σ → ∃ (r : Int32) (σ2 : Mem), F_X10_rider a1 a2 σ = some r ∧ F_X11_rider a1 a2 σ = some (r, σ2) ∧ Inv σ2
def Step_worth (Inv : Mem → Prop) : Prop := ∀ (a1 : Int32) (a2 : Int32) (σ : Mem), Inv σ → ∃ (r : Int32) (σ1 σ2 : Mem), F_X10_worth a1 a2 σ = some (r, σ1) ∧ F_X11_worth a1 a2 σ1 = some (r, σ2) ∧ Inv σ2
def Step_lead (Inv : Mem → Prop) : Prop := ∀ (a1 : Int32) (a2 : Int32) (σ : Mem), Inv σ → ∃ (r : Int32) (σ1 σ2 : Mem), F_X10_lead a1 a2 σ = some (r, σ1) ∧ F_X11_lead a1 a2 σ1 = some (r, σ2) ∧ Inv σ2
def Step_dress (Inv : Mem → Prop) : Prop := ∀ (a1 : Int32) (a2 : Int32) (σ : Mem), Inv σ → ∃ (r : Int32) (σ1 σ2 : Mem), F_X10_dress a1 a2 σ = some (r, σ1) ∧ F_X11_dress a1 a2 σ1 = some (r, σ2) ∧ Inv σ2
def Step_giveBack (Inv : Mem → Prop) : Prop := ∀ (a1 : Int32) (σ : Mem), Inv σ → ∃ (r : Int32) (σ1 σ2 : Mem), F_X10_giveBack a1 σ = some (r, σ1) ∧ F_X11_giveBack a1 σ1 = some (r, σ2) ∧ Inv σ2
def Step_bell (Inv : Mem → Prop) : Prop := ∀ (σ : Mem), Inv σ → ∃ (r : Int32) (σ1 σ2 : Mem), F_X10_bell σ = some (r, σ1) ∧ F_X11_bell σ1 = some (r, σ2) ∧ Inv σ2
def Step_undo (Inv : Mem → Prop) : Prop := ∀ (σ : Mem), Inv σ → ∃ (r : Int32) (σ1 σ2 : Mem), F_X10_undo σ = some (r, σ1) ∧ F_X11_undo σ1 = some (r, σ2) ∧ Inv σ2
def Step_bolts (Inv : Mem → Prop) : Prop := ∀ (a1 : Int32) (a2 : Int32) (σ : Mem), Inv σ → ∃ (r : Int32) (σ1 σ2 : Mem), F_X10_bolts a1 a2 σ = some (r, σ1) ∧ F_X11_bolts a1 a2 σ1 = some (r, σ2) ∧ Inv σ2
def Step_held (Inv : Mem → Prop) : Prop := ∀ (a1 : Int32) (a2 : Int32) (σ : Mem), (a2 = 0 ∨ a2 = 1) → Inv σ → ∃ (r : Int32) (σ1 σ2 : Mem), F_X10_held a1 a2 σ = some (r, σ1) ∧ F_X11_held a1 a2 σ1 = some (r, σ2) ∧ Inv σ2
def Step_holds (Inv : Mem → Prop) : Prop := ∀ (σ : Mem), Inv σ → ∃ (r : Int32) (σ1 σ2 : Mem), F_X10_holds σ = some (r, σ1) ∧ F_X11_holds σ1 = some (r, σ2) ∧ Inv σ2
def Step_sure (Inv : Mem → Prop) : Prop := ∀ (a1 : Int32) (σ : Mem), Inv σ → ∃ (r : Int32) (σ1 σ2 : Mem), F_X10_sure a1 σ = some (r, σ1) ∧ F_X11_sure a1 σ1 = some (r, σ2) ∧ Inv σ2
def Step_forged (Inv : Mem → Prop) : Prop := ∀ (a1 : Int32) (a2 : Int32) (a3 : Int32) (σ : Mem), Inv σ → ∃ (r : Int32) (σ1 σ2 : Mem), F_X10_forged a1 a2 a3 σ = some (r, σ1) ∧ F_X11_forged a1 a2 a3 σ1 = some (r, σ2) ∧ Inv σ2
def Step_left (Inv : Mem → Prop) : Prop := ∀ (σ : Mem), Inv σ → ∃ (r : Int32) (σ1 σ2 : Mem), F_X10_left σ = some (r, σ1) ∧ F_X11_left σ1 = some (r, σ2) ∧ Inv σ2
def Step_race (Inv : Mem → Prop) : Prop := ∀ (σ : Mem), Inv σ → ∃ (r : Int32) (σ1 σ2 : Mem), F_X10_race σ = some (r, σ1) ∧ F_X11_race σ1 = some (r, σ2) ∧ Inv σ2
def Step_raceOf (Inv : Mem → Prop) : Prop := ∀ (a1 : Int32) (σ : Mem), Inv σ → ∃ (r : Int32) (σ1 σ2 : Mem), F_X10_raceOf a1 σ = some (r, σ1) ∧ F_X11_raceOf a1 σ1 = some (r, σ2) ∧ Inv σ2
def Step_choose (Inv : Mem → Prop) : Prop := ∀ (a1 : Int32) (a2 : Int32) (σ : Mem), Inv σ → ∃ (r : Int32) (σ1 σ2 : Mem), F_X10_choose a1 a2 σ = some (r, σ1) ∧ F_X11_choose a1 a2 σ1 = some (r, σ2) ∧ Inv σ2
def Step_unchoose (Inv : Mem → Prop) : Prop := ∀ (σ : Mem), Inv σ → ∃ (r : Int32) (σ1 σ2 : Mem), F_X10_unchoose σ = some (r, σ1) ∧ F_X11_unchoose σ1 = some (r, σ2) ∧ Inv σ2
def Step_learnt (Inv : Mem → Prop) : Prop := ∀ (a1 : Int32) (σ : Mem), Inv σ → ∃ (r : Int32) (σ2 : Mem), F_X10_learnt a1 σ = some r ∧ F_X11_learnt a1 σ = some (r, σ2) ∧ Inv σ2
def Step_next (Inv : Mem → Prop) : Prop := ∀ (σ : Mem), Inv σ → ∃ (r : Int32) (σ2 : Mem), F_X10_next σ = some r ∧ F_X11_next σ = some (r, σ2) ∧ Inv σ2
def Step_oats (Inv : Mem → Prop) : Prop := ∀ (a1 : Int32) (a2 : Int32) (a3 : Int32) (a4 : Int32) (σ : Mem), Inv σ → ∃ (r : Int32) (σ1 σ2 : Mem), F_X10_oats a1 a2 a3 a4 σ = some (r, σ1) ∧ F_X11_oats a1 a2 a3 a4 σ1 = some (r, σ2) ∧ Inv σ2
def Step_saddles (Inv : Mem → Prop) : Prop := ∀ (a1 : Int32) (a2 : Int32) (a3 : Int32) (a4 : Int32) (σ : Mem), Inv σ → ∃ (r : Int32) (σ1 σ2 : Mem), F_X10_saddles a1 a2 a3 a4 σ = some (r, σ1) ∧ F_X11_saddles a1 a2 a3 a4 σ1 = some (r, σ2) ∧ Inv σ2
def Step_chance (Inv : Mem → Prop) : Prop := ∀ (a1 : Int32) (a2 : Int32) (a3 : Int32) (a4 : Int32) (σ : Mem), (a4 = 0 ∨ a4 = 1) → Inv σ → ∃ (r : Int32) (σ1 σ2 : Mem), F_X10_chance a1 a2 a3 a4 σ = some (r, σ1) ∧ F_X11_chance a1 a2 a3 a4 σ1 = some (r, σ2) ∧ Inv σ2
def Step_seed (Inv : Mem → Prop) : Prop := ∀ (a1 : Int64) (σ : Mem), Inv σ → ∃ (r : Int64) (σ1 σ2 : Mem), F_X10_seed a1 σ = some (r, σ1) ∧ F_X11_seed a1 σ1 = some (r, σ2) ∧ Inv σ2
def Step_days (Inv : Mem → Prop) : Prop := ∀ (a1 : Int32) (σ : Mem), Inv σ → ∃ (r : Int32) (σ1 σ2 : Mem), F_X10_days a1 σ = some (r, σ1) ∧ F_X11_days a1 σ1 = some (r, σ2) ∧ Inv σ2
def Step_keep (Inv : Mem → Prop) : Prop := ∀ (a1 : Int32) (σ : Mem), Inv σ → ∃ (r : Int32) (σ1 σ2 : Mem), F_X10_keep a1 σ = some (r, σ1) ∧ F_X11_keep a1 σ1 = some (r, σ2) ∧ Inv σ2
def Step_again (Inv : Mem → Prop) : Prop := ∀ (a1 : Int32) (σ : Mem), Inv σ → ∃ (r : Int32) (σ1 σ2 : Mem), F_X10_again a1 σ = some (r, σ1) ∧ F_X11_again a1 σ1 = some (r, σ2) ∧ Inv σ2
set_option maxHeartbeats 4000000 in
set_option maxRecDepth 20000 in
theorem lawc_write {p : Program} {l : Launch} {e : Env} {s : State} {m : MethodId} {below : List Frame} {meth : Method} {c : Code} {D : va_G} {T : Nat → ClassId} {ad zz : Nat → Nat} {b L : Nat} {xs : Nat → Int32} (C : Cx p s m c code 4 R_law (fun q : Nat => s.heap.size ≤ q) D T ad zz) (hX : va_X b L xs s s.heap) (hbl : b < s.heap.size) (hbA : ¬ (fun q : Nat => s.heap.size ≤ q) b) (hL : L < 2147483648) (Inv : Mem → Prop) {i : Nat} (hi : i + 4 < L) (hstep : Step_write Inv) {σ : Mem} (hI : Inv σ) (kk : ∀ σ2, Inv σ2 → V p l e room_1 s m #[Value.ref b] below meth c 118 1296 (lw_Z below #[Value.ref b] s) 4 (fun q : Nat => s.heap.size ≤ q) D T ad σ2 1065 [(0, .ref b), (1, .ref (ad 0)), (2, .ref (ad 11)), (3, .int (nI i))] []) : V p l e room_1 s m #[Value.ref b] below meth c 118 1296 (lw_Z below #[Value.ref b] s) 4 (fun q : Nat => s.heap.size ≤ q) D T ad σ 176 [(0, .ref b), (1, .ref (ad 0)), (2, .ref (ad 11)), (3, .int (nI i))] [] := by
  refine V_aload_n C 1 dL_law_176 rfl ?_
  refine V_aload_n C 0 dL_law_177 rfl ?_
  refine V_iload_n C 3 dL_law_178 rfl ?_
  refine V_iconst C dL_law_179 (v := (1 : Int32)) (by decide) ?_
  refine V_iadd C dL_law_180 ?_
  refine V_sld C hX hbl hbA hL (i + 1) (nI_add i 1) (by omega) dL_law_181 ?_
  obtain ⟨r, σ1, σ2, h1, h2, h3⟩ := hstep (xs (i + 1)) σ hI
  refine cs_L_13 C (ct_X10_write h1) rfl ⟨by decide, by decide⟩ (Nat.le_of_ble_eq_true rfl) dL_law_182 ⟨by decide, by decide⟩ ?_
  refine V_aload_n C 2 dL_law_185 rfl ?_
  refine V_aload_n C 0 dL_law_186 rfl ?_
  refine V_iload_n C 3 dL_law_187 rfl ?_
  refine V_iconst C dL_law_188 (v := (1 : Int32)) (by decide) ?_
  refine V_iadd C dL_law_189 ?_
  refine V_sld C hX hbl hbA hL (i + 1) (nI_add i 1) (by omega) dL_law_190 ?_
  refine cs_L_17 C (ct_X11_write h2) rfl ⟨by decide, by decide⟩ (Nat.le_of_ble_eq_true rfl) dL_law_191 ⟨by decide, by decide⟩ ?_
  refine V_jeq C 1065 dL_law_194 (by decide) ?_
  exact kk σ2 h3
set_option maxHeartbeats 4000000 in
set_option maxRecDepth 20000 in
theorem lawc_wipe {p : Program} {l : Launch} {e : Env} {s : State} {m : MethodId} {below : List Frame} {meth : Method} {c : Code} {D : va_G} {T : Nat → ClassId} {ad zz : Nat → Nat} {b L : Nat} {xs : Nat → Int32} (C : Cx p s m c code 4 R_law (fun q : Nat => s.heap.size ≤ q) D T ad zz) (hX : va_X b L xs s s.heap) (hbl : b < s.heap.size) (hbA : ¬ (fun q : Nat => s.heap.size ≤ q) b) (hL : L < 2147483648) (Inv : Mem → Prop) {i : Nat} (hi : i + 4 < L) (hstep : Step_wipe Inv) {σ : Mem} (hI : Inv σ) (kk : ∀ σ2, Inv σ2 → V p l e room_1 s m #[Value.ref b] below meth c 118 1296 (lw_Z below #[Value.ref b] s) 4 (fun q : Nat => s.heap.size ≤ q) D T ad σ2 1065 [(0, .ref b), (1, .ref (ad 0)), (2, .ref (ad 11)), (3, .int (nI i))] []) : V p l e room_1 s m #[Value.ref b] below meth c 118 1296 (lw_Z below #[Value.ref b] s) 4 (fun q : Nat => s.heap.size ≤ q) D T ad σ 199 [(0, .ref b), (1, .ref (ad 0)), (2, .ref (ad 11)), (3, .int (nI i))] [] := by
  refine V_aload_n C 1 dL_law_199 rfl ?_
  obtain ⟨r, σ1, σ2, h1, h2, h3⟩ := hstep  σ hI
  refine cs_L_18 C (ct_X10_wipe h1) rfl ⟨by decide, by decide⟩ (Nat.le_of_ble_eq_true rfl) dL_law_200 ⟨by decide, by decide⟩ ?_
  refine V_aload_n C 2 dL_law_203 rfl ?_
  refine cs_L_22 C (ct_X11_wipe h2) rfl ⟨by decide, by decide⟩ (Nat.le_of_ble_eq_true rfl) dL_law_204 ⟨by decide, by decide⟩ ?_
  refine V_jeq C 1065 dL_law_207 (by decide) ?_
  exact kk σ2 h3
set_option maxHeartbeats 4000000 in
set_option maxRecDepth 20000 in
theorem lawc_fault {p : Program} {l : Launch} {e : Env} {s : State} {m : MethodId} {below : List Frame} {meth : Method} {c : Code} {D : va_G} {T : Nat → ClassId} {ad zz : Nat → Nat} {b L : Nat} {xs : Nat → Int32} (C : Cx p s m c code 4 R_law (fun q : Nat => s.heap.size ≤ q) D T ad zz) (hX : va_X b L xs s s.heap) (hbl : b < s.heap.size) (hbA : ¬ (fun q : Nat => s.heap.size ≤ q) b) (hL : L < 2147483648) (Inv : Mem → Prop) {i : Nat} (hi : i + 4 < L) (hstep : Step_fault Inv) {σ : Mem} (hI : Inv σ) (kk : ∀ σ2, Inv σ2 → V p l e room_1 s m #[Value.ref b] below meth c 118 1296 (lw_Z below #[Value.ref b] s) 4 (fun q : Nat => s.heap.size ≤ q) D T ad σ2 1065 [(0, .ref b), (1, .ref (ad 0)), (2, .ref (ad 11)), (3, .int (nI i))] []) : V p l e room_1 s m #[Value.ref b] below meth c 118 1296 (lw_Z below #[Value.ref b] s) 4 (fun q : Nat => s.heap.size ≤ q) D T ad σ 212 [(0, .ref b), (1, .ref (ad 0)), (2, .ref (ad 11)), (3, .int (nI i))] [] := by
  refine V_aload_n C 1 dL_law_212 rfl ?_
  obtain ⟨r, σ2, h1, h2, h3⟩ := hstep  σ hI
  refine cs_L_23 C (ct_X10_fault h1) rfl ⟨by decide, by decide⟩ (Nat.le_of_ble_eq_true rfl) dL_law_213 ⟨by decide, by decide⟩ ?_
  refine V_aload_n C 2 dL_law_216 rfl ?_
  refine cs_L_26 C (ct_X11_fault h2) rfl ⟨by decide, by decide⟩ (Nat.le_of_ble_eq_true rfl) dL_law_217 ⟨by decide, by decide⟩ ?_
  refine V_jeq C 1065 dL_law_220 (by decide) ?_
  exact kk σ2 h3
set_option maxHeartbeats 4000000 in
set_option maxRecDepth 20000 in
theorem lawc_fair {p : Program} {l : Launch} {e : Env} {s : State} {m : MethodId} {below : List Frame} {meth : Method} {c : Code} {D : va_G} {T : Nat → ClassId} {ad zz : Nat → Nat} {b L : Nat} {xs : Nat → Int32} (C : Cx p s m c code 4 R_law (fun q : Nat => s.heap.size ≤ q) D T ad zz) (hX : va_X b L xs s s.heap) (hbl : b < s.heap.size) (hbA : ¬ (fun q : Nat => s.heap.size ≤ q) b) (hL : L < 2147483648) (Inv : Mem → Prop) {i : Nat} (hi : i + 4 < L) (hstep : Step_fair Inv) {σ : Mem} (hI : Inv σ) (kk : ∀ σ2, Inv σ2 → V p l e room_1 s m #[Value.ref b] below meth c 118 1296 (lw_Z below #[Value.ref b] s) 4 (fun q : Nat => s.heap.size ≤ q) D T ad σ2 1065 [(0, .ref b), (1, .ref (ad 0)), (2, .ref (ad 11)), (3, .int (nI i))] []) : V p l e room_1 s m #[Value.ref b] below meth c 118 1296 (lw_Z below #[Value.ref b] s) 4 (fun q : Nat => s.heap.size ≤ q) D T ad σ 225 [(0, .ref b), (1, .ref (ad 0)), (2, .ref (ad 11)), (3, .int (nI i))] [] := by
  refine V_aload_n C 1 dL_law_225 rfl ?_
  obtain ⟨r, σ1, σ2, h1, h2, h3⟩ := hstep  σ hI
  refine cs_L_27 C (ct_X10_fair h1) rfl ⟨by decide, by decide⟩ (Nat.le_of_ble_eq_true rfl) dL_law_226 ⟨by decide, by decide⟩ ?_
  refine V_aload_n C 2 dL_law_229 rfl ?_
  refine cs_L_30 C (ct_X11_fair h2) rfl ⟨by decide, by decide⟩ (Nat.le_of_ble_eq_true rfl) dL_law_230 ⟨by decide, by decide⟩ ?_
  refine V_jeq C 1065 dL_law_233 (by decide) ?_
  exact kk σ2 h3
set_option maxHeartbeats 4000000 in
set_option maxRecDepth 20000 in
theorem lawc_about {p : Program} {l : Launch} {e : Env} {s : State} {m : MethodId} {below : List Frame} {meth : Method} {c : Code} {D : va_G} {T : Nat → ClassId} {ad zz : Nat → Nat} {b L : Nat} {xs : Nat → Int32} (C : Cx p s m c code 4 R_law (fun q : Nat => s.heap.size ≤ q) D T ad zz) (hX : va_X b L xs s s.heap) (hbl : b < s.heap.size) (hbA : ¬ (fun q : Nat => s.heap.size ≤ q) b) (hL : L < 2147483648) (Inv : Mem → Prop) {i : Nat} (hi : i + 4 < L) (hstep : Step_about Inv) {σ : Mem} (hI : Inv σ) (kk : ∀ σ2, Inv σ2 → V p l e room_1 s m #[Value.ref b] below meth c 118 1296 (lw_Z below #[Value.ref b] s) 4 (fun q : Nat => s.heap.size ≤ q) D T ad σ2 1065 [(0, .ref b), (1, .ref (ad 0)), (2, .ref (ad 11)), (3, .int (nI i))] []) : V p l e room_1 s m #[Value.ref b] below meth c 118 1296 (lw_Z below #[Value.ref b] s) 4 (fun q : Nat => s.heap.size ≤ q) D T ad σ 238 [(0, .ref b), (1, .ref (ad 0)), (2, .ref (ad 11)), (3, .int (nI i))] [] := by
  refine V_aload_n C 1 dL_law_238 rfl ?_
  refine V_aload_n C 0 dL_law_239 rfl ?_
  refine V_iload_n C 3 dL_law_240 rfl ?_
  refine V_iconst C dL_law_241 (v := (1 : Int32)) (by decide) ?_
  refine V_iadd C dL_law_242 ?_
  refine V_sld C hX hbl hbA hL (i + 1) (nI_add i 1) (by omega) dL_law_243 ?_
  obtain ⟨r, σ1, σ2, h1, h2, h3⟩ := hstep (xs (i + 1)) σ hI
  refine cs_L_31 C (ct_X10_about h1) rfl ⟨by decide, by decide⟩ (Nat.le_of_ble_eq_true rfl) dL_law_244 ⟨by decide, by decide⟩ ?_
  refine V_aload_n C 2 dL_law_247 rfl ?_
  refine V_aload_n C 0 dL_law_248 rfl ?_
  refine V_iload_n C 3 dL_law_249 rfl ?_
  refine V_iconst C dL_law_250 (v := (1 : Int32)) (by decide) ?_
  refine V_iadd C dL_law_251 ?_
  refine V_sld C hX hbl hbA hL (i + 1) (nI_add i 1) (by omega) dL_law_252 ?_
  refine cs_L_34 C (ct_X11_about h2) rfl ⟨by decide, by decide⟩ (Nat.le_of_ble_eq_true rfl) dL_law_253 ⟨by decide, by decide⟩ ?_
  refine V_jeq C 1065 dL_law_256 (by decide) ?_
  exact kk σ2 h3
set_option maxHeartbeats 4000000 in
set_option maxRecDepth 20000 in
theorem lawc_horse {p : Program} {l : Launch} {e : Env} {s : State} {m : MethodId} {below : List Frame} {meth : Method} {c : Code} {D : va_G} {T : Nat → ClassId} {ad zz : Nat → Nat} {b L : Nat} {xs : Nat → Int32} (C : Cx p s m c code 4 R_law (fun q : Nat => s.heap.size ≤ q) D T ad zz) (hX : va_X b L xs s s.heap) (hbl : b < s.heap.size) (hbA : ¬ (fun q : Nat => s.heap.size ≤ q) b) (hL : L < 2147483648) (Inv : Mem → Prop) {i : Nat} (hi : i + 4 < L) (hstep : Step_horse Inv) {σ : Mem} (hI : Inv σ) (kk : ∀ σ2, Inv σ2 → V p l e room_1 s m #[Value.ref b] below meth c 118 1296 (lw_Z below #[Value.ref b] s) 4 (fun q : Nat => s.heap.size ≤ q) D T ad σ2 1065 [(0, .ref b), (1, .ref (ad 0)), (2, .ref (ad 11)), (3, .int (nI i))] []) : V p l e room_1 s m #[Value.ref b] below meth c 118 1296 (lw_Z below #[Value.ref b] s) 4 (fun q : Nat => s.heap.size ≤ q) D T ad σ 261 [(0, .ref b), (1, .ref (ad 0)), (2, .ref (ad 11)), (3, .int (nI i))] [] := by
  refine V_aload_n C 1 dL_law_261 rfl ?_
  refine V_aload_n C 0 dL_law_262 rfl ?_
  refine V_iload_n C 3 dL_law_263 rfl ?_
  refine V_iconst C dL_law_264 (v := (1 : Int32)) (by decide) ?_
  refine V_iadd C dL_law_265 ?_
  refine V_sld C hX hbl hbA hL (i + 1) (nI_add i 1) (by omega) dL_law_266 ?_
  refine V_aload_n C 0 dL_law_267 rfl ?_
  refine V_iload_n C 3 dL_law_268 rfl ?_
  refine V_iconst C dL_law_269 (v := (2 : Int32)) (by decide) ?_
  refine V_iadd C dL_law_270 ?_
  refine V_sld C hX hbl hbA hL (i + 2) (nI_add i 2) (by omega) dL_law_271 ?_
  obtain ⟨r, σ2, h1, h2, h3⟩ := hstep (xs (i + 1)) (xs (i + 2)) σ hI
  refine cs_L_35 C (ct_X10_horse h1) rfl ⟨by decide, by decide⟩ (Nat.le_of_ble_eq_true rfl) dL_law_272 ⟨by decide, by decide⟩ ?_
  refine V_aload_n C 2 dL_law_275 rfl ?_
  refine V_aload_n C 0 dL_law_276 rfl ?_
  refine V_iload_n C 3 dL_law_277 rfl ?_
  refine V_iconst C dL_law_278 (v := (1 : Int32)) (by decide) ?_
  refine V_iadd C dL_law_279 ?_
  refine V_sld C hX hbl hbA hL (i + 1) (nI_add i 1) (by omega) dL_law_280 ?_
  refine V_aload_n C 0 dL_law_281 rfl ?_
  refine V_iload_n C 3 dL_law_282 rfl ?_
  refine V_iconst C dL_law_283 (v := (2 : Int32)) (by decide) ?_
  refine V_iadd C dL_law_284 ?_
  refine V_sld C hX hbl hbA hL (i + 2) (nI_add i 2) (by omega) dL_law_285 ?_
  refine cs_L_39 C (ct_X11_horse h2) rfl ⟨by decide, by decide⟩ (Nat.le_of_ble_eq_true rfl) dL_law_286 ⟨by decide, by decide⟩ ?_
  refine V_jeq C 1065 dL_law_289 (by decide) ?_
  exact kk σ2 h3
set_option maxHeartbeats 4000000 in
set_option maxRecDepth 20000 in
theorem lawc_rider {p : Program} {l : Launch} {e : Env} {s : State} {m : MethodId} {below : List Frame} {meth : Method} {c : Code} {D : va_G} {T : Nat → ClassId} {ad zz : Nat → Nat} {b L : Nat} {xs : Nat → Int32} (C : Cx p s m c code 4 R_law (fun q : Nat => s.heap.size ≤ q) D T ad zz) (hX : va_X b L xs s s.heap) (hbl : b < s.heap.size) (hbA : ¬ (fun q : Nat => s.heap.size ≤ q) b) (hL : L < 2147483648) (Inv : Mem → Prop) {i : Nat} (hi : i + 4 < L) (hstep : Step_rider Inv) {σ : Mem} (hI : Inv σ) (kk : ∀ σ2, Inv σ2 → V p l e room_1 s m #[Value.ref b] below meth c 118 1296 (lw_Z below #[Value.ref b] s) 4 (fun q : Nat => s.heap.size ≤ q) D T ad σ2 1065 [(0, .ref b), (1, .ref (ad 0)), (2, .ref (ad 11)), (3, .int (nI i))] []) : V p l e room_1 s m #[Value.ref b] below meth c 118 1296 (lw_Z below #[Value.ref b] s) 4 (fun q : Nat => s.heap.size ≤ q) D T ad σ 294 [(0, .ref b), (1, .ref (ad 0)), (2, .ref (ad 11)), (3, .int (nI i))] [] := by
  refine V_aload_n C 1 dL_law_294 rfl ?_
  refine V_aload_n C 0 dL_law_295 rfl ?_
  refine V_iload_n C 3 dL_law_296 rfl ?_
  refine V_iconst C dL_law_297 (v := (1 : Int32)) (by decide) ?_
  refine V_iadd C dL_law_298 ?_
  refine V_sld C hX hbl hbA hL (i + 1) (nI_add i 1) (by omega) dL_law_299 ?_
  refine V_aload_n C 0 dL_law_300 rfl ?_
  refine V_iload_n C 3 dL_law_301 rfl ?_
  refine V_iconst C dL_law_302 (v := (2 : Int32)) (by decide) ?_
  refine V_iadd C dL_law_303 ?_
  refine V_sld C hX hbl hbA hL (i + 2) (nI_add i 2) (by omega) dL_law_304 ?_
  obtain ⟨r, σ2, h1, h2, h3⟩ := hstep (xs (i + 1)) (xs (i + 2)) σ hI
  refine cs_L_40 C (ct_X10_rider h1) rfl ⟨by decide, by decide⟩ (Nat.le_of_ble_eq_true rfl) dL_law_305 ⟨by decide, by decide⟩ ?_
  refine V_aload_n C 2 dL_law_308 rfl ?_
  refine V_aload_n C 0 dL_law_309 rfl ?_
  refine V_iload_n C 3 dL_law_310 rfl ?_
  refine V_iconst C dL_law_311 (v := (1 : Int32)) (by decide) ?_
  refine V_iadd C dL_law_312 ?_
  refine V_sld C hX hbl hbA hL (i + 1) (nI_add i 1) (by omega) dL_law_313 ?_
  refine V_aload_n C 0 dL_law_314 rfl ?_
  refine V_iload_n C 3 dL_law_315 rfl ?_
  refine V_iconst C dL_law_316 (v := (2 : Int32)) (by decide) ?_
  refine V_iadd C dL_law_317 ?_
  refine V_sld C hX hbl hbA hL (i + 2) (nI_add i 2) (by omega) dL_law_318 ?_
  refine cs_L_43 C (ct_X11_rider h2) rfl ⟨by decide, by decide⟩ (Nat.le_of_ble_eq_true rfl) dL_law_319 ⟨by decide, by decide⟩ ?_
  refine V_jeq C 1065 dL_law_322 (by decide) ?_
  exact kk σ2 h3
set_option maxHeartbeats 4000000 in
set_option maxRecDepth 20000 in
theorem lawc_worth {p : Program} {l : Launch} {e : Env} {s : State} {m : MethodId} {below : List Frame} {meth : Method} {c : Code} {D : va_G} {T : Nat → ClassId} {ad zz : Nat → Nat} {b L : Nat} {xs : Nat → Int32} (C : Cx p s m c code 4 R_law (fun q : Nat => s.heap.size ≤ q) D T ad zz) (hX : va_X b L xs s s.heap) (hbl : b < s.heap.size) (hbA : ¬ (fun q : Nat => s.heap.size ≤ q) b) (hL : L < 2147483648) (Inv : Mem → Prop) {i : Nat} (hi : i + 4 < L) (hstep : Step_worth Inv) {σ : Mem} (hI : Inv σ) (kk : ∀ σ2, Inv σ2 → V p l e room_1 s m #[Value.ref b] below meth c 118 1296 (lw_Z below #[Value.ref b] s) 4 (fun q : Nat => s.heap.size ≤ q) D T ad σ2 1065 [(0, .ref b), (1, .ref (ad 0)), (2, .ref (ad 11)), (3, .int (nI i))] []) : V p l e room_1 s m #[Value.ref b] below meth c 118 1296 (lw_Z below #[Value.ref b] s) 4 (fun q : Nat => s.heap.size ≤ q) D T ad σ 327 [(0, .ref b), (1, .ref (ad 0)), (2, .ref (ad 11)), (3, .int (nI i))] [] := by
  refine V_aload_n C 1 dL_law_327 rfl ?_
  refine V_aload_n C 0 dL_law_328 rfl ?_
  refine V_iload_n C 3 dL_law_329 rfl ?_
  refine V_iconst C dL_law_330 (v := (1 : Int32)) (by decide) ?_
  refine V_iadd C dL_law_331 ?_
  refine V_sld C hX hbl hbA hL (i + 1) (nI_add i 1) (by omega) dL_law_332 ?_
  refine V_aload_n C 0 dL_law_333 rfl ?_
  refine V_iload_n C 3 dL_law_334 rfl ?_
  refine V_iconst C dL_law_335 (v := (2 : Int32)) (by decide) ?_
  refine V_iadd C dL_law_336 ?_
  refine V_sld C hX hbl hbA hL (i + 2) (nI_add i 2) (by omega) dL_law_337 ?_
  obtain ⟨r, σ1, σ2, h1, h2, h3⟩ := hstep (xs (i + 1)) (xs (i + 2)) σ hI
  refine cs_L_44 C (ct_X10_worth h1) rfl ⟨by decide, by decide⟩ (Nat.le_of_ble_eq_true rfl) dL_law_338 ⟨by decide, by decide⟩ ?_
  refine V_aload_n C 2 dL_law_341 rfl ?_
  refine V_aload_n C 0 dL_law_342 rfl ?_
  refine V_iload_n C 3 dL_law_343 rfl ?_
  refine V_iconst C dL_law_344 (v := (1 : Int32)) (by decide) ?_
  refine V_iadd C dL_law_345 ?_
  refine V_sld C hX hbl hbA hL (i + 1) (nI_add i 1) (by omega) dL_law_346 ?_
  refine V_aload_n C 0 dL_law_347 rfl ?_
  refine V_iload_n C 3 dL_law_348 rfl ?_
  refine V_iconst C dL_law_349 (v := (2 : Int32)) (by decide) ?_
  refine V_iadd C dL_law_350 ?_
  refine V_sld C hX hbl hbA hL (i + 2) (nI_add i 2) (by omega) dL_law_351 ?_
  refine cs_L_47 C (ct_X11_worth h2) rfl ⟨by decide, by decide⟩ (Nat.le_of_ble_eq_true rfl) dL_law_352 ⟨by decide, by decide⟩ ?_
  refine V_jeq C 1065 dL_law_355 (by decide) ?_
  exact kk σ2 h3
set_option maxHeartbeats 4000000 in
set_option maxRecDepth 20000 in
theorem lawc_lead {p : Program} {l : Launch} {e : Env} {s : State} {m : MethodId} {below : List Frame} {meth : Method} {c : Code} {D : va_G} {T : Nat → ClassId} {ad zz : Nat → Nat} {b L : Nat} {xs : Nat → Int32} (C : Cx p s m c code 4 R_law (fun q : Nat => s.heap.size ≤ q) D T ad zz) (hX : va_X b L xs s s.heap) (hbl : b < s.heap.size) (hbA : ¬ (fun q : Nat => s.heap.size ≤ q) b) (hL : L < 2147483648) (Inv : Mem → Prop) {i : Nat} (hi : i + 4 < L) (hstep : Step_lead Inv) {σ : Mem} (hI : Inv σ) (kk : ∀ σ2, Inv σ2 → V p l e room_1 s m #[Value.ref b] below meth c 118 1296 (lw_Z below #[Value.ref b] s) 4 (fun q : Nat => s.heap.size ≤ q) D T ad σ2 1065 [(0, .ref b), (1, .ref (ad 0)), (2, .ref (ad 11)), (3, .int (nI i))] []) : V p l e room_1 s m #[Value.ref b] below meth c 118 1296 (lw_Z below #[Value.ref b] s) 4 (fun q : Nat => s.heap.size ≤ q) D T ad σ 360 [(0, .ref b), (1, .ref (ad 0)), (2, .ref (ad 11)), (3, .int (nI i))] [] := by
  refine V_aload_n C 1 dL_law_360 rfl ?_
  refine V_aload_n C 0 dL_law_361 rfl ?_
  refine V_iload_n C 3 dL_law_362 rfl ?_
  refine V_iconst C dL_law_363 (v := (1 : Int32)) (by decide) ?_
  refine V_iadd C dL_law_364 ?_
  refine V_sld C hX hbl hbA hL (i + 1) (nI_add i 1) (by omega) dL_law_365 ?_
  refine V_aload_n C 0 dL_law_366 rfl ?_
  refine V_iload_n C 3 dL_law_367 rfl ?_
  refine V_iconst C dL_law_368 (v := (2 : Int32)) (by decide) ?_
  refine V_iadd C dL_law_369 ?_
  refine V_sld C hX hbl hbA hL (i + 2) (nI_add i 2) (by omega) dL_law_370 ?_
  obtain ⟨r, σ1, σ2, h1, h2, h3⟩ := hstep (xs (i + 1)) (xs (i + 2)) σ hI
  refine cs_L_48 C (ct_X10_lead h1) rfl ⟨by decide, by decide⟩ (Nat.le_of_ble_eq_true rfl) dL_law_371 ⟨by decide, by decide⟩ ?_
  refine V_aload_n C 2 dL_law_374 rfl ?_
  refine V_aload_n C 0 dL_law_375 rfl ?_
  refine V_iload_n C 3 dL_law_376 rfl ?_
  refine V_iconst C dL_law_377 (v := (1 : Int32)) (by decide) ?_
  refine V_iadd C dL_law_378 ?_
  refine V_sld C hX hbl hbA hL (i + 1) (nI_add i 1) (by omega) dL_law_379 ?_
  refine V_aload_n C 0 dL_law_380 rfl ?_
  refine V_iload_n C 3 dL_law_381 rfl ?_
  refine V_iconst C dL_law_382 (v := (2 : Int32)) (by decide) ?_
  refine V_iadd C dL_law_383 ?_
  refine V_sld C hX hbl hbA hL (i + 2) (nI_add i 2) (by omega) dL_law_384 ?_
  refine cs_L_51 C (ct_X11_lead h2) rfl ⟨by decide, by decide⟩ (Nat.le_of_ble_eq_true rfl) dL_law_385 ⟨by decide, by decide⟩ ?_
  refine V_jeq C 1065 dL_law_388 (by decide) ?_
  exact kk σ2 h3
set_option maxHeartbeats 4000000 in
set_option maxRecDepth 20000 in
theorem lawc_dress {p : Program} {l : Launch} {e : Env} {s : State} {m : MethodId} {below : List Frame} {meth : Method} {c : Code} {D : va_G} {T : Nat → ClassId} {ad zz : Nat → Nat} {b L : Nat} {xs : Nat → Int32} (C : Cx p s m c code 4 R_law (fun q : Nat => s.heap.size ≤ q) D T ad zz) (hX : va_X b L xs s s.heap) (hbl : b < s.heap.size) (hbA : ¬ (fun q : Nat => s.heap.size ≤ q) b) (hL : L < 2147483648) (Inv : Mem → Prop) {i : Nat} (hi : i + 4 < L) (hstep : Step_dress Inv) {σ : Mem} (hI : Inv σ) (kk : ∀ σ2, Inv σ2 → V p l e room_1 s m #[Value.ref b] below meth c 118 1296 (lw_Z below #[Value.ref b] s) 4 (fun q : Nat => s.heap.size ≤ q) D T ad σ2 1065 [(0, .ref b), (1, .ref (ad 0)), (2, .ref (ad 11)), (3, .int (nI i))] []) : V p l e room_1 s m #[Value.ref b] below meth c 118 1296 (lw_Z below #[Value.ref b] s) 4 (fun q : Nat => s.heap.size ≤ q) D T ad σ 393 [(0, .ref b), (1, .ref (ad 0)), (2, .ref (ad 11)), (3, .int (nI i))] [] := by
  refine V_aload_n C 1 dL_law_393 rfl ?_
  refine V_aload_n C 0 dL_law_394 rfl ?_
  refine V_iload_n C 3 dL_law_395 rfl ?_
  refine V_iconst C dL_law_396 (v := (1 : Int32)) (by decide) ?_
  refine V_iadd C dL_law_397 ?_
  refine V_sld C hX hbl hbA hL (i + 1) (nI_add i 1) (by omega) dL_law_398 ?_
  refine V_aload_n C 0 dL_law_399 rfl ?_
  refine V_iload_n C 3 dL_law_400 rfl ?_
  refine V_iconst C dL_law_401 (v := (2 : Int32)) (by decide) ?_
  refine V_iadd C dL_law_402 ?_
  refine V_sld C hX hbl hbA hL (i + 2) (nI_add i 2) (by omega) dL_law_403 ?_
  obtain ⟨r, σ1, σ2, h1, h2, h3⟩ := hstep (xs (i + 1)) (xs (i + 2)) σ hI
  refine cs_L_52 C (ct_X10_dress h1) rfl ⟨by decide, by decide⟩ (Nat.le_of_ble_eq_true rfl) dL_law_404 ⟨by decide, by decide⟩ ?_
  refine V_aload_n C 2 dL_law_407 rfl ?_
  refine V_aload_n C 0 dL_law_408 rfl ?_
  refine V_iload_n C 3 dL_law_409 rfl ?_
  refine V_iconst C dL_law_410 (v := (1 : Int32)) (by decide) ?_
  refine V_iadd C dL_law_411 ?_
  refine V_sld C hX hbl hbA hL (i + 1) (nI_add i 1) (by omega) dL_law_412 ?_
  refine V_aload_n C 0 dL_law_413 rfl ?_
  refine V_iload_n C 3 dL_law_414 rfl ?_
  refine V_iconst C dL_law_415 (v := (2 : Int32)) (by decide) ?_
  refine V_iadd C dL_law_416 ?_
  refine V_sld C hX hbl hbA hL (i + 2) (nI_add i 2) (by omega) dL_law_417 ?_
  refine cs_L_55 C (ct_X11_dress h2) rfl ⟨by decide, by decide⟩ (Nat.le_of_ble_eq_true rfl) dL_law_418 ⟨by decide, by decide⟩ ?_
  refine V_jeq C 1065 dL_law_421 (by decide) ?_
  exact kk σ2 h3
set_option maxHeartbeats 4000000 in
set_option maxRecDepth 20000 in
theorem lawc_giveBack {p : Program} {l : Launch} {e : Env} {s : State} {m : MethodId} {below : List Frame} {meth : Method} {c : Code} {D : va_G} {T : Nat → ClassId} {ad zz : Nat → Nat} {b L : Nat} {xs : Nat → Int32} (C : Cx p s m c code 4 R_law (fun q : Nat => s.heap.size ≤ q) D T ad zz) (hX : va_X b L xs s s.heap) (hbl : b < s.heap.size) (hbA : ¬ (fun q : Nat => s.heap.size ≤ q) b) (hL : L < 2147483648) (Inv : Mem → Prop) {i : Nat} (hi : i + 4 < L) (hstep : Step_giveBack Inv) {σ : Mem} (hI : Inv σ) (kk : ∀ σ2, Inv σ2 → V p l e room_1 s m #[Value.ref b] below meth c 118 1296 (lw_Z below #[Value.ref b] s) 4 (fun q : Nat => s.heap.size ≤ q) D T ad σ2 1065 [(0, .ref b), (1, .ref (ad 0)), (2, .ref (ad 11)), (3, .int (nI i))] []) : V p l e room_1 s m #[Value.ref b] below meth c 118 1296 (lw_Z below #[Value.ref b] s) 4 (fun q : Nat => s.heap.size ≤ q) D T ad σ 426 [(0, .ref b), (1, .ref (ad 0)), (2, .ref (ad 11)), (3, .int (nI i))] [] := by
  refine V_aload_n C 1 dL_law_426 rfl ?_
  refine V_aload_n C 0 dL_law_427 rfl ?_
  refine V_iload_n C 3 dL_law_428 rfl ?_
  refine V_iconst C dL_law_429 (v := (1 : Int32)) (by decide) ?_
  refine V_iadd C dL_law_430 ?_
  refine V_sld C hX hbl hbA hL (i + 1) (nI_add i 1) (by omega) dL_law_431 ?_
  obtain ⟨r, σ1, σ2, h1, h2, h3⟩ := hstep (xs (i + 1)) σ hI
  refine cs_L_56 C (ct_X10_giveBack h1) rfl ⟨by decide, by decide⟩ (Nat.le_of_ble_eq_true rfl) dL_law_432 ⟨by decide, by decide⟩ ?_
  refine V_aload_n C 2 dL_law_435 rfl ?_
  refine V_aload_n C 0 dL_law_436 rfl ?_
  refine V_iload_n C 3 dL_law_437 rfl ?_
  refine V_iconst C dL_law_438 (v := (1 : Int32)) (by decide) ?_
  refine V_iadd C dL_law_439 ?_
  refine V_sld C hX hbl hbA hL (i + 1) (nI_add i 1) (by omega) dL_law_440 ?_
  refine cs_L_59 C (ct_X11_giveBack h2) rfl ⟨by decide, by decide⟩ (Nat.le_of_ble_eq_true rfl) dL_law_441 ⟨by decide, by decide⟩ ?_
  refine V_jeq C 1065 dL_law_444 (by decide) ?_
  exact kk σ2 h3
set_option maxHeartbeats 4000000 in
set_option maxRecDepth 20000 in
theorem lawc_bell {p : Program} {l : Launch} {e : Env} {s : State} {m : MethodId} {below : List Frame} {meth : Method} {c : Code} {D : va_G} {T : Nat → ClassId} {ad zz : Nat → Nat} {b L : Nat} {xs : Nat → Int32} (C : Cx p s m c code 4 R_law (fun q : Nat => s.heap.size ≤ q) D T ad zz) (hX : va_X b L xs s s.heap) (hbl : b < s.heap.size) (hbA : ¬ (fun q : Nat => s.heap.size ≤ q) b) (hL : L < 2147483648) (Inv : Mem → Prop) {i : Nat} (hi : i + 4 < L) (hstep : Step_bell Inv) {σ : Mem} (hI : Inv σ) (kk : ∀ σ2, Inv σ2 → V p l e room_1 s m #[Value.ref b] below meth c 118 1296 (lw_Z below #[Value.ref b] s) 4 (fun q : Nat => s.heap.size ≤ q) D T ad σ2 1065 [(0, .ref b), (1, .ref (ad 0)), (2, .ref (ad 11)), (3, .int (nI i))] []) : V p l e room_1 s m #[Value.ref b] below meth c 118 1296 (lw_Z below #[Value.ref b] s) 4 (fun q : Nat => s.heap.size ≤ q) D T ad σ 449 [(0, .ref b), (1, .ref (ad 0)), (2, .ref (ad 11)), (3, .int (nI i))] [] := by
  refine V_aload_n C 1 dL_law_449 rfl ?_
  obtain ⟨r, σ1, σ2, h1, h2, h3⟩ := hstep  σ hI
  refine cs_L_60 C (ct_X10_bell h1) rfl ⟨by decide, by decide⟩ (Nat.le_of_ble_eq_true rfl) dL_law_450 ⟨by decide, by decide⟩ ?_
  refine V_aload_n C 2 dL_law_453 rfl ?_
  refine cs_L_63 C (ct_X11_bell h2) rfl ⟨by decide, by decide⟩ (Nat.le_of_ble_eq_true rfl) dL_law_454 ⟨by decide, by decide⟩ ?_
  refine V_jeq C 1065 dL_law_457 (by decide) ?_
  exact kk σ2 h3
set_option maxHeartbeats 4000000 in
set_option maxRecDepth 20000 in
theorem lawc_undo {p : Program} {l : Launch} {e : Env} {s : State} {m : MethodId} {below : List Frame} {meth : Method} {c : Code} {D : va_G} {T : Nat → ClassId} {ad zz : Nat → Nat} {b L : Nat} {xs : Nat → Int32} (C : Cx p s m c code 4 R_law (fun q : Nat => s.heap.size ≤ q) D T ad zz) (hX : va_X b L xs s s.heap) (hbl : b < s.heap.size) (hbA : ¬ (fun q : Nat => s.heap.size ≤ q) b) (hL : L < 2147483648) (Inv : Mem → Prop) {i : Nat} (hi : i + 4 < L) (hstep : Step_undo Inv) {σ : Mem} (hI : Inv σ) (kk : ∀ σ2, Inv σ2 → V p l e room_1 s m #[Value.ref b] below meth c 118 1296 (lw_Z below #[Value.ref b] s) 4 (fun q : Nat => s.heap.size ≤ q) D T ad σ2 1065 [(0, .ref b), (1, .ref (ad 0)), (2, .ref (ad 11)), (3, .int (nI i))] []) : V p l e room_1 s m #[Value.ref b] below meth c 118 1296 (lw_Z below #[Value.ref b] s) 4 (fun q : Nat => s.heap.size ≤ q) D T ad σ 462 [(0, .ref b), (1, .ref (ad 0)), (2, .ref (ad 11)), (3, .int (nI i))] [] := by
  refine V_aload_n C 1 dL_law_462 rfl ?_
  obtain ⟨r, σ1, σ2, h1, h2, h3⟩ := hstep  σ hI
  refine cs_L_64 C (ct_X10_undo h1) rfl ⟨by decide, by decide⟩ (Nat.le_of_ble_eq_true rfl) dL_law_463 ⟨by decide, by decide⟩ ?_
  refine V_aload_n C 2 dL_law_466 rfl ?_
  refine cs_L_67 C (ct_X11_undo h2) rfl ⟨by decide, by decide⟩ (Nat.le_of_ble_eq_true rfl) dL_law_467 ⟨by decide, by decide⟩ ?_
  refine V_jeq C 1065 dL_law_470 (by decide) ?_
  exact kk σ2 h3
set_option maxHeartbeats 4000000 in
set_option maxRecDepth 20000 in
theorem lawc_bolts {p : Program} {l : Launch} {e : Env} {s : State} {m : MethodId} {below : List Frame} {meth : Method} {c : Code} {D : va_G} {T : Nat → ClassId} {ad zz : Nat → Nat} {b L : Nat} {xs : Nat → Int32} (C : Cx p s m c code 4 R_law (fun q : Nat => s.heap.size ≤ q) D T ad zz) (hX : va_X b L xs s s.heap) (hbl : b < s.heap.size) (hbA : ¬ (fun q : Nat => s.heap.size ≤ q) b) (hL : L < 2147483648) (Inv : Mem → Prop) {i : Nat} (hi : i + 4 < L) (hstep : Step_bolts Inv) {σ : Mem} (hI : Inv σ) (kk : ∀ σ2, Inv σ2 → V p l e room_1 s m #[Value.ref b] below meth c 118 1296 (lw_Z below #[Value.ref b] s) 4 (fun q : Nat => s.heap.size ≤ q) D T ad σ2 1065 [(0, .ref b), (1, .ref (ad 0)), (2, .ref (ad 11)), (3, .int (nI i))] []) : V p l e room_1 s m #[Value.ref b] below meth c 118 1296 (lw_Z below #[Value.ref b] s) 4 (fun q : Nat => s.heap.size ≤ q) D T ad σ 475 [(0, .ref b), (1, .ref (ad 0)), (2, .ref (ad 11)), (3, .int (nI i))] [] := by
  refine V_aload_n C 1 dL_law_475 rfl ?_
  refine V_aload_n C 0 dL_law_476 rfl ?_
  refine V_iload_n C 3 dL_law_477 rfl ?_
  refine V_iconst C dL_law_478 (v := (1 : Int32)) (by decide) ?_
  refine V_iadd C dL_law_479 ?_
  refine V_sld C hX hbl hbA hL (i + 1) (nI_add i 1) (by omega) dL_law_480 ?_
  refine V_aload_n C 0 dL_law_481 rfl ?_
  refine V_iload_n C 3 dL_law_482 rfl ?_
  refine V_iconst C dL_law_483 (v := (2 : Int32)) (by decide) ?_
  refine V_iadd C dL_law_484 ?_
  refine V_sld C hX hbl hbA hL (i + 2) (nI_add i 2) (by omega) dL_law_485 ?_
  obtain ⟨r, σ1, σ2, h1, h2, h3⟩ := hstep (xs (i + 1)) (xs (i + 2)) σ hI
  refine cs_L_68 C (ct_X10_bolts h1) rfl ⟨by decide, by decide⟩ (Nat.le_of_ble_eq_true rfl) dL_law_486 ⟨by decide, by decide⟩ ?_
  refine V_aload_n C 2 dL_law_489 rfl ?_
  refine V_aload_n C 0 dL_law_490 rfl ?_
  refine V_iload_n C 3 dL_law_491 rfl ?_
  refine V_iconst C dL_law_492 (v := (1 : Int32)) (by decide) ?_
  refine V_iadd C dL_law_493 ?_
  refine V_sld C hX hbl hbA hL (i + 1) (nI_add i 1) (by omega) dL_law_494 ?_
  refine V_aload_n C 0 dL_law_495 rfl ?_
  refine V_iload_n C 3 dL_law_496 rfl ?_
  refine V_iconst C dL_law_497 (v := (2 : Int32)) (by decide) ?_
  refine V_iadd C dL_law_498 ?_
  refine V_sld C hX hbl hbA hL (i + 2) (nI_add i 2) (by omega) dL_law_499 ?_
  refine cs_L_71 C (ct_X11_bolts h2) rfl ⟨by decide, by decide⟩ (Nat.le_of_ble_eq_true rfl) dL_law_500 ⟨by decide, by decide⟩ ?_
  refine V_jeq C 1065 dL_law_503 (by decide) ?_
  exact kk σ2 h3
set_option maxHeartbeats 4000000 in
set_option maxRecDepth 20000 in
theorem lawc_held {p : Program} {l : Launch} {e : Env} {s : State} {m : MethodId} {below : List Frame} {meth : Method} {c : Code} {D : va_G} {T : Nat → ClassId} {ad zz : Nat → Nat} {b L : Nat} {xs : Nat → Int32} (C : Cx p s m c code 4 R_law (fun q : Nat => s.heap.size ≤ q) D T ad zz) (hX : va_X b L xs s s.heap) (hbl : b < s.heap.size) (hbA : ¬ (fun q : Nat => s.heap.size ≤ q) b) (hL : L < 2147483648) (Inv : Mem → Prop) {i : Nat} (hi : i + 4 < L) (hstep : Step_held Inv) {σ : Mem} (hI : Inv σ) (kk : ∀ σ2, Inv σ2 → V p l e room_1 s m #[Value.ref b] below meth c 118 1296 (lw_Z below #[Value.ref b] s) 4 (fun q : Nat => s.heap.size ≤ q) D T ad σ2 1065 [(0, .ref b), (1, .ref (ad 0)), (2, .ref (ad 11)), (3, .int (nI i))] []) : V p l e room_1 s m #[Value.ref b] below meth c 118 1296 (lw_Z below #[Value.ref b] s) 4 (fun q : Nat => s.heap.size ≤ q) D T ad σ 508 [(0, .ref b), (1, .ref (ad 0)), (2, .ref (ad 11)), (3, .int (nI i))] [] := by
  by_cases hb : (xs (i + 2)) = 0
  · refine V_aload_n C 1 dL_law_508 rfl ?_
    refine V_aload_n C 0 dL_law_509 rfl ?_
    refine V_iload_n C 3 dL_law_510 rfl ?_
    refine V_iconst C dL_law_511 (v := (1 : Int32)) (by decide) ?_
    refine V_iadd C dL_law_512 ?_
    refine V_sld C hX hbl hbA hL (i + 1) (nI_add i 1) (by omega) dL_law_513 ?_
    refine V_aload_n C 0 dL_law_514 rfl ?_
    refine V_iload_n C 3 dL_law_515 rfl ?_
    refine V_iconst C dL_law_516 (v := (2 : Int32)) (by decide) ?_
    refine V_iadd C dL_law_517 ?_
    refine V_sld C hX hbl hbA hL (i + 2) (nI_add i 2) (by omega) dL_law_518 ?_
    refine V_jz0 C 526 hb dL_law_519 (by decide) ?_
    refine V_iconst C dL_law_526 (v := (0 : Int32)) (by decide) ?_
    obtain ⟨r, σ1, σ2, h1, h2, h3⟩ := hstep (xs (i + 1)) (0 : Int32) σ (Or.inl rfl) hI
    refine cs_L_72 C (ct_X10_held h1) rfl ⟨by decide, by decide⟩ (Nat.le_of_ble_eq_true rfl) dL_law_527 ⟨by decide, by decide⟩ ?_
    refine V_aload_n C 2 dL_law_530 rfl ?_
    refine V_aload_n C 0 dL_law_531 rfl ?_
    refine V_iload_n C 3 dL_law_532 rfl ?_
    refine V_iconst C dL_law_533 (v := (1 : Int32)) (by decide) ?_
    refine V_iadd C dL_law_534 ?_
    refine V_sld C hX hbl hbA hL (i + 1) (nI_add i 1) (by omega) dL_law_535 ?_
    refine V_aload_n C 0 dL_law_536 rfl ?_
    refine V_iload_n C 3 dL_law_537 rfl ?_
    refine V_iconst C dL_law_538 (v := (2 : Int32)) (by decide) ?_
    refine V_iadd C dL_law_539 ?_
    refine V_sld C hX hbl hbA hL (i + 2) (nI_add i 2) (by omega) dL_law_540 ?_
    refine V_jz0 C 548 hb dL_law_541 (by decide) ?_
    refine V_iconst C dL_law_548 (v := (0 : Int32)) (by decide) ?_
    refine cs_L_76 C (ct_X11_held h2) rfl ⟨by decide, by decide⟩ (Nat.le_of_ble_eq_true rfl) dL_law_549 ⟨by decide, by decide⟩ ?_
    refine V_jeq C 1065 dL_law_552 (by decide) ?_
    exact kk σ2 h3
  · refine V_aload_n C 1 dL_law_508 rfl ?_
    refine V_aload_n C 0 dL_law_509 rfl ?_
    refine V_iload_n C 3 dL_law_510 rfl ?_
    refine V_iconst C dL_law_511 (v := (1 : Int32)) (by decide) ?_
    refine V_iadd C dL_law_512 ?_
    refine V_sld C hX hbl hbA hL (i + 1) (nI_add i 1) (by omega) dL_law_513 ?_
    refine V_aload_n C 0 dL_law_514 rfl ?_
    refine V_iload_n C 3 dL_law_515 rfl ?_
    refine V_iconst C dL_law_516 (v := (2 : Int32)) (by decide) ?_
    refine V_iadd C dL_law_517 ?_
    refine V_sld C hX hbl hbA hL (i + 2) (nI_add i 2) (by omega) dL_law_518 ?_
    refine V_jz1 C (tgt := 526) hb dL_law_519 (by decide) ?_
    refine V_iconst C dL_law_522 (v := (1 : Int32)) (by decide) ?_
    refine V_goto C 527 dL_law_523 (by decide) ?_
    obtain ⟨r, σ1, σ2, h1, h2, h3⟩ := hstep (xs (i + 1)) (1 : Int32) σ (Or.inr rfl) hI
    refine cs_L_72 C (ct_X10_held h1) rfl ⟨by decide, by decide⟩ (Nat.le_of_ble_eq_true rfl) dL_law_527 ⟨by decide, by decide⟩ ?_
    refine V_aload_n C 2 dL_law_530 rfl ?_
    refine V_aload_n C 0 dL_law_531 rfl ?_
    refine V_iload_n C 3 dL_law_532 rfl ?_
    refine V_iconst C dL_law_533 (v := (1 : Int32)) (by decide) ?_
    refine V_iadd C dL_law_534 ?_
    refine V_sld C hX hbl hbA hL (i + 1) (nI_add i 1) (by omega) dL_law_535 ?_
    refine V_aload_n C 0 dL_law_536 rfl ?_
    refine V_iload_n C 3 dL_law_537 rfl ?_
    refine V_iconst C dL_law_538 (v := (2 : Int32)) (by decide) ?_
    refine V_iadd C dL_law_539 ?_
    refine V_sld C hX hbl hbA hL (i + 2) (nI_add i 2) (by omega) dL_law_540 ?_
    refine V_jz1 C (tgt := 548) hb dL_law_541 (by decide) ?_
    refine V_iconst C dL_law_544 (v := (1 : Int32)) (by decide) ?_
    refine V_goto C 549 dL_law_545 (by decide) ?_
    refine cs_L_76 C (ct_X11_held h2) rfl ⟨by decide, by decide⟩ (Nat.le_of_ble_eq_true rfl) dL_law_549 ⟨by decide, by decide⟩ ?_
    refine V_jeq C 1065 dL_law_552 (by decide) ?_
    exact kk σ2 h3
set_option maxHeartbeats 4000000 in
set_option maxRecDepth 20000 in
theorem lawc_holds {p : Program} {l : Launch} {e : Env} {s : State} {m : MethodId} {below : List Frame} {meth : Method} {c : Code} {D : va_G} {T : Nat → ClassId} {ad zz : Nat → Nat} {b L : Nat} {xs : Nat → Int32} (C : Cx p s m c code 4 R_law (fun q : Nat => s.heap.size ≤ q) D T ad zz) (hX : va_X b L xs s s.heap) (hbl : b < s.heap.size) (hbA : ¬ (fun q : Nat => s.heap.size ≤ q) b) (hL : L < 2147483648) (Inv : Mem → Prop) {i : Nat} (hi : i + 4 < L) (hstep : Step_holds Inv) {σ : Mem} (hI : Inv σ) (kk : ∀ σ2, Inv σ2 → V p l e room_1 s m #[Value.ref b] below meth c 118 1296 (lw_Z below #[Value.ref b] s) 4 (fun q : Nat => s.heap.size ≤ q) D T ad σ2 1065 [(0, .ref b), (1, .ref (ad 0)), (2, .ref (ad 11)), (3, .int (nI i))] []) : V p l e room_1 s m #[Value.ref b] below meth c 118 1296 (lw_Z below #[Value.ref b] s) 4 (fun q : Nat => s.heap.size ≤ q) D T ad σ 557 [(0, .ref b), (1, .ref (ad 0)), (2, .ref (ad 11)), (3, .int (nI i))] [] := by
  refine V_aload_n C 1 dL_law_557 rfl ?_
  obtain ⟨r, σ1, σ2, h1, h2, h3⟩ := hstep  σ hI
  refine cs_L_77 C (ct_X10_holds h1) rfl ⟨by decide, by decide⟩ (Nat.le_of_ble_eq_true rfl) dL_law_558 ⟨by decide, by decide⟩ ?_
  refine V_aload_n C 2 dL_law_561 rfl ?_
  refine cs_L_80 C (ct_X11_holds h2) rfl ⟨by decide, by decide⟩ (Nat.le_of_ble_eq_true rfl) dL_law_562 ⟨by decide, by decide⟩ ?_
  refine V_jeq C 1065 dL_law_565 (by decide) ?_
  exact kk σ2 h3
set_option maxHeartbeats 4000000 in
set_option maxRecDepth 20000 in
theorem lawc_sure {p : Program} {l : Launch} {e : Env} {s : State} {m : MethodId} {below : List Frame} {meth : Method} {c : Code} {D : va_G} {T : Nat → ClassId} {ad zz : Nat → Nat} {b L : Nat} {xs : Nat → Int32} (C : Cx p s m c code 4 R_law (fun q : Nat => s.heap.size ≤ q) D T ad zz) (hX : va_X b L xs s s.heap) (hbl : b < s.heap.size) (hbA : ¬ (fun q : Nat => s.heap.size ≤ q) b) (hL : L < 2147483648) (Inv : Mem → Prop) {i : Nat} (hi : i + 4 < L) (hstep : Step_sure Inv) {σ : Mem} (hI : Inv σ) (kk : ∀ σ2, Inv σ2 → V p l e room_1 s m #[Value.ref b] below meth c 118 1296 (lw_Z below #[Value.ref b] s) 4 (fun q : Nat => s.heap.size ≤ q) D T ad σ2 1065 [(0, .ref b), (1, .ref (ad 0)), (2, .ref (ad 11)), (3, .int (nI i))] []) : V p l e room_1 s m #[Value.ref b] below meth c 118 1296 (lw_Z below #[Value.ref b] s) 4 (fun q : Nat => s.heap.size ≤ q) D T ad σ 570 [(0, .ref b), (1, .ref (ad 0)), (2, .ref (ad 11)), (3, .int (nI i))] [] := by
  refine V_aload_n C 1 dL_law_570 rfl ?_
  refine V_aload_n C 0 dL_law_571 rfl ?_
  refine V_iload_n C 3 dL_law_572 rfl ?_
  refine V_iconst C dL_law_573 (v := (1 : Int32)) (by decide) ?_
  refine V_iadd C dL_law_574 ?_
  refine V_sld C hX hbl hbA hL (i + 1) (nI_add i 1) (by omega) dL_law_575 ?_
  obtain ⟨r, σ1, σ2, h1, h2, h3⟩ := hstep (xs (i + 1)) σ hI
  refine cs_L_81 C (ct_X10_sure h1) rfl ⟨by decide, by decide⟩ (Nat.le_of_ble_eq_true rfl) dL_law_576 ⟨by decide, by decide⟩ ?_
  refine V_aload_n C 2 dL_law_579 rfl ?_
  refine V_aload_n C 0 dL_law_580 rfl ?_
  refine V_iload_n C 3 dL_law_581 rfl ?_
  refine V_iconst C dL_law_582 (v := (1 : Int32)) (by decide) ?_
  refine V_iadd C dL_law_583 ?_
  refine V_sld C hX hbl hbA hL (i + 1) (nI_add i 1) (by omega) dL_law_584 ?_
  refine cs_L_84 C (ct_X11_sure h2) rfl ⟨by decide, by decide⟩ (Nat.le_of_ble_eq_true rfl) dL_law_585 ⟨by decide, by decide⟩ ?_
  refine V_jeq C 1065 dL_law_588 (by decide) ?_
  exact kk σ2 h3
set_option maxHeartbeats 4000000 in
set_option maxRecDepth 20000 in
theorem lawc_forged {p : Program} {l : Launch} {e : Env} {s : State} {m : MethodId} {below : List Frame} {meth : Method} {c : Code} {D : va_G} {T : Nat → ClassId} {ad zz : Nat → Nat} {b L : Nat} {xs : Nat → Int32} (C : Cx p s m c code 4 R_law (fun q : Nat => s.heap.size ≤ q) D T ad zz) (hX : va_X b L xs s s.heap) (hbl : b < s.heap.size) (hbA : ¬ (fun q : Nat => s.heap.size ≤ q) b) (hL : L < 2147483648) (Inv : Mem → Prop) {i : Nat} (hi : i + 4 < L) (hstep : Step_forged Inv) {σ : Mem} (hI : Inv σ) (kk : ∀ σ2, Inv σ2 → V p l e room_1 s m #[Value.ref b] below meth c 118 1296 (lw_Z below #[Value.ref b] s) 4 (fun q : Nat => s.heap.size ≤ q) D T ad σ2 1065 [(0, .ref b), (1, .ref (ad 0)), (2, .ref (ad 11)), (3, .int (nI i))] []) : V p l e room_1 s m #[Value.ref b] below meth c 118 1296 (lw_Z below #[Value.ref b] s) 4 (fun q : Nat => s.heap.size ≤ q) D T ad σ 593 [(0, .ref b), (1, .ref (ad 0)), (2, .ref (ad 11)), (3, .int (nI i))] [] := by
  refine V_aload_n C 1 dL_law_593 rfl ?_
  refine V_aload_n C 0 dL_law_594 rfl ?_
  refine V_iload_n C 3 dL_law_595 rfl ?_
  refine V_iconst C dL_law_596 (v := (1 : Int32)) (by decide) ?_
  refine V_iadd C dL_law_597 ?_
  refine V_sld C hX hbl hbA hL (i + 1) (nI_add i 1) (by omega) dL_law_598 ?_
  refine V_aload_n C 0 dL_law_599 rfl ?_
  refine V_iload_n C 3 dL_law_600 rfl ?_
  refine V_iconst C dL_law_601 (v := (2 : Int32)) (by decide) ?_
  refine V_iadd C dL_law_602 ?_
  refine V_sld C hX hbl hbA hL (i + 2) (nI_add i 2) (by omega) dL_law_603 ?_
  refine V_aload_n C 0 dL_law_604 rfl ?_
  refine V_iload_n C 3 dL_law_605 rfl ?_
  refine V_iconst C dL_law_606 (v := (3 : Int32)) (by decide) ?_
  refine V_iadd C dL_law_607 ?_
  refine V_sld C hX hbl hbA hL (i + 3) (nI_add i 3) (by omega) dL_law_608 ?_
  obtain ⟨r, σ1, σ2, h1, h2, h3⟩ := hstep (xs (i + 1)) (xs (i + 2)) (xs (i + 3)) σ hI
  refine cs_L_85 C (ct_X10_forged h1) rfl ⟨by decide, by decide⟩ (Nat.le_of_ble_eq_true rfl) dL_law_609 ⟨by decide, by decide⟩ ?_
  refine V_aload_n C 2 dL_law_612 rfl ?_
  refine V_aload_n C 0 dL_law_613 rfl ?_
  refine V_iload_n C 3 dL_law_614 rfl ?_
  refine V_iconst C dL_law_615 (v := (1 : Int32)) (by decide) ?_
  refine V_iadd C dL_law_616 ?_
  refine V_sld C hX hbl hbA hL (i + 1) (nI_add i 1) (by omega) dL_law_617 ?_
  refine V_aload_n C 0 dL_law_618 rfl ?_
  refine V_iload_n C 3 dL_law_619 rfl ?_
  refine V_iconst C dL_law_620 (v := (2 : Int32)) (by decide) ?_
  refine V_iadd C dL_law_621 ?_
  refine V_sld C hX hbl hbA hL (i + 2) (nI_add i 2) (by omega) dL_law_622 ?_
  refine V_aload_n C 0 dL_law_623 rfl ?_
  refine V_iload_n C 3 dL_law_624 rfl ?_
  refine V_iconst C dL_law_625 (v := (3 : Int32)) (by decide) ?_
  refine V_iadd C dL_law_626 ?_
  refine V_sld C hX hbl hbA hL (i + 3) (nI_add i 3) (by omega) dL_law_627 ?_
  refine cs_L_89 C (ct_X11_forged h2) rfl ⟨by decide, by decide⟩ (Nat.le_of_ble_eq_true rfl) dL_law_628 ⟨by decide, by decide⟩ ?_
  refine V_jeq C 1065 dL_law_631 (by decide) ?_
  exact kk σ2 h3
set_option maxHeartbeats 4000000 in
set_option maxRecDepth 20000 in
theorem lawc_left {p : Program} {l : Launch} {e : Env} {s : State} {m : MethodId} {below : List Frame} {meth : Method} {c : Code} {D : va_G} {T : Nat → ClassId} {ad zz : Nat → Nat} {b L : Nat} {xs : Nat → Int32} (C : Cx p s m c code 4 R_law (fun q : Nat => s.heap.size ≤ q) D T ad zz) (hX : va_X b L xs s s.heap) (hbl : b < s.heap.size) (hbA : ¬ (fun q : Nat => s.heap.size ≤ q) b) (hL : L < 2147483648) (Inv : Mem → Prop) {i : Nat} (hi : i + 4 < L) (hstep : Step_left Inv) {σ : Mem} (hI : Inv σ) (kk : ∀ σ2, Inv σ2 → V p l e room_1 s m #[Value.ref b] below meth c 118 1296 (lw_Z below #[Value.ref b] s) 4 (fun q : Nat => s.heap.size ≤ q) D T ad σ2 1065 [(0, .ref b), (1, .ref (ad 0)), (2, .ref (ad 11)), (3, .int (nI i))] []) : V p l e room_1 s m #[Value.ref b] below meth c 118 1296 (lw_Z below #[Value.ref b] s) 4 (fun q : Nat => s.heap.size ≤ q) D T ad σ 636 [(0, .ref b), (1, .ref (ad 0)), (2, .ref (ad 11)), (3, .int (nI i))] [] := by
  refine V_aload_n C 1 dL_law_636 rfl ?_
  obtain ⟨r, σ1, σ2, h1, h2, h3⟩ := hstep  σ hI
  refine cs_L_90 C (ct_X10_left h1) rfl ⟨by decide, by decide⟩ (Nat.le_of_ble_eq_true rfl) dL_law_637 ⟨by decide, by decide⟩ ?_
  refine V_aload_n C 2 dL_law_640 rfl ?_
  refine cs_L_93 C (ct_X11_left h2) rfl ⟨by decide, by decide⟩ (Nat.le_of_ble_eq_true rfl) dL_law_641 ⟨by decide, by decide⟩ ?_
  refine V_jeq C 1065 dL_law_644 (by decide) ?_
  exact kk σ2 h3
set_option maxHeartbeats 4000000 in
set_option maxRecDepth 20000 in
theorem lawc_race {p : Program} {l : Launch} {e : Env} {s : State} {m : MethodId} {below : List Frame} {meth : Method} {c : Code} {D : va_G} {T : Nat → ClassId} {ad zz : Nat → Nat} {b L : Nat} {xs : Nat → Int32} (C : Cx p s m c code 4 R_law (fun q : Nat => s.heap.size ≤ q) D T ad zz) (hX : va_X b L xs s s.heap) (hbl : b < s.heap.size) (hbA : ¬ (fun q : Nat => s.heap.size ≤ q) b) (hL : L < 2147483648) (Inv : Mem → Prop) {i : Nat} (hi : i + 4 < L) (hstep : Step_race Inv) {σ : Mem} (hI : Inv σ) (kk : ∀ σ2, Inv σ2 → V p l e room_1 s m #[Value.ref b] below meth c 118 1296 (lw_Z below #[Value.ref b] s) 4 (fun q : Nat => s.heap.size ≤ q) D T ad σ2 1065 [(0, .ref b), (1, .ref (ad 0)), (2, .ref (ad 11)), (3, .int (nI i))] []) : V p l e room_1 s m #[Value.ref b] below meth c 118 1296 (lw_Z below #[Value.ref b] s) 4 (fun q : Nat => s.heap.size ≤ q) D T ad σ 649 [(0, .ref b), (1, .ref (ad 0)), (2, .ref (ad 11)), (3, .int (nI i))] [] := by
  refine V_aload_n C 1 dL_law_649 rfl ?_
  obtain ⟨r, σ1, σ2, h1, h2, h3⟩ := hstep  σ hI
  refine cs_L_94 C (ct_X10_race h1) rfl ⟨by decide, by decide⟩ (Nat.le_of_ble_eq_true rfl) dL_law_650 ⟨by decide, by decide⟩ ?_
  refine V_aload_n C 2 dL_law_653 rfl ?_
  refine cs_L_97 C (ct_X11_race h2) rfl ⟨by decide, by decide⟩ (Nat.le_of_ble_eq_true rfl) dL_law_654 ⟨by decide, by decide⟩ ?_
  refine V_jeq C 1065 dL_law_657 (by decide) ?_
  exact kk σ2 h3
set_option maxHeartbeats 4000000 in
set_option maxRecDepth 20000 in
theorem lawc_raceOf {p : Program} {l : Launch} {e : Env} {s : State} {m : MethodId} {below : List Frame} {meth : Method} {c : Code} {D : va_G} {T : Nat → ClassId} {ad zz : Nat → Nat} {b L : Nat} {xs : Nat → Int32} (C : Cx p s m c code 4 R_law (fun q : Nat => s.heap.size ≤ q) D T ad zz) (hX : va_X b L xs s s.heap) (hbl : b < s.heap.size) (hbA : ¬ (fun q : Nat => s.heap.size ≤ q) b) (hL : L < 2147483648) (Inv : Mem → Prop) {i : Nat} (hi : i + 4 < L) (hstep : Step_raceOf Inv) {σ : Mem} (hI : Inv σ) (kk : ∀ σ2, Inv σ2 → V p l e room_1 s m #[Value.ref b] below meth c 118 1296 (lw_Z below #[Value.ref b] s) 4 (fun q : Nat => s.heap.size ≤ q) D T ad σ2 1065 [(0, .ref b), (1, .ref (ad 0)), (2, .ref (ad 11)), (3, .int (nI i))] []) : V p l e room_1 s m #[Value.ref b] below meth c 118 1296 (lw_Z below #[Value.ref b] s) 4 (fun q : Nat => s.heap.size ≤ q) D T ad σ 662 [(0, .ref b), (1, .ref (ad 0)), (2, .ref (ad 11)), (3, .int (nI i))] [] := by
  refine V_aload_n C 1 dL_law_662 rfl ?_
  refine V_aload_n C 0 dL_law_663 rfl ?_
  refine V_iload_n C 3 dL_law_664 rfl ?_
  refine V_iconst C dL_law_665 (v := (1 : Int32)) (by decide) ?_
  refine V_iadd C dL_law_666 ?_
  refine V_sld C hX hbl hbA hL (i + 1) (nI_add i 1) (by omega) dL_law_667 ?_
  obtain ⟨r, σ1, σ2, h1, h2, h3⟩ := hstep (xs (i + 1)) σ hI
  refine cs_L_98 C (ct_X10_raceOf h1) rfl ⟨by decide, by decide⟩ (Nat.le_of_ble_eq_true rfl) dL_law_668 ⟨by decide, by decide⟩ ?_
  refine V_aload_n C 2 dL_law_671 rfl ?_
  refine V_aload_n C 0 dL_law_672 rfl ?_
  refine V_iload_n C 3 dL_law_673 rfl ?_
  refine V_iconst C dL_law_674 (v := (1 : Int32)) (by decide) ?_
  refine V_iadd C dL_law_675 ?_
  refine V_sld C hX hbl hbA hL (i + 1) (nI_add i 1) (by omega) dL_law_676 ?_
  refine cs_L_101 C (ct_X11_raceOf h2) rfl ⟨by decide, by decide⟩ (Nat.le_of_ble_eq_true rfl) dL_law_677 ⟨by decide, by decide⟩ ?_
  refine V_jeq C 1065 dL_law_680 (by decide) ?_
  exact kk σ2 h3
set_option maxHeartbeats 4000000 in
set_option maxRecDepth 20000 in
theorem lawc_choose {p : Program} {l : Launch} {e : Env} {s : State} {m : MethodId} {below : List Frame} {meth : Method} {c : Code} {D : va_G} {T : Nat → ClassId} {ad zz : Nat → Nat} {b L : Nat} {xs : Nat → Int32} (C : Cx p s m c code 4 R_law (fun q : Nat => s.heap.size ≤ q) D T ad zz) (hX : va_X b L xs s s.heap) (hbl : b < s.heap.size) (hbA : ¬ (fun q : Nat => s.heap.size ≤ q) b) (hL : L < 2147483648) (Inv : Mem → Prop) {i : Nat} (hi : i + 4 < L) (hstep : Step_choose Inv) {σ : Mem} (hI : Inv σ) (kk : ∀ σ2, Inv σ2 → V p l e room_1 s m #[Value.ref b] below meth c 118 1296 (lw_Z below #[Value.ref b] s) 4 (fun q : Nat => s.heap.size ≤ q) D T ad σ2 1065 [(0, .ref b), (1, .ref (ad 0)), (2, .ref (ad 11)), (3, .int (nI i))] []) : V p l e room_1 s m #[Value.ref b] below meth c 118 1296 (lw_Z below #[Value.ref b] s) 4 (fun q : Nat => s.heap.size ≤ q) D T ad σ 685 [(0, .ref b), (1, .ref (ad 0)), (2, .ref (ad 11)), (3, .int (nI i))] [] := by
  refine V_aload_n C 1 dL_law_685 rfl ?_
  refine V_aload_n C 0 dL_law_686 rfl ?_
  refine V_iload_n C 3 dL_law_687 rfl ?_
  refine V_iconst C dL_law_688 (v := (1 : Int32)) (by decide) ?_
  refine V_iadd C dL_law_689 ?_
  refine V_sld C hX hbl hbA hL (i + 1) (nI_add i 1) (by omega) dL_law_690 ?_
  refine V_aload_n C 0 dL_law_691 rfl ?_
  refine V_iload_n C 3 dL_law_692 rfl ?_
  refine V_iconst C dL_law_693 (v := (2 : Int32)) (by decide) ?_
  refine V_iadd C dL_law_694 ?_
  refine V_sld C hX hbl hbA hL (i + 2) (nI_add i 2) (by omega) dL_law_695 ?_
  obtain ⟨r, σ1, σ2, h1, h2, h3⟩ := hstep (xs (i + 1)) (xs (i + 2)) σ hI
  refine cs_L_102 C (ct_X10_choose h1) rfl ⟨by decide, by decide⟩ (Nat.le_of_ble_eq_true rfl) dL_law_696 ⟨by decide, by decide⟩ ?_
  refine V_aload_n C 2 dL_law_699 rfl ?_
  refine V_aload_n C 0 dL_law_700 rfl ?_
  refine V_iload_n C 3 dL_law_701 rfl ?_
  refine V_iconst C dL_law_702 (v := (1 : Int32)) (by decide) ?_
  refine V_iadd C dL_law_703 ?_
  refine V_sld C hX hbl hbA hL (i + 1) (nI_add i 1) (by omega) dL_law_704 ?_
  refine V_aload_n C 0 dL_law_705 rfl ?_
  refine V_iload_n C 3 dL_law_706 rfl ?_
  refine V_iconst C dL_law_707 (v := (2 : Int32)) (by decide) ?_
  refine V_iadd C dL_law_708 ?_
  refine V_sld C hX hbl hbA hL (i + 2) (nI_add i 2) (by omega) dL_law_709 ?_
  refine cs_L_105 C (ct_X11_choose h2) rfl ⟨by decide, by decide⟩ (Nat.le_of_ble_eq_true rfl) dL_law_710 ⟨by decide, by decide⟩ ?_
  refine V_jeq C 1065 dL_law_713 (by decide) ?_
  exact kk σ2 h3
set_option maxHeartbeats 4000000 in
set_option maxRecDepth 20000 in
theorem lawc_unchoose {p : Program} {l : Launch} {e : Env} {s : State} {m : MethodId} {below : List Frame} {meth : Method} {c : Code} {D : va_G} {T : Nat → ClassId} {ad zz : Nat → Nat} {b L : Nat} {xs : Nat → Int32} (C : Cx p s m c code 4 R_law (fun q : Nat => s.heap.size ≤ q) D T ad zz) (hX : va_X b L xs s s.heap) (hbl : b < s.heap.size) (hbA : ¬ (fun q : Nat => s.heap.size ≤ q) b) (hL : L < 2147483648) (Inv : Mem → Prop) {i : Nat} (hi : i + 4 < L) (hstep : Step_unchoose Inv) {σ : Mem} (hI : Inv σ) (kk : ∀ σ2, Inv σ2 → V p l e room_1 s m #[Value.ref b] below meth c 118 1296 (lw_Z below #[Value.ref b] s) 4 (fun q : Nat => s.heap.size ≤ q) D T ad σ2 1065 [(0, .ref b), (1, .ref (ad 0)), (2, .ref (ad 11)), (3, .int (nI i))] []) : V p l e room_1 s m #[Value.ref b] below meth c 118 1296 (lw_Z below #[Value.ref b] s) 4 (fun q : Nat => s.heap.size ≤ q) D T ad σ 718 [(0, .ref b), (1, .ref (ad 0)), (2, .ref (ad 11)), (3, .int (nI i))] [] := by
  refine V_aload_n C 1 dL_law_718 rfl ?_
  obtain ⟨r, σ1, σ2, h1, h2, h3⟩ := hstep  σ hI
  refine cs_L_106 C (ct_X10_unchoose h1) rfl ⟨by decide, by decide⟩ (Nat.le_of_ble_eq_true rfl) dL_law_719 ⟨by decide, by decide⟩ ?_
  refine V_aload_n C 2 dL_law_722 rfl ?_
  refine cs_L_109 C (ct_X11_unchoose h2) rfl ⟨by decide, by decide⟩ (Nat.le_of_ble_eq_true rfl) dL_law_723 ⟨by decide, by decide⟩ ?_
  refine V_jeq C 1065 dL_law_726 (by decide) ?_
  exact kk σ2 h3
set_option maxHeartbeats 4000000 in
set_option maxRecDepth 20000 in
theorem lawc_learnt {p : Program} {l : Launch} {e : Env} {s : State} {m : MethodId} {below : List Frame} {meth : Method} {c : Code} {D : va_G} {T : Nat → ClassId} {ad zz : Nat → Nat} {b L : Nat} {xs : Nat → Int32} (C : Cx p s m c code 4 R_law (fun q : Nat => s.heap.size ≤ q) D T ad zz) (hX : va_X b L xs s s.heap) (hbl : b < s.heap.size) (hbA : ¬ (fun q : Nat => s.heap.size ≤ q) b) (hL : L < 2147483648) (Inv : Mem → Prop) {i : Nat} (hi : i + 4 < L) (hstep : Step_learnt Inv) {σ : Mem} (hI : Inv σ) (kk : ∀ σ2, Inv σ2 → V p l e room_1 s m #[Value.ref b] below meth c 118 1296 (lw_Z below #[Value.ref b] s) 4 (fun q : Nat => s.heap.size ≤ q) D T ad σ2 1065 [(0, .ref b), (1, .ref (ad 0)), (2, .ref (ad 11)), (3, .int (nI i))] []) : V p l e room_1 s m #[Value.ref b] below meth c 118 1296 (lw_Z below #[Value.ref b] s) 4 (fun q : Nat => s.heap.size ≤ q) D T ad σ 731 [(0, .ref b), (1, .ref (ad 0)), (2, .ref (ad 11)), (3, .int (nI i))] [] := by
  refine V_aload_n C 1 dL_law_731 rfl ?_
  refine V_aload_n C 0 dL_law_732 rfl ?_
  refine V_iload_n C 3 dL_law_733 rfl ?_
  refine V_iconst C dL_law_734 (v := (1 : Int32)) (by decide) ?_
  refine V_iadd C dL_law_735 ?_
  refine V_sld C hX hbl hbA hL (i + 1) (nI_add i 1) (by omega) dL_law_736 ?_
  obtain ⟨r, σ2, h1, h2, h3⟩ := hstep (xs (i + 1)) σ hI
  refine cs_L_110 C (ct_X10_learnt h1) rfl ⟨by decide, by decide⟩ (Nat.le_of_ble_eq_true rfl) dL_law_737 ⟨by decide, by decide⟩ ?_
  refine V_aload_n C 2 dL_law_740 rfl ?_
  refine V_aload_n C 0 dL_law_741 rfl ?_
  refine V_iload_n C 3 dL_law_742 rfl ?_
  refine V_iconst C dL_law_743 (v := (1 : Int32)) (by decide) ?_
  refine V_iadd C dL_law_744 ?_
  refine V_sld C hX hbl hbA hL (i + 1) (nI_add i 1) (by omega) dL_law_745 ?_
  refine cs_L_113 C (ct_X11_learnt h2) rfl ⟨by decide, by decide⟩ (Nat.le_of_ble_eq_true rfl) dL_law_746 ⟨by decide, by decide⟩ ?_
  refine V_jeq C 1065 dL_law_749 (by decide) ?_
  exact kk σ2 h3
set_option maxHeartbeats 4000000 in
set_option maxRecDepth 20000 in
theorem lawc_next {p : Program} {l : Launch} {e : Env} {s : State} {m : MethodId} {below : List Frame} {meth : Method} {c : Code} {D : va_G} {T : Nat → ClassId} {ad zz : Nat → Nat} {b L : Nat} {xs : Nat → Int32} (C : Cx p s m c code 4 R_law (fun q : Nat => s.heap.size ≤ q) D T ad zz) (hX : va_X b L xs s s.heap) (hbl : b < s.heap.size) (hbA : ¬ (fun q : Nat => s.heap.size ≤ q) b) (hL : L < 2147483648) (Inv : Mem → Prop) {i : Nat} (hi : i + 4 < L) (hstep : Step_next Inv) {σ : Mem} (hI : Inv σ) (kk : ∀ σ2, Inv σ2 → V p l e room_1 s m #[Value.ref b] below meth c 118 1296 (lw_Z below #[Value.ref b] s) 4 (fun q : Nat => s.heap.size ≤ q) D T ad σ2 1065 [(0, .ref b), (1, .ref (ad 0)), (2, .ref (ad 11)), (3, .int (nI i))] []) : V p l e room_1 s m #[Value.ref b] below meth c 118 1296 (lw_Z below #[Value.ref b] s) 4 (fun q : Nat => s.heap.size ≤ q) D T ad σ 754 [(0, .ref b), (1, .ref (ad 0)), (2, .ref (ad 11)), (3, .int (nI i))] [] := by
  refine V_aload_n C 1 dL_law_754 rfl ?_
  obtain ⟨r, σ2, h1, h2, h3⟩ := hstep  σ hI
  refine cs_L_114 C (ct_X10_next h1) rfl ⟨by decide, by decide⟩ (Nat.le_of_ble_eq_true rfl) dL_law_755 ⟨by decide, by decide⟩ ?_
  refine V_aload_n C 2 dL_law_758 rfl ?_
  refine cs_L_117 C (ct_X11_next h2) rfl ⟨by decide, by decide⟩ (Nat.le_of_ble_eq_true rfl) dL_law_759 ⟨by decide, by decide⟩ ?_
  refine V_jeq C 1065 dL_law_762 (by decide) ?_
  exact kk σ2 h3
set_option maxHeartbeats 4000000 in
set_option maxRecDepth 20000 in
theorem lawc_oats {p : Program} {l : Launch} {e : Env} {s : State} {m : MethodId} {below : List Frame} {meth : Method} {c : Code} {D : va_G} {T : Nat → ClassId} {ad zz : Nat → Nat} {b L : Nat} {xs : Nat → Int32} (C : Cx p s m c code 4 R_law (fun q : Nat => s.heap.size ≤ q) D T ad zz) (hX : va_X b L xs s s.heap) (hbl : b < s.heap.size) (hbA : ¬ (fun q : Nat => s.heap.size ≤ q) b) (hL : L < 2147483648) (Inv : Mem → Prop) {i : Nat} (hi : i + 4 < L) (hstep : Step_oats Inv) {σ : Mem} (hI : Inv σ) (kk : ∀ σ2, Inv σ2 → V p l e room_1 s m #[Value.ref b] below meth c 118 1296 (lw_Z below #[Value.ref b] s) 4 (fun q : Nat => s.heap.size ≤ q) D T ad σ2 1065 [(0, .ref b), (1, .ref (ad 0)), (2, .ref (ad 11)), (3, .int (nI i))] []) : V p l e room_1 s m #[Value.ref b] below meth c 118 1296 (lw_Z below #[Value.ref b] s) 4 (fun q : Nat => s.heap.size ≤ q) D T ad σ 767 [(0, .ref b), (1, .ref (ad 0)), (2, .ref (ad 11)), (3, .int (nI i))] [] := by
  refine V_aload_n C 1 dL_law_767 rfl ?_
  refine V_aload_n C 0 dL_law_768 rfl ?_
  refine V_iload_n C 3 dL_law_769 rfl ?_
  refine V_iconst C dL_law_770 (v := (1 : Int32)) (by decide) ?_
  refine V_iadd C dL_law_771 ?_
  refine V_sld C hX hbl hbA hL (i + 1) (nI_add i 1) (by omega) dL_law_772 ?_
  refine V_aload_n C 0 dL_law_773 rfl ?_
  refine V_iload_n C 3 dL_law_774 rfl ?_
  refine V_iconst C dL_law_775 (v := (2 : Int32)) (by decide) ?_
  refine V_iadd C dL_law_776 ?_
  refine V_sld C hX hbl hbA hL (i + 2) (nI_add i 2) (by omega) dL_law_777 ?_
  refine V_aload_n C 0 dL_law_778 rfl ?_
  refine V_iload_n C 3 dL_law_779 rfl ?_
  refine V_iconst C dL_law_780 (v := (3 : Int32)) (by decide) ?_
  refine V_iadd C dL_law_781 ?_
  refine V_sld C hX hbl hbA hL (i + 3) (nI_add i 3) (by omega) dL_law_782 ?_
  refine V_aload_n C 0 dL_law_783 rfl ?_
  refine V_iload_n C 3 dL_law_784 rfl ?_
  refine V_iconst C dL_law_785 (v := (4 : Int32)) (by decide) ?_
  refine V_iadd C dL_law_786 ?_
  refine V_sld C hX hbl hbA hL (i + 4) (nI_add i 4) (by omega) dL_law_787 ?_
  obtain ⟨r, σ1, σ2, h1, h2, h3⟩ := hstep (xs (i + 1)) (xs (i + 2)) (xs (i + 3)) (xs (i + 4)) σ hI
  refine cs_L_118 C (ct_X10_oats h1) rfl ⟨by decide, by decide⟩ (Nat.le_of_ble_eq_true rfl) dL_law_788 ⟨by decide, by decide⟩ ?_
  refine V_aload_n C 2 dL_law_791 rfl ?_
  refine V_aload_n C 0 dL_law_792 rfl ?_
  refine V_iload_n C 3 dL_law_793 rfl ?_
  refine V_iconst C dL_law_794 (v := (1 : Int32)) (by decide) ?_
  refine V_iadd C dL_law_795 ?_
  refine V_sld C hX hbl hbA hL (i + 1) (nI_add i 1) (by omega) dL_law_796 ?_
  refine V_aload_n C 0 dL_law_797 rfl ?_
  refine V_iload_n C 3 dL_law_798 rfl ?_
  refine V_iconst C dL_law_799 (v := (2 : Int32)) (by decide) ?_
  refine V_iadd C dL_law_800 ?_
  refine V_sld C hX hbl hbA hL (i + 2) (nI_add i 2) (by omega) dL_law_801 ?_
  refine V_aload_n C 0 dL_law_802 rfl ?_
  refine V_iload_n C 3 dL_law_803 rfl ?_
  refine V_iconst C dL_law_804 (v := (3 : Int32)) (by decide) ?_
  refine V_iadd C dL_law_805 ?_
  refine V_sld C hX hbl hbA hL (i + 3) (nI_add i 3) (by omega) dL_law_806 ?_
  refine V_aload_n C 0 dL_law_807 rfl ?_
  refine V_iload_n C 3 dL_law_808 rfl ?_
  refine V_iconst C dL_law_809 (v := (4 : Int32)) (by decide) ?_
  refine V_iadd C dL_law_810 ?_
  refine V_sld C hX hbl hbA hL (i + 4) (nI_add i 4) (by omega) dL_law_811 ?_
  refine cs_L_122 C (ct_X11_oats h2) rfl ⟨by decide, by decide⟩ (Nat.le_of_ble_eq_true rfl) dL_law_812 ⟨by decide, by decide⟩ ?_
  refine V_jeq C 1065 dL_law_815 (by decide) ?_
  exact kk σ2 h3
set_option maxHeartbeats 4000000 in
set_option maxRecDepth 20000 in
theorem lawc_saddles {p : Program} {l : Launch} {e : Env} {s : State} {m : MethodId} {below : List Frame} {meth : Method} {c : Code} {D : va_G} {T : Nat → ClassId} {ad zz : Nat → Nat} {b L : Nat} {xs : Nat → Int32} (C : Cx p s m c code 4 R_law (fun q : Nat => s.heap.size ≤ q) D T ad zz) (hX : va_X b L xs s s.heap) (hbl : b < s.heap.size) (hbA : ¬ (fun q : Nat => s.heap.size ≤ q) b) (hL : L < 2147483648) (Inv : Mem → Prop) {i : Nat} (hi : i + 4 < L) (hstep : Step_saddles Inv) {σ : Mem} (hI : Inv σ) (kk : ∀ σ2, Inv σ2 → V p l e room_1 s m #[Value.ref b] below meth c 118 1296 (lw_Z below #[Value.ref b] s) 4 (fun q : Nat => s.heap.size ≤ q) D T ad σ2 1065 [(0, .ref b), (1, .ref (ad 0)), (2, .ref (ad 11)), (3, .int (nI i))] []) : V p l e room_1 s m #[Value.ref b] below meth c 118 1296 (lw_Z below #[Value.ref b] s) 4 (fun q : Nat => s.heap.size ≤ q) D T ad σ 820 [(0, .ref b), (1, .ref (ad 0)), (2, .ref (ad 11)), (3, .int (nI i))] [] := by
  refine V_aload_n C 1 dL_law_820 rfl ?_
  refine V_aload_n C 0 dL_law_821 rfl ?_
  refine V_iload_n C 3 dL_law_822 rfl ?_
  refine V_iconst C dL_law_823 (v := (1 : Int32)) (by decide) ?_
  refine V_iadd C dL_law_824 ?_
  refine V_sld C hX hbl hbA hL (i + 1) (nI_add i 1) (by omega) dL_law_825 ?_
  refine V_aload_n C 0 dL_law_826 rfl ?_
  refine V_iload_n C 3 dL_law_827 rfl ?_
  refine V_iconst C dL_law_828 (v := (2 : Int32)) (by decide) ?_
  refine V_iadd C dL_law_829 ?_
  refine V_sld C hX hbl hbA hL (i + 2) (nI_add i 2) (by omega) dL_law_830 ?_
  refine V_aload_n C 0 dL_law_831 rfl ?_
  refine V_iload_n C 3 dL_law_832 rfl ?_
  refine V_iconst C dL_law_833 (v := (3 : Int32)) (by decide) ?_
  refine V_iadd C dL_law_834 ?_
  refine V_sld C hX hbl hbA hL (i + 3) (nI_add i 3) (by omega) dL_law_835 ?_
  refine V_aload_n C 0 dL_law_836 rfl ?_
  refine V_iload_n C 3 dL_law_837 rfl ?_
  refine V_iconst C dL_law_838 (v := (4 : Int32)) (by decide) ?_
  refine V_iadd C dL_law_839 ?_
  refine V_sld C hX hbl hbA hL (i + 4) (nI_add i 4) (by omega) dL_law_840 ?_
  obtain ⟨r, σ1, σ2, h1, h2, h3⟩ := hstep (xs (i + 1)) (xs (i + 2)) (xs (i + 3)) (xs (i + 4)) σ hI
  refine cs_L_123 C (ct_X10_saddles h1) rfl ⟨by decide, by decide⟩ (Nat.le_of_ble_eq_true rfl) dL_law_841 ⟨by decide, by decide⟩ ?_
  refine V_aload_n C 2 dL_law_844 rfl ?_
  refine V_aload_n C 0 dL_law_845 rfl ?_
  refine V_iload_n C 3 dL_law_846 rfl ?_
  refine V_iconst C dL_law_847 (v := (1 : Int32)) (by decide) ?_
  refine V_iadd C dL_law_848 ?_
  refine V_sld C hX hbl hbA hL (i + 1) (nI_add i 1) (by omega) dL_law_849 ?_
  refine V_aload_n C 0 dL_law_850 rfl ?_
  refine V_iload_n C 3 dL_law_851 rfl ?_
  refine V_iconst C dL_law_852 (v := (2 : Int32)) (by decide) ?_
  refine V_iadd C dL_law_853 ?_
  refine V_sld C hX hbl hbA hL (i + 2) (nI_add i 2) (by omega) dL_law_854 ?_
  refine V_aload_n C 0 dL_law_855 rfl ?_
  refine V_iload_n C 3 dL_law_856 rfl ?_
  refine V_iconst C dL_law_857 (v := (3 : Int32)) (by decide) ?_
  refine V_iadd C dL_law_858 ?_
  refine V_sld C hX hbl hbA hL (i + 3) (nI_add i 3) (by omega) dL_law_859 ?_
  refine V_aload_n C 0 dL_law_860 rfl ?_
  refine V_iload_n C 3 dL_law_861 rfl ?_
  refine V_iconst C dL_law_862 (v := (4 : Int32)) (by decide) ?_
  refine V_iadd C dL_law_863 ?_
  refine V_sld C hX hbl hbA hL (i + 4) (nI_add i 4) (by omega) dL_law_864 ?_
  refine cs_L_126 C (ct_X11_saddles h2) rfl ⟨by decide, by decide⟩ (Nat.le_of_ble_eq_true rfl) dL_law_865 ⟨by decide, by decide⟩ ?_
  refine V_jeq C 1065 dL_law_868 (by decide) ?_
  exact kk σ2 h3
set_option maxHeartbeats 4000000 in
set_option maxRecDepth 20000 in
theorem lawc_chance {p : Program} {l : Launch} {e : Env} {s : State} {m : MethodId} {below : List Frame} {meth : Method} {c : Code} {D : va_G} {T : Nat → ClassId} {ad zz : Nat → Nat} {b L : Nat} {xs : Nat → Int32} (C : Cx p s m c code 4 R_law (fun q : Nat => s.heap.size ≤ q) D T ad zz) (hX : va_X b L xs s s.heap) (hbl : b < s.heap.size) (hbA : ¬ (fun q : Nat => s.heap.size ≤ q) b) (hL : L < 2147483648) (Inv : Mem → Prop) {i : Nat} (hi : i + 4 < L) (hstep : Step_chance Inv) {σ : Mem} (hI : Inv σ) (kk : ∀ σ2, Inv σ2 → V p l e room_1 s m #[Value.ref b] below meth c 118 1296 (lw_Z below #[Value.ref b] s) 4 (fun q : Nat => s.heap.size ≤ q) D T ad σ2 1065 [(0, .ref b), (1, .ref (ad 0)), (2, .ref (ad 11)), (3, .int (nI i))] []) : V p l e room_1 s m #[Value.ref b] below meth c 118 1296 (lw_Z below #[Value.ref b] s) 4 (fun q : Nat => s.heap.size ≤ q) D T ad σ 873 [(0, .ref b), (1, .ref (ad 0)), (2, .ref (ad 11)), (3, .int (nI i))] [] := by
  by_cases hb : (xs (i + 4)) = 0
  · refine V_aload_n C 1 dL_law_873 rfl ?_
    refine V_aload_n C 0 dL_law_874 rfl ?_
    refine V_iload_n C 3 dL_law_875 rfl ?_
    refine V_iconst C dL_law_876 (v := (1 : Int32)) (by decide) ?_
    refine V_iadd C dL_law_877 ?_
    refine V_sld C hX hbl hbA hL (i + 1) (nI_add i 1) (by omega) dL_law_878 ?_
    refine V_aload_n C 0 dL_law_879 rfl ?_
    refine V_iload_n C 3 dL_law_880 rfl ?_
    refine V_iconst C dL_law_881 (v := (2 : Int32)) (by decide) ?_
    refine V_iadd C dL_law_882 ?_
    refine V_sld C hX hbl hbA hL (i + 2) (nI_add i 2) (by omega) dL_law_883 ?_
    refine V_aload_n C 0 dL_law_884 rfl ?_
    refine V_iload_n C 3 dL_law_885 rfl ?_
    refine V_iconst C dL_law_886 (v := (3 : Int32)) (by decide) ?_
    refine V_iadd C dL_law_887 ?_
    refine V_sld C hX hbl hbA hL (i + 3) (nI_add i 3) (by omega) dL_law_888 ?_
    refine V_aload_n C 0 dL_law_889 rfl ?_
    refine V_iload_n C 3 dL_law_890 rfl ?_
    refine V_iconst C dL_law_891 (v := (4 : Int32)) (by decide) ?_
    refine V_iadd C dL_law_892 ?_
    refine V_sld C hX hbl hbA hL (i + 4) (nI_add i 4) (by omega) dL_law_893 ?_
    refine V_jz0 C 901 hb dL_law_894 (by decide) ?_
    refine V_iconst C dL_law_901 (v := (0 : Int32)) (by decide) ?_
    obtain ⟨r, σ1, σ2, h1, h2, h3⟩ := hstep (xs (i + 1)) (xs (i + 2)) (xs (i + 3)) (0 : Int32) σ (Or.inl rfl) hI
    refine cs_L_127 C (ct_X10_chance h1) rfl ⟨by decide, by decide⟩ (Nat.le_of_ble_eq_true rfl) dL_law_902 ⟨by decide, by decide⟩ ?_
    refine V_aload_n C 2 dL_law_905 rfl ?_
    refine V_aload_n C 0 dL_law_906 rfl ?_
    refine V_iload_n C 3 dL_law_907 rfl ?_
    refine V_iconst C dL_law_908 (v := (1 : Int32)) (by decide) ?_
    refine V_iadd C dL_law_909 ?_
    refine V_sld C hX hbl hbA hL (i + 1) (nI_add i 1) (by omega) dL_law_910 ?_
    refine V_aload_n C 0 dL_law_911 rfl ?_
    refine V_iload_n C 3 dL_law_912 rfl ?_
    refine V_iconst C dL_law_913 (v := (2 : Int32)) (by decide) ?_
    refine V_iadd C dL_law_914 ?_
    refine V_sld C hX hbl hbA hL (i + 2) (nI_add i 2) (by omega) dL_law_915 ?_
    refine V_aload_n C 0 dL_law_916 rfl ?_
    refine V_iload_n C 3 dL_law_917 rfl ?_
    refine V_iconst C dL_law_918 (v := (3 : Int32)) (by decide) ?_
    refine V_iadd C dL_law_919 ?_
    refine V_sld C hX hbl hbA hL (i + 3) (nI_add i 3) (by omega) dL_law_920 ?_
    refine V_aload_n C 0 dL_law_921 rfl ?_
    refine V_iload_n C 3 dL_law_922 rfl ?_
    refine V_iconst C dL_law_923 (v := (4 : Int32)) (by decide) ?_
    refine V_iadd C dL_law_924 ?_
    refine V_sld C hX hbl hbA hL (i + 4) (nI_add i 4) (by omega) dL_law_925 ?_
    refine V_jz0 C 933 hb dL_law_926 (by decide) ?_
    refine V_iconst C dL_law_933 (v := (0 : Int32)) (by decide) ?_
    refine cs_L_131 C (ct_X11_chance h2) rfl ⟨by decide, by decide⟩ (Nat.le_of_ble_eq_true rfl) dL_law_934 ⟨by decide, by decide⟩ ?_
    refine V_jeq C 1065 dL_law_937 (by decide) ?_
    exact kk σ2 h3
  · refine V_aload_n C 1 dL_law_873 rfl ?_
    refine V_aload_n C 0 dL_law_874 rfl ?_
    refine V_iload_n C 3 dL_law_875 rfl ?_
    refine V_iconst C dL_law_876 (v := (1 : Int32)) (by decide) ?_
    refine V_iadd C dL_law_877 ?_
    refine V_sld C hX hbl hbA hL (i + 1) (nI_add i 1) (by omega) dL_law_878 ?_
    refine V_aload_n C 0 dL_law_879 rfl ?_
    refine V_iload_n C 3 dL_law_880 rfl ?_
    refine V_iconst C dL_law_881 (v := (2 : Int32)) (by decide) ?_
    refine V_iadd C dL_law_882 ?_
    refine V_sld C hX hbl hbA hL (i + 2) (nI_add i 2) (by omega) dL_law_883 ?_
    refine V_aload_n C 0 dL_law_884 rfl ?_
    refine V_iload_n C 3 dL_law_885 rfl ?_
    refine V_iconst C dL_law_886 (v := (3 : Int32)) (by decide) ?_
    refine V_iadd C dL_law_887 ?_
    refine V_sld C hX hbl hbA hL (i + 3) (nI_add i 3) (by omega) dL_law_888 ?_
    refine V_aload_n C 0 dL_law_889 rfl ?_
    refine V_iload_n C 3 dL_law_890 rfl ?_
    refine V_iconst C dL_law_891 (v := (4 : Int32)) (by decide) ?_
    refine V_iadd C dL_law_892 ?_
    refine V_sld C hX hbl hbA hL (i + 4) (nI_add i 4) (by omega) dL_law_893 ?_
    refine V_jz1 C (tgt := 901) hb dL_law_894 (by decide) ?_
    refine V_iconst C dL_law_897 (v := (1 : Int32)) (by decide) ?_
    refine V_goto C 902 dL_law_898 (by decide) ?_
    obtain ⟨r, σ1, σ2, h1, h2, h3⟩ := hstep (xs (i + 1)) (xs (i + 2)) (xs (i + 3)) (1 : Int32) σ (Or.inr rfl) hI
    refine cs_L_127 C (ct_X10_chance h1) rfl ⟨by decide, by decide⟩ (Nat.le_of_ble_eq_true rfl) dL_law_902 ⟨by decide, by decide⟩ ?_
    refine V_aload_n C 2 dL_law_905 rfl ?_
    refine V_aload_n C 0 dL_law_906 rfl ?_
    refine V_iload_n C 3 dL_law_907 rfl ?_
    refine V_iconst C dL_law_908 (v := (1 : Int32)) (by decide) ?_
    refine V_iadd C dL_law_909 ?_
    refine V_sld C hX hbl hbA hL (i + 1) (nI_add i 1) (by omega) dL_law_910 ?_
    refine V_aload_n C 0 dL_law_911 rfl ?_
    refine V_iload_n C 3 dL_law_912 rfl ?_
    refine V_iconst C dL_law_913 (v := (2 : Int32)) (by decide) ?_
    refine V_iadd C dL_law_914 ?_
    refine V_sld C hX hbl hbA hL (i + 2) (nI_add i 2) (by omega) dL_law_915 ?_
    refine V_aload_n C 0 dL_law_916 rfl ?_
    refine V_iload_n C 3 dL_law_917 rfl ?_
    refine V_iconst C dL_law_918 (v := (3 : Int32)) (by decide) ?_
    refine V_iadd C dL_law_919 ?_
    refine V_sld C hX hbl hbA hL (i + 3) (nI_add i 3) (by omega) dL_law_920 ?_
    refine V_aload_n C 0 dL_law_921 rfl ?_
    refine V_iload_n C 3 dL_law_922 rfl ?_
    refine V_iconst C dL_law_923 (v := (4 : Int32)) (by decide) ?_
    refine V_iadd C dL_law_924 ?_
    refine V_sld C hX hbl hbA hL (i + 4) (nI_add i 4) (by omega) dL_law_925 ?_
    refine V_jz1 C (tgt := 933) hb dL_law_926 (by decide) ?_
    refine V_iconst C dL_law_929 (v := (1 : Int32)) (by decide) ?_
    refine V_goto C 934 dL_law_930 (by decide) ?_
    refine cs_L_131 C (ct_X11_chance h2) rfl ⟨by decide, by decide⟩ (Nat.le_of_ble_eq_true rfl) dL_law_934 ⟨by decide, by decide⟩ ?_
    refine V_jeq C 1065 dL_law_937 (by decide) ?_
    exact kk σ2 h3
set_option maxHeartbeats 4000000 in
set_option maxRecDepth 20000 in
theorem lawc_seed {p : Program} {l : Launch} {e : Env} {s : State} {m : MethodId} {below : List Frame} {meth : Method} {c : Code} {D : va_G} {T : Nat → ClassId} {ad zz : Nat → Nat} {b L : Nat} {xs : Nat → Int32} (C : Cx p s m c code 4 R_law (fun q : Nat => s.heap.size ≤ q) D T ad zz) (hX : va_X b L xs s s.heap) (hbl : b < s.heap.size) (hbA : ¬ (fun q : Nat => s.heap.size ≤ q) b) (hL : L < 2147483648) (Inv : Mem → Prop) {i : Nat} (hi : i + 4 < L) (hstep : Step_seed Inv) {σ : Mem} (hI : Inv σ) (kk : ∀ σ2, Inv σ2 → V p l e room_1 s m #[Value.ref b] below meth c 118 1296 (lw_Z below #[Value.ref b] s) 4 (fun q : Nat => s.heap.size ≤ q) D T ad σ2 1065 [(0, .ref b), (1, .ref (ad 0)), (2, .ref (ad 11)), (3, .int (nI i))] []) : V p l e room_1 s m #[Value.ref b] below meth c 118 1296 (lw_Z below #[Value.ref b] s) 4 (fun q : Nat => s.heap.size ≤ q) D T ad σ 942 [(0, .ref b), (1, .ref (ad 0)), (2, .ref (ad 11)), (3, .int (nI i))] [] := by
  refine V_aload_n C 1 dL_law_942 rfl ?_
  refine V_aload_n C 0 dL_law_943 rfl ?_
  refine V_iload_n C 3 dL_law_944 rfl ?_
  refine V_iconst C dL_law_945 (v := (1 : Int32)) (by decide) ?_
  refine V_iadd C dL_law_946 ?_
  refine V_sld C hX hbl hbA hL (i + 1) (nI_add i 1) (by omega) dL_law_947 ?_
  refine V_i2l C dL_law_948 ?_
  refine V_bipush C dL_law_949 (v := (32 : Int32)) (by decide) ?_
  refine V_lshl C dL_law_951 ?_
  refine V_aload_n C 0 dL_law_952 rfl ?_
  refine V_iload_n C 3 dL_law_953 rfl ?_
  refine V_iconst C dL_law_954 (v := (2 : Int32)) (by decide) ?_
  refine V_iadd C dL_law_955 ?_
  refine V_sld C hX hbl hbA hL (i + 2) (nI_add i 2) (by omega) dL_law_956 ?_
  refine V_i2l C dL_law_957 ?_
  refine V_ldc2 C dL_law_958 (v := (4294967295 : Int64)) (TB_in 1274 (by decide +kernel) (by decide +kernel)) ?_
  refine V_land C dL_law_961 ?_
  refine V_lor C dL_law_962 ?_
  obtain ⟨r, σ1, σ2, h1, h2, h3⟩ := hstep (((xs (i + 1)).toInt64 <<< (((32 : Int32) : Int32).toInt64 &&& 63)) ||| ((xs (i + 2)).toInt64 &&& (4294967295 : Int64))) σ hI
  refine cs_L_134 C (ct_X10_seed h1) rfl ⟨by decide, by decide⟩ (Nat.le_of_ble_eq_true rfl) dL_law_963 ⟨by decide, by decide⟩ ?_
  refine V_aload_n C 2 dL_law_966 rfl ?_
  refine V_aload_n C 0 dL_law_967 rfl ?_
  refine V_iload_n C 3 dL_law_968 rfl ?_
  refine V_iconst C dL_law_969 (v := (1 : Int32)) (by decide) ?_
  refine V_iadd C dL_law_970 ?_
  refine V_sld C hX hbl hbA hL (i + 1) (nI_add i 1) (by omega) dL_law_971 ?_
  refine V_i2l C dL_law_972 ?_
  refine V_bipush C dL_law_973 (v := (32 : Int32)) (by decide) ?_
  refine V_lshl C dL_law_975 ?_
  refine V_aload_n C 0 dL_law_976 rfl ?_
  refine V_iload_n C 3 dL_law_977 rfl ?_
  refine V_iconst C dL_law_978 (v := (2 : Int32)) (by decide) ?_
  refine V_iadd C dL_law_979 ?_
  refine V_sld C hX hbl hbA hL (i + 2) (nI_add i 2) (by omega) dL_law_980 ?_
  refine V_i2l C dL_law_981 ?_
  refine V_ldc2 C dL_law_982 (v := (4294967295 : Int64)) (TB_in 1274 (by decide +kernel) (by decide +kernel)) ?_
  refine V_land C dL_law_985 ?_
  refine V_lor C dL_law_986 ?_
  refine cs_L_138 C (ct_X11_seed h2) rfl ⟨by decide, by decide⟩ (Nat.le_of_ble_eq_true rfl) dL_law_987 ⟨by decide, by decide⟩ ?_
  refine V_lcmp C dL_law_990 ?_
  refine V_jz0 C 1065 (lg_cmp_self _) dL_law_991 (by decide) ?_
  exact kk σ2 h3
set_option maxHeartbeats 4000000 in
set_option maxRecDepth 20000 in
theorem lawc_days {p : Program} {l : Launch} {e : Env} {s : State} {m : MethodId} {below : List Frame} {meth : Method} {c : Code} {D : va_G} {T : Nat → ClassId} {ad zz : Nat → Nat} {b L : Nat} {xs : Nat → Int32} (C : Cx p s m c code 4 R_law (fun q : Nat => s.heap.size ≤ q) D T ad zz) (hX : va_X b L xs s s.heap) (hbl : b < s.heap.size) (hbA : ¬ (fun q : Nat => s.heap.size ≤ q) b) (hL : L < 2147483648) (Inv : Mem → Prop) {i : Nat} (hi : i + 4 < L) (hstep : Step_days Inv) {σ : Mem} (hI : Inv σ) (kk : ∀ σ2, Inv σ2 → V p l e room_1 s m #[Value.ref b] below meth c 118 1296 (lw_Z below #[Value.ref b] s) 4 (fun q : Nat => s.heap.size ≤ q) D T ad σ2 1065 [(0, .ref b), (1, .ref (ad 0)), (2, .ref (ad 11)), (3, .int (nI i))] []) : V p l e room_1 s m #[Value.ref b] below meth c 118 1296 (lw_Z below #[Value.ref b] s) 4 (fun q : Nat => s.heap.size ≤ q) D T ad σ 996 [(0, .ref b), (1, .ref (ad 0)), (2, .ref (ad 11)), (3, .int (nI i))] [] := by
  refine V_aload_n C 1 dL_law_996 rfl ?_
  refine V_aload_n C 0 dL_law_997 rfl ?_
  refine V_iload_n C 3 dL_law_998 rfl ?_
  refine V_iconst C dL_law_999 (v := (1 : Int32)) (by decide) ?_
  refine V_iadd C dL_law_1000 ?_
  refine V_sld C hX hbl hbA hL (i + 1) (nI_add i 1) (by omega) dL_law_1001 ?_
  obtain ⟨r, σ1, σ2, h1, h2, h3⟩ := hstep (xs (i + 1)) σ hI
  refine cs_L_139 C (ct_X10_days h1) rfl ⟨by decide, by decide⟩ (Nat.le_of_ble_eq_true rfl) dL_law_1002 ⟨by decide, by decide⟩ ?_
  refine V_aload_n C 2 dL_law_1005 rfl ?_
  refine V_aload_n C 0 dL_law_1006 rfl ?_
  refine V_iload_n C 3 dL_law_1007 rfl ?_
  refine V_iconst C dL_law_1008 (v := (1 : Int32)) (by decide) ?_
  refine V_iadd C dL_law_1009 ?_
  refine V_sld C hX hbl hbA hL (i + 1) (nI_add i 1) (by omega) dL_law_1010 ?_
  refine cs_L_142 C (ct_X11_days h2) rfl ⟨by decide, by decide⟩ (Nat.le_of_ble_eq_true rfl) dL_law_1011 ⟨by decide, by decide⟩ ?_
  refine V_jeq C 1065 dL_law_1014 (by decide) ?_
  exact kk σ2 h3
set_option maxHeartbeats 4000000 in
set_option maxRecDepth 20000 in
theorem lawc_keep {p : Program} {l : Launch} {e : Env} {s : State} {m : MethodId} {below : List Frame} {meth : Method} {c : Code} {D : va_G} {T : Nat → ClassId} {ad zz : Nat → Nat} {b L : Nat} {xs : Nat → Int32} (C : Cx p s m c code 4 R_law (fun q : Nat => s.heap.size ≤ q) D T ad zz) (hX : va_X b L xs s s.heap) (hbl : b < s.heap.size) (hbA : ¬ (fun q : Nat => s.heap.size ≤ q) b) (hL : L < 2147483648) (Inv : Mem → Prop) {i : Nat} (hi : i + 4 < L) (hstep : Step_keep Inv) {σ : Mem} (hI : Inv σ) (kk : ∀ σ2, Inv σ2 → V p l e room_1 s m #[Value.ref b] below meth c 118 1296 (lw_Z below #[Value.ref b] s) 4 (fun q : Nat => s.heap.size ≤ q) D T ad σ2 1065 [(0, .ref b), (1, .ref (ad 0)), (2, .ref (ad 11)), (3, .int (nI i))] []) : V p l e room_1 s m #[Value.ref b] below meth c 118 1296 (lw_Z below #[Value.ref b] s) 4 (fun q : Nat => s.heap.size ≤ q) D T ad σ 1019 [(0, .ref b), (1, .ref (ad 0)), (2, .ref (ad 11)), (3, .int (nI i))] [] := by
  refine V_aload_n C 1 dL_law_1019 rfl ?_
  refine V_aload_n C 0 dL_law_1020 rfl ?_
  refine V_iload_n C 3 dL_law_1021 rfl ?_
  refine V_iconst C dL_law_1022 (v := (1 : Int32)) (by decide) ?_
  refine V_iadd C dL_law_1023 ?_
  refine V_sld C hX hbl hbA hL (i + 1) (nI_add i 1) (by omega) dL_law_1024 ?_
  obtain ⟨r, σ1, σ2, h1, h2, h3⟩ := hstep (xs (i + 1)) σ hI
  refine cs_L_143 C (ct_X10_keep h1) rfl ⟨by decide, by decide⟩ (Nat.le_of_ble_eq_true rfl) dL_law_1025 ⟨by decide, by decide⟩ ?_
  refine V_aload_n C 2 dL_law_1028 rfl ?_
  refine V_aload_n C 0 dL_law_1029 rfl ?_
  refine V_iload_n C 3 dL_law_1030 rfl ?_
  refine V_iconst C dL_law_1031 (v := (1 : Int32)) (by decide) ?_
  refine V_iadd C dL_law_1032 ?_
  refine V_sld C hX hbl hbA hL (i + 1) (nI_add i 1) (by omega) dL_law_1033 ?_
  refine cs_L_146 C (ct_X11_keep h2) rfl ⟨by decide, by decide⟩ (Nat.le_of_ble_eq_true rfl) dL_law_1034 ⟨by decide, by decide⟩ ?_
  refine V_jeq C 1065 dL_law_1037 (by decide) ?_
  exact kk σ2 h3
set_option maxHeartbeats 4000000 in
set_option maxRecDepth 20000 in
theorem lawc_again {p : Program} {l : Launch} {e : Env} {s : State} {m : MethodId} {below : List Frame} {meth : Method} {c : Code} {D : va_G} {T : Nat → ClassId} {ad zz : Nat → Nat} {b L : Nat} {xs : Nat → Int32} (C : Cx p s m c code 4 R_law (fun q : Nat => s.heap.size ≤ q) D T ad zz) (hX : va_X b L xs s s.heap) (hbl : b < s.heap.size) (hbA : ¬ (fun q : Nat => s.heap.size ≤ q) b) (hL : L < 2147483648) (Inv : Mem → Prop) {i : Nat} (hi : i + 4 < L) (hstep : Step_again Inv) {σ : Mem} (hI : Inv σ) (kk : ∀ σ2, Inv σ2 → V p l e room_1 s m #[Value.ref b] below meth c 118 1296 (lw_Z below #[Value.ref b] s) 4 (fun q : Nat => s.heap.size ≤ q) D T ad σ2 1065 [(0, .ref b), (1, .ref (ad 0)), (2, .ref (ad 11)), (3, .int (nI i))] []) : V p l e room_1 s m #[Value.ref b] below meth c 118 1296 (lw_Z below #[Value.ref b] s) 4 (fun q : Nat => s.heap.size ≤ q) D T ad σ 1042 [(0, .ref b), (1, .ref (ad 0)), (2, .ref (ad 11)), (3, .int (nI i))] [] := by
  refine V_aload_n C 1 dL_law_1042 rfl ?_
  refine V_aload_n C 0 dL_law_1043 rfl ?_
  refine V_iload_n C 3 dL_law_1044 rfl ?_
  refine V_iconst C dL_law_1045 (v := (1 : Int32)) (by decide) ?_
  refine V_iadd C dL_law_1046 ?_
  refine V_sld C hX hbl hbA hL (i + 1) (nI_add i 1) (by omega) dL_law_1047 ?_
  obtain ⟨r, σ1, σ2, h1, h2, h3⟩ := hstep (xs (i + 1)) σ hI
  refine cs_L_147 C (ct_X10_again h1) rfl ⟨by decide, by decide⟩ (Nat.le_of_ble_eq_true rfl) dL_law_1048 ⟨by decide, by decide⟩ ?_
  refine V_aload_n C 2 dL_law_1051 rfl ?_
  refine V_aload_n C 0 dL_law_1052 rfl ?_
  refine V_iload_n C 3 dL_law_1053 rfl ?_
  refine V_iconst C dL_law_1054 (v := (1 : Int32)) (by decide) ?_
  refine V_iadd C dL_law_1055 ?_
  refine V_sld C hX hbl hbA hL (i + 1) (nI_add i 1) (by omega) dL_law_1056 ?_
  refine cs_L_150 C (ct_X11_again h2) rfl ⟨by decide, by decide⟩ (Nat.le_of_ble_eq_true rfl) dL_law_1057 ⟨by decide, by decide⟩ ?_
  refine V_jeq C 1065 dL_law_1060 (by decide) ?_
  exact kk σ2 h3
theorem and31 (x : Int32) : ∃ j : Nat, j < 32 ∧ x &&& 31 = nI j := pk_andE x 5 (by decide)
set_option maxHeartbeats 4000000 in
set_option maxRecDepth 20000 in
theorem law_loop {p : Program} {l : Launch} {e : Env} {s : State} {m : MethodId} {below : List Frame} {meth : Method} {c : Code} {D : va_G} {T : Nat → ClassId} {ad zz : Nat → Nat} {b L : Nat} {xs : Nat → Int32} (C : Cx p s m c code 4 R_law (fun q : Nat => s.heap.size ≤ q) D T ad zz) (hX : va_X b L xs s s.heap) (hbl : b < s.heap.size) (hbA : ¬ (fun q : Nat => s.heap.size ≤ q) b) (hL : L < 2147483648) (Inv : Mem → Prop) (hL2 : L ≤ 2560) (hr : meth.sig.returnType = ret) (hlk : meth.locks = false) (h_write : Step_write Inv) (h_wipe : Step_wipe Inv) (h_fault : Step_fault Inv) (h_fair : Step_fair Inv) (h_about : Step_about Inv) (h_horse : Step_horse Inv) (h_rider : Step_rider Inv) (h_worth : Step_worth Inv) (h_lead : Step_lead Inv) (h_dress : Step_dress Inv) (h_giveBack : Step_giveBack Inv) (h_bell : Step_bell Inv) (h_undo : Step_undo Inv) (h_bolts : Step_bolts Inv) (h_held : Step_held Inv) (h_holds : Step_holds Inv) (h_sure : Step_sure Inv) (h_forged : Step_forged Inv) (h_left : Step_left Inv) (h_race : Step_race Inv) (h_raceOf : Step_raceOf Inv) (h_choose : Step_choose Inv) (h_unchoose : Step_unchoose Inv) (h_learnt : Step_learnt Inv) (h_next : Step_next Inv) (h_oats : Step_oats Inv) (h_saddles : Step_saddles Inv) (h_chance : Step_chance Inv) (h_seed : Step_seed Inv) (h_days : Step_days Inv) (h_keep : Step_keep Inv) (h_again : Step_again Inv) : ∀ (n i : Nat), i ≤ 2600 → 2601 ≤ i + n → ∀ (σ : Mem), Inv σ → V p l e room_1 s m #[Value.ref b] below meth c 118 1296 (lw_Z below #[Value.ref b] s) 4 (fun q : Nat => s.heap.size ≤ q) D T ad σ 18 [(0, .ref b), (1, .ref (ad 0)), (2, .ref (ad 11)), (3, .int (nI i))] [] := by
  have e5 : ∀ i : Nat, i ≤ 2600 → (nI L - 5 < nI i ↔ L < i + 5) := by
    intro i hi
    have h1 : (nI L - (5 : Int32)).toInt = (L : Int) - 5 := pk_sub_toInt (a := L) (b := 5) (by omega) (by decide)
    rw [Int32.lt_iff_toInt_lt, h1, nI_toInt (by omega)]
    omega
  have out : ∀ (i : Nat) (σ : Mem), V p l e room_1 s m #[Value.ref b] below meth c 118 1296 (lw_Z below #[Value.ref b] s) 4 (fun q : Nat => s.heap.size ≤ q) D T ad σ 1071 [(0, .ref b), (1, .ref (ad 0)), (2, .ref (ad 11)), (3, .int (nI i))] [] := by
    intro i σ
    refine V_iconst C dL_law_1071 (v := (1 : Int32)) (by decide) ?_
    intro H locs ls hP hS hl
    refine va_forget (fun q hq => hS.2.2 q hq) ?_
    refine W.widen (k := 600000) (n := 7302250) (Nat.le_of_ble_eq_true rfl) (Nat.le_of_ble_eq_true rfl) ?_
    exact lw_ret C.1 C.2.1 hr hlk dL_law_1072
  intro n
  induction n with
  | zero =>
    intro i h1 h2
    omega
  | succ n ih =>
    intro i hi hn σ hI
    refine V_iload_n C 3 dL_law_18 rfl ?_
    refine V_aload_n C 0 dL_law_19 rfl ?_
    refine V_slen C hX hbl hbA dL_law_20 ?_
    refine V_iconst C dL_law_21 (v := (5 : Int32)) (by decide) ?_
    refine V_isub C dL_law_22 ?_
    refine V_jgt C 1071 dL_law_23 (by decide) (fun _ => out i σ) (fun h => ?_)
    have h4 : i + 4 < L := by
      have := mt (e5 i hi).mpr h
      omega
    have kk : ∀ σ2, Inv σ2 → V p l e room_1 s m #[Value.ref b] below meth c 118 1296 (lw_Z below #[Value.ref b] s) 4 (fun q : Nat => s.heap.size ≤ q) D T ad σ2 1065 [(0, .ref b), (1, .ref (ad 0)), (2, .ref (ad 11)), (3, .int (nI i))] [] := by
      intro σ2 h3
      refine V_iinc C (v := nI (i + 5)) (lv' := [(3, .int (nI (i + 5))), (0, .ref b), (1, .ref (ad 0)), (2, .ref (ad 11))]) 3 dL_law_1065 rfl (nI_add i 5) (by decide) rfl ?_
      refine V_goto C 18 dL_law_1068 (by decide) ?_
      refine V_lv (ks := [1, 2, 3, 0]) rfl ?_
      exact ih (i + 5) (by omega) (by omega) σ2 h3
    refine V_aload_n C 0 dL_law_26 rfl ?_
    refine V_iload_n C 3 dL_law_27 rfl ?_
    refine V_sld C hX hbl hbA hL i rfl (by omega) dL_law_28 ?_
    refine V_bipush C dL_law_29 (v := (31 : Int32)) (by decide) ?_
    refine V_iand C dL_law_31 ?_
    obtain ⟨j, hj32, hj⟩ := and31 (xs i)
    match j, hj32, hj with
    | 0, _, hj => exact V_tsIn C (v := nI 0) (off := 144) 176 hj dL_law_32 (by decide) (by decide) (by decide) (by decide) (lawc_write C hX hbl hbA hL Inv (by omega) h_write hI kk)
    | 1, _, hj => exact V_tsIn C (v := nI 1) (off := 167) 199 hj dL_law_32 (by decide) (by decide) (by decide) (by decide) (lawc_wipe C hX hbl hbA hL Inv (by omega) h_wipe hI kk)
    | 2, _, hj => exact V_tsIn C (v := nI 2) (off := 180) 212 hj dL_law_32 (by decide) (by decide) (by decide) (by decide) (lawc_fault C hX hbl hbA hL Inv (by omega) h_fault hI kk)
    | 3, _, hj => exact V_tsIn C (v := nI 3) (off := 193) 225 hj dL_law_32 (by decide) (by decide) (by decide) (by decide) (lawc_fair C hX hbl hbA hL Inv (by omega) h_fair hI kk)
    | 4, _, hj => exact V_tsIn C (v := nI 4) (off := 206) 238 hj dL_law_32 (by decide) (by decide) (by decide) (by decide) (lawc_about C hX hbl hbA hL Inv (by omega) h_about hI kk)
    | 5, _, hj => exact V_tsIn C (v := nI 5) (off := 229) 261 hj dL_law_32 (by decide) (by decide) (by decide) (by decide) (lawc_horse C hX hbl hbA hL Inv (by omega) h_horse hI kk)
    | 6, _, hj => exact V_tsIn C (v := nI 6) (off := 262) 294 hj dL_law_32 (by decide) (by decide) (by decide) (by decide) (lawc_rider C hX hbl hbA hL Inv (by omega) h_rider hI kk)
    | 7, _, hj => exact V_tsIn C (v := nI 7) (off := 295) 327 hj dL_law_32 (by decide) (by decide) (by decide) (by decide) (lawc_worth C hX hbl hbA hL Inv (by omega) h_worth hI kk)
    | 8, _, hj => exact V_tsIn C (v := nI 8) (off := 328) 360 hj dL_law_32 (by decide) (by decide) (by decide) (by decide) (lawc_lead C hX hbl hbA hL Inv (by omega) h_lead hI kk)
    | 9, _, hj => exact V_tsIn C (v := nI 9) (off := 361) 393 hj dL_law_32 (by decide) (by decide) (by decide) (by decide) (lawc_dress C hX hbl hbA hL Inv (by omega) h_dress hI kk)
    | 10, _, hj => exact V_tsIn C (v := nI 10) (off := 394) 426 hj dL_law_32 (by decide) (by decide) (by decide) (by decide) (lawc_giveBack C hX hbl hbA hL Inv (by omega) h_giveBack hI kk)
    | 11, _, hj => exact V_tsIn C (v := nI 11) (off := 417) 449 hj dL_law_32 (by decide) (by decide) (by decide) (by decide) (lawc_bell C hX hbl hbA hL Inv (by omega) h_bell hI kk)
    | 12, _, hj => exact V_tsIn C (v := nI 12) (off := 430) 462 hj dL_law_32 (by decide) (by decide) (by decide) (by decide) (lawc_undo C hX hbl hbA hL Inv (by omega) h_undo hI kk)
    | 13, _, hj => exact V_tsIn C (v := nI 13) (off := 443) 475 hj dL_law_32 (by decide) (by decide) (by decide) (by decide) (lawc_bolts C hX hbl hbA hL Inv (by omega) h_bolts hI kk)
    | 14, _, hj => exact V_tsIn C (v := nI 14) (off := 476) 508 hj dL_law_32 (by decide) (by decide) (by decide) (by decide) (lawc_held C hX hbl hbA hL Inv (by omega) h_held hI kk)
    | 15, _, hj => exact V_tsIn C (v := nI 15) (off := 525) 557 hj dL_law_32 (by decide) (by decide) (by decide) (by decide) (lawc_holds C hX hbl hbA hL Inv (by omega) h_holds hI kk)
    | 16, _, hj => exact V_tsIn C (v := nI 16) (off := 538) 570 hj dL_law_32 (by decide) (by decide) (by decide) (by decide) (lawc_sure C hX hbl hbA hL Inv (by omega) h_sure hI kk)
    | 17, _, hj => exact V_tsIn C (v := nI 17) (off := 561) 593 hj dL_law_32 (by decide) (by decide) (by decide) (by decide) (lawc_forged C hX hbl hbA hL Inv (by omega) h_forged hI kk)
    | 18, _, hj => exact V_tsIn C (v := nI 18) (off := 604) 636 hj dL_law_32 (by decide) (by decide) (by decide) (by decide) (lawc_left C hX hbl hbA hL Inv (by omega) h_left hI kk)
    | 19, _, hj => exact V_tsIn C (v := nI 19) (off := 617) 649 hj dL_law_32 (by decide) (by decide) (by decide) (by decide) (lawc_race C hX hbl hbA hL Inv (by omega) h_race hI kk)
    | 20, _, hj => exact V_tsIn C (v := nI 20) (off := 630) 662 hj dL_law_32 (by decide) (by decide) (by decide) (by decide) (lawc_raceOf C hX hbl hbA hL Inv (by omega) h_raceOf hI kk)
    | 21, _, hj => exact V_tsIn C (v := nI 21) (off := 653) 685 hj dL_law_32 (by decide) (by decide) (by decide) (by decide) (lawc_choose C hX hbl hbA hL Inv (by omega) h_choose hI kk)
    | 22, _, hj => exact V_tsIn C (v := nI 22) (off := 686) 718 hj dL_law_32 (by decide) (by decide) (by decide) (by decide) (lawc_unchoose C hX hbl hbA hL Inv (by omega) h_unchoose hI kk)
    | 23, _, hj => exact V_tsIn C (v := nI 23) (off := 699) 731 hj dL_law_32 (by decide) (by decide) (by decide) (by decide) (lawc_learnt C hX hbl hbA hL Inv (by omega) h_learnt hI kk)
    | 24, _, hj => exact V_tsIn C (v := nI 24) (off := 722) 754 hj dL_law_32 (by decide) (by decide) (by decide) (by decide) (lawc_next C hX hbl hbA hL Inv (by omega) h_next hI kk)
    | 25, _, hj => exact V_tsIn C (v := nI 25) (off := 735) 767 hj dL_law_32 (by decide) (by decide) (by decide) (by decide) (lawc_oats C hX hbl hbA hL Inv (by omega) h_oats hI kk)
    | 26, _, hj => exact V_tsIn C (v := nI 26) (off := 788) 820 hj dL_law_32 (by decide) (by decide) (by decide) (by decide) (lawc_saddles C hX hbl hbA hL Inv (by omega) h_saddles hI kk)
    | 27, _, hj => exact V_tsIn C (v := nI 27) (off := 841) 873 hj dL_law_32 (by decide) (by decide) (by decide) (by decide) (lawc_chance C hX hbl hbA hL Inv (by omega) h_chance hI kk)
    | 28, _, hj => exact V_tsIn C (v := nI 28) (off := 910) 942 hj dL_law_32 (by decide) (by decide) (by decide) (by decide) (lawc_seed C hX hbl hbA hL Inv (by omega) h_seed hI kk)
    | 29, _, hj => exact V_tsIn C (v := nI 29) (off := 964) 996 hj dL_law_32 (by decide) (by decide) (by decide) (by decide) (lawc_days C hX hbl hbA hL Inv (by omega) h_days hI kk)
    | 30, _, hj => exact V_tsIn C (v := nI 30) (off := 987) 1019 hj dL_law_32 (by decide) (by decide) (by decide) (by decide) (lawc_keep C hX hbl hbA hL Inv (by omega) h_keep hI kk)
    | 31, _, hj => exact V_tsIn C (v := nI 31) (off := 1010) 1042 hj dL_law_32 (by decide) (by decide) (by decide) (by decide) (lawc_again C hX hbl hbA hL Inv (by omega) h_again hI kk)
    | j + 32, h, _ => exact absurd h (by omega)
