set_option maxHeartbeats 2000000 in
set_option maxRecDepth 40000 in
theorem start_gen {p : Program} {e : Env} {s : State} {m : MethodId} {below : List Frame} {meth : Method} {c : Code} (l : Launch) {b L : Nat} {xs : Nat → Int32} (hL : L ≤ 2560) (C0 : lw_At p s m meth c b L xs) (Inv : Mem → Prop) (hI0 : Inv mem0) (h_write : Step_write Inv) (h_wipe : Step_wipe Inv) (h_fault : Step_fault Inv) (h_fair : Step_fair Inv) (h_about : Step_about Inv) (h_horse : Step_horse Inv) (h_rider : Step_rider Inv) (h_worth : Step_worth Inv) (h_lead : Step_lead Inv) (h_dress : Step_dress Inv) (h_giveBack : Step_giveBack Inv) (h_bell : Step_bell Inv) (h_undo : Step_undo Inv) (h_bolts : Step_bolts Inv) (h_held : Step_held Inv) (h_holds : Step_holds Inv) (h_sure : Step_sure Inv) (h_forged : Step_forged Inv) (h_left : Step_left Inv) (h_race : Step_race Inv) (h_raceOf : Step_raceOf Inv) (h_choose : Step_choose Inv) (h_unchoose : Step_unchoose Inv) (h_learnt : Step_learnt Inv) (h_next : Step_next Inv) (h_oats : Step_oats Inv) (h_saddles : Step_saddles Inv) (h_chance : Step_chance Inv) (h_seed : Step_seed Inv) (h_days : Step_days Inv) (h_keep : Step_keep Inv) (h_again : Step_again Inv) : W p l e room_1 s m #[Value.ref b] below meth c s.heap [] 0 0 (lw_Z below #[Value.ref b] s) (entryFrame m ([Value.ref b] : List Value).toArray 4) := by
  obtain ⟨hx, hb, hr, hml, hown, hts, hX, hbl, hlocks, hgv⟩ := id C0
  have hbA : ¬ (fun q : Nat => s.heap.size ≤ q) b := Nat.not_le.mpr hbl
  have hnA : ∀ a : Nat, a < s.heap.size → ¬ (fun q : Nat => s.heap.size ≤ q) a := fun a h => Nat.not_le.mpr h
  have hTW : TW s := fun w hw => by
    have h1 := TB_ok hw
    simp only [okW, Bool.and_eq_true] at h1
    exact va_tabs h1.1 rfl (hts w (List.mem_filter.mp hw).1)
  have hTB : ∀ w ∈ TB, w.before #[Value.ref b] s = true := fun w hw => TW_use hTW hw _
  have hAC : AC s := ⟨hts (.arrayClass .int) (List.mem_of_getElem? (i := 108) (by decide +kernel)), hts (.arrayClass .boolean) (List.mem_of_getElem? (i := 980) (by decide +kernel)), hts (.arrayOver (.object "HorsesChoose$State")) (List.mem_of_getElem? (i := 214) (by decide +kernel))⟩
  obtain ⟨c0, iS0, hKn0⟩ := u_known (ws := TB) (C := RX0) (T := TX0) (N := 3) (n := 3) hTB inX0 (hTB _ (TB_in 208 (by decide +kernel) (by decide +kernel)))
  obtain ⟨c1, iS1, hKn1⟩ := u_known (ws := TB) (C := RX1) (T := TX1) (N := 5) (n := 5) hTB inX1 (hTB _ (TB_in 318 (by decide +kernel) (by decide +kernel)))
  obtain ⟨c2, iS2, hKn2⟩ := u_known (ws := TB) (C := RX2) (T := TX2) (N := 3) (n := 3) hTB inX2 (hTB _ (TB_in 228 (by decide +kernel) (by decide +kernel)))
  obtain ⟨c3, iS3, hKn3⟩ := u_known (ws := TB) (C := RX3) (T := TX3) (N := 11) (n := 11) hTB inX3 (hTB _ (TB_in 110 (by decide +kernel) (by decide +kernel)))
  obtain ⟨c4, iS4, hKn4⟩ := u_known (ws := TB) (C := RX4) (T := TX4) (N := 5) (n := 5) hTB inX4 (hTB _ (TB_in 259 (by decide +kernel) (by decide +kernel)))
  obtain ⟨c5, iS5, hKn5⟩ := u_known (ws := TB) (C := RX5) (T := TX5) (N := 4) (n := 4) hTB inX5 (hTB _ (TB_in 172 (by decide +kernel) (by decide +kernel)))
  obtain ⟨c6, iS6, hKn6⟩ := u_known (ws := TB) (C := RX6) (T := TX6) (N := 2) (n := 2) hTB inX6 (hTB _ (TB_in 94 (by decide +kernel) (by decide +kernel)))
  obtain ⟨c7, iS7, hKn7⟩ := u_known (ws := TB) (C := RX7) (T := TX7) (N := 1) (n := 1) hTB inX7 (hTB _ (TB_in 178 (by decide +kernel) (by decide +kernel)))
  obtain ⟨c8, iS8, hKn8⟩ := u_known (ws := TB) (C := RX8) (T := TX8) (N := 7) (n := 7) hTB inX8 (hTB _ (TB_in 284 (by decide +kernel) (by decide +kernel)))
  obtain ⟨c9, iS9, hKn9⟩ := u_known (ws := TB) (C := RX9) (T := TX9) (N := 2) (n := 2) hTB inX9 (hTB _ (TB_in 245 (by decide +kernel) (by decide +kernel)))
  obtain ⟨c10, iS10, hKn10⟩ := u_known (ws := TB) (C := RX10) (T := TX10) (N := 12) (n := 12) hTB inX10 (hTB _ (TB_in 86 (by decide +kernel) (by decide +kernel)))
  obtain ⟨c11, iS11, hKn11⟩ := u_known (ws := TB) (C := RX11) (T := TX11) (N := 27) (n := 27) hTB inX11 (hTB _ (TB_in 893 (by decide +kernel) (by decide +kernel)))
  obtain ⟨dC, dI, hKc⟩ : ∃ (dC : Nat → ClassId) (dI : Nat → Nat → Nat), ∀ (k : Nat) (q : vw_C), vwCl[k]? = some q → u_Kn s q.1 q.2.1 q.2.2 (dC k) (dI k) := by
    refine ⟨fun k => match k with | 0 => c0 | 1 => c1 | 2 => c2 | 3 => c3 | 4 => c4 | 5 => c5 | 6 => c6 | 7 => c7 | 8 => c8 | 9 => c9 | 10 => c10 | _ => c11, fun k => match k with | 0 => iS0 | 1 => iS1 | 2 => iS2 | 3 => iS3 | 4 => iS4 | 5 => iS5 | 6 => iS6 | 7 => iS7 | 8 => iS8 | 9 => iS9 | 10 => iS10 | _ => iS11, ?_⟩
    intro k q hq
    match k, hq with
    | 0, hq => cases hq; exact hKn0
    | 1, hq => cases hq; exact hKn1
    | 2, hq => cases hq; exact hKn2
    | 3, hq => cases hq; exact hKn3
    | 4, hq => cases hq; exact hKn4
    | 5, hq => cases hq; exact hKn5
    | 6, hq => cases hq; exact hKn6
    | 7, hq => cases hq; exact hKn7
    | 8, hq => cases hq; exact hKn8
    | 9, hq => cases hq; exact hKn9
    | 10, hq => cases hq; exact hKn10
    | 11, hq => cases hq; exact hKn11
    | k + 12, hq => simp [vwCl] at hq
  obtain ⟨cI, kI, compI, i1, i2, i3⟩ := Cond.arrayClass_spec hAC.1
  obtain ⟨cZ, kZ, compZ, z1', z2', z3'⟩ := Cond.arrayClass_spec hAC.2.1
  obtain ⟨comp, cS, kS, s1, s2, s3, s4, s5⟩ := Cond.arrayOver_spec hAC.2.2
  obtain ⟨T, hT⟩ : ∃ T : Nat → ClassId, T = fun i => if i = 0 then cI else if i = 1 then cZ else cS := ⟨_, rfl⟩
  have hK : va_K (dC, dI) vwCl (tyL T) s := by
    refine ⟨hKc, fun k q hq => ?_⟩
    match k, hq with
    | 0, hq =>
      cases hq
      subst hT
      exact ⟨fun n z => ⟨(fun k h => by cases h), kI, i2, compI, i3⟩, i1⟩
    | 1, hq =>
      cases hq
      subst hT
      exact ⟨fun n z => ⟨(fun k h => by cases h), kZ, z2', compZ, z3'⟩, z1'⟩
    | 2, hq =>
      cases hq
      subst hT
      exact ⟨fun n z => ⟨(fun k h => by cases h), kS, s3, comp, s4⟩, kS, comp, s3, s4, s1, s5⟩
    | k + 3, hq => simp [tyL] at hq
  have hs := flat_of_before _ hgv
  obtain ⟨z0, hz0, hT0⟩ := va_Tof (tm := (.static "HorsesChoose$Text" "MOST_OF_HORSE" "[I")) (ty := .int) (N := 9) (f := fun j => .int (zf 0 j)) (by decide) (hs (.arrayOf (.static "HorsesChoose$Text" "MOST_OF_HORSE" "[I") .int) (by decide +kernel)) (va_eqt (hs (.eq (.length (.static "HorsesChoose$Text" "MOST_OF_HORSE" "[I")) (.int 9)) (by decide +kernel))) (fun j hj => by
    rcases (show j = 0 ∨ j = 1 ∨ j = 2 ∨ j = 3 ∨ j = 4 ∨ j = 5 ∨ j = 6 ∨ j = 7 ∨ j = 8 by omega) with rfl | rfl | rfl | rfl | rfl | rfl | rfl | rfl | rfl
    · exact va_eqt (hs (.eq (.elem (.static "HorsesChoose$Text" "MOST_OF_HORSE" "[I") (.int 0)) (.int 0)) (by decide +kernel))
    · exact va_eqt (hs (.eq (.elem (.static "HorsesChoose$Text" "MOST_OF_HORSE" "[I") (.int 1)) (.int 3)) (by decide +kernel))
    · exact va_eqt (hs (.eq (.elem (.static "HorsesChoose$Text" "MOST_OF_HORSE" "[I") (.int 2)) (.int 3)) (by decide +kernel))
    · exact va_eqt (hs (.eq (.elem (.static "HorsesChoose$Text" "MOST_OF_HORSE" "[I") (.int 3)) (.int 3)) (by decide +kernel))
    · exact va_eqt (hs (.eq (.elem (.static "HorsesChoose$Text" "MOST_OF_HORSE" "[I") (.int 4)) (.int 3)) (by decide +kernel))
    · exact va_eqt (hs (.eq (.elem (.static "HorsesChoose$Text" "MOST_OF_HORSE" "[I") (.int 5)) (.int 9)) (by decide +kernel))
    · exact va_eqt (hs (.eq (.elem (.static "HorsesChoose$Text" "MOST_OF_HORSE" "[I") (.int 6)) (.int 9)) (by decide +kernel))
    · exact va_eqt (hs (.eq (.elem (.static "HorsesChoose$Text" "MOST_OF_HORSE" "[I") (.int 7)) (.int 8)) (by decide +kernel))
    · exact va_eqt (hs (.eq (.elem (.static "HorsesChoose$Text" "MOST_OF_HORSE" "[I") (.int 8)) (.int 9)) (by decide +kernel))) hnA
  have hZ0 := va_Zof (hts (.laysStatic "HorsesChoose$Text" "MOST_OF_HORSE" "[I") (List.mem_of_getElem? (i := 437) (by decide +kernel))) (hts (.initialized "HorsesChoose$Text") (List.mem_of_getElem? (i := 69) (by decide +kernel))) hz0 hnA
  obtain ⟨z1, hz1, hT1⟩ := va_Tof (tm := (.static "HorsesChoose$Text" "MOST_OF_RIDER" "[I")) (ty := .int) (N := 5) (f := fun j => .int (zf 1 j)) (by decide) (hs (.arrayOf (.static "HorsesChoose$Text" "MOST_OF_RIDER" "[I") .int) (by decide +kernel)) (va_eqt (hs (.eq (.length (.static "HorsesChoose$Text" "MOST_OF_RIDER" "[I")) (.int 5)) (by decide +kernel))) (fun j hj => by
    rcases (show j = 0 ∨ j = 1 ∨ j = 2 ∨ j = 3 ∨ j = 4 by omega) with rfl | rfl | rfl | rfl | rfl
    · exact va_eqt (hs (.eq (.elem (.static "HorsesChoose$Text" "MOST_OF_RIDER" "[I") (.int 0)) (.int 0)) (by decide +kernel))
    · exact va_eqt (hs (.eq (.elem (.static "HorsesChoose$Text" "MOST_OF_RIDER" "[I") (.int 1)) (.int 9)) (by decide +kernel))
    · exact va_eqt (hs (.eq (.elem (.static "HorsesChoose$Text" "MOST_OF_RIDER" "[I") (.int 2)) (.int 9)) (by decide +kernel))
    · exact va_eqt (hs (.eq (.elem (.static "HorsesChoose$Text" "MOST_OF_RIDER" "[I") (.int 3)) (.int 9)) (by decide +kernel))
    · exact va_eqt (hs (.eq (.elem (.static "HorsesChoose$Text" "MOST_OF_RIDER" "[I") (.int 4)) (.int 3)) (by decide +kernel))) hnA
  have hZ1 := va_Zof (hts (.laysStatic "HorsesChoose$Text" "MOST_OF_RIDER" "[I") (List.mem_of_getElem? (i := 435) (by decide +kernel))) (hts (.initialized "HorsesChoose$Text") (List.mem_of_getElem? (i := 69) (by decide +kernel))) hz1 hnA
  obtain ⟨zz, hzz⟩ : ∃ zz : Nat → Nat, zz = fun k => if k = 0 then z0 else z1 := ⟨_, rfl⟩
  have hZS : ZS zz (fun q : Nat => s.heap.size ≤ q) s s.heap := by
    subst hzz
    refine ⟨⟨hZ0, hZ1⟩, fun k hk => ?_⟩
    rcases (show k = 0 ∨ k = 1 by omega) with rfl | rfl
    · exact hT0
    · exact hT1
  have C : Cy p s m c code 4 R_law (fun q : Nat => s.heap.size ≤ q) (dC, dI) T := ⟨hx, hb, hml, hown, hTW, hK, fun _ h => h, hAC⟩
  have hl := lv_entry ([.ref b]) (n := 4) (Nat.le_of_ble_eq_true rfl)
  rw [lg_entry_eq]
  refine (?_ : Uj p l e room_1 s m #[Value.ref b] below meth c (lw_Z below #[Value.ref b] s) 4 (fun q : Nat => s.heap.size ≤ q) (dC, dI) 0 0 [] 0 [(0, .ref b)] []) s.heap [] _ (fun k q h => by simp at h) ⟨fun i j p q h => by simp at h, fun k q h => by simp at h⟩ va_S.rf hl
  refine U_new C (ci := 10) (Cn := RX10) (Tt := TX10) (N := 12) (fs := [.null, .null, .null, .null, .null, .null, .null, .null, .null, .null, .null, .long 0]) rfl inX10 tyX10 tyX10_ok (TB_in 85 (by decide +kernel) (by decide +kernel)) (TB_in 86 (by decide +kernel) (by decide +kernel)) (TB_in 68 (by decide +kernel) (by decide +kernel)) (fun j hj => by rcases (show j = 0 ∨ j = 1 ∨ j = 2 ∨ j = 3 ∨ j = 4 ∨ j = 5 ∨ j = 6 ∨ j = 7 ∨ j = 8 ∨ j = 9 ∨ j = 10 ∨ j = 11 by omega) with rfl | rfl | rfl | rfl | rfl | rfl | rfl | rfl | rfl | rfl | rfl | rfl <;> rfl) (Nat.le_of_ble_eq_true rfl) (Nat.le_of_ble_eq_true rfl) dL_law_0 (fun q => ?_)
  refine U_dup C dL_law_3 rfl ?_
  refine U_callI C (rest := [.ref q]) [] (ctN_X10 (dC, dI) T q) cal_X10_init (TB_in 87 (by decide +kernel) (by decide +kernel)) (TB_in 88 (by decide +kernel) (by decide +kernel)) rfl ⟨by decide, by decide⟩ rfl (Nat.le_of_ble_eq_true rfl) dL_law_4 ⟨Nat.le_of_ble_eq_true rfl, Nat.le_of_ble_eq_true rfl⟩ (fun w1 hB => ?_)
  obtain ⟨qa, qs, q1, b4, q5, b8, b9, b10, b11, b12, b13, b14, b15, b16, q17, b20, b21, b22, q23, q26, b29, b30, q31, b34, q35, b38, b39, b40, b41, q42, b45, b46, b47, b48, q49, q52, b55, g, g2, hw1⟩ := hB
  refine U_astore_n C (lv' := [(1, .ref q), (0, .ref b)]) dL_law_7 rfl (by decide) rfl ?_
  obtain ⟨h0, hh0⟩ : ∃ h0, h0 = q := ⟨_, rfl⟩
  refine U_new C (ci := 11) (Cn := RX11) (Tt := TX11) (N := 27) (fs := [.int 0, .null, .int 0, .int 0, .int 0, .int 0, .null, .null, .int 0, .int 0, .null, .null, .null, .null, .int 0, .null, .null, .int 0, .null, .null, .long 0, .null, .null, .null, .null, .int 0, .int 0]) rfl inX11 tyX11 tyX11_ok (TB_in 892 (by decide +kernel) (by decide +kernel)) (TB_in 893 (by decide +kernel) (by decide +kernel)) (TB_in 80 (by decide +kernel) (by decide +kernel)) (fun j hj => by rcases (show j = 0 ∨ j = 1 ∨ j = 2 ∨ j = 3 ∨ j = 4 ∨ j = 5 ∨ j = 6 ∨ j = 7 ∨ j = 8 ∨ j = 9 ∨ j = 10 ∨ j = 11 ∨ j = 12 ∨ j = 13 ∨ j = 14 ∨ j = 15 ∨ j = 16 ∨ j = 17 ∨ j = 18 ∨ j = 19 ∨ j = 20 ∨ j = 21 ∨ j = 22 ∨ j = 23 ∨ j = 24 ∨ j = 25 ∨ j = 26 by omega) with rfl | rfl | rfl | rfl | rfl | rfl | rfl | rfl | rfl | rfl | rfl | rfl | rfl | rfl | rfl | rfl | rfl | rfl | rfl | rfl | rfl | rfl | rfl | rfl | rfl | rfl | rfl <;> rfl) (Nat.le_of_ble_eq_true rfl) (Nat.le_of_ble_eq_true rfl) dL_law_8 (fun q => ?_)
  refine U_dup C dL_law_11 rfl ?_
  refine U_callI C (rest := [.ref q]) [] (ctN_X11 (dC, dI) T q) cal_X11_init (TB_in 894 (by decide +kernel) (by decide +kernel)) (TB_in 895 (by decide +kernel) (by decide +kernel)) rfl ⟨by decide, by decide⟩ rfl (Nat.le_of_ble_eq_true rfl) dL_law_12 ⟨Nat.le_of_ble_eq_true rfl, Nat.le_of_ble_eq_true rfl⟩ (fun w2 hB => ?_)
  obtain ⟨mq1, mq2, mq3, mq4, mq5, mq6, mq7, mq8, mq9, mq10, mq11, mq12, mq13, mq14, mq15, hw2⟩ := hB
  rw [← hh0] at hw1 ⊢
  refine U_astore_n C (lv' := [(2, .ref q), (1, .ref h0), (0, .ref b)]) dL_law_15 rfl (by decide) rfl ?_
  refine U_iconst C dL_law_16 (v := (0 : Int32)) (by decide) ?_
  refine U_istore_n C (lv' := [(3, .int (0 : Int32)), (2, .ref q), (1, .ref h0), (0, .ref b)]) dL_law_17 rfl (by decide) rfl ?_
  intro H locs ls hP hD hS hlv
  obtain ⟨ad, hv, hg, hg2⟩ := ad_ex [h0, q1, q5, q23, q26, q31, q35, q42, q49, qa, qs, q, b4, b8, b9, b10, b11, b12, b13, b14, b15, b16, b29, b30, b34, b40, b41, b21, 0, 0, 0, 0, 0, 0, 0, 0, 0, 0, 0, 0, 0, 0, 0, 0, b39, b46, b48, b55, b22, 0, 0, 0, 0, 0, 0, 0, 0, 0, 0, 0, 0, 0, 0, 0, 0, mq1, mq2, mq3, mq4, mq5, mq6, mq7, mq8, mq10, mq11, mq12, mq13, mq14, mq15, mq9, q17, 0, 0, 0, 0, 0, 0, 0, 0, 0, 0, 0, 0, 0, 0, 0, 0, b20, 0, 0, 0, 0, 0, 0, 0, 0, 0, 0, 0, 0, 0, 0, 0, 0, b38, b45, b47, q52] g g2
  rw [flatS_eq T 14 hg, refsS_eq 14 hg, flatS_eq T 2 hg2, refsS_eq 2 hg2] at hw1
  have e0 : ad 0 = h0 := hv 0 rfl
  subst e0
  have e1 : ad 1 = q1 := hv 1 rfl
  subst e1
  have e2 : ad 2 = q5 := hv 2 rfl
  subst e2
  have e3 : ad 3 = q23 := hv 3 rfl
  subst e3
  have e4 : ad 4 = q26 := hv 4 rfl
  subst e4
  have e5 : ad 5 = q31 := hv 5 rfl
  subst e5
  have e6 : ad 6 = q35 := hv 6 rfl
  subst e6
  have e7 : ad 7 = q42 := hv 7 rfl
  subst e7
  have e8 : ad 8 = q49 := hv 8 rfl
  subst e8
  have e9 : ad 9 = qa := hv 9 rfl
  subst e9
  have e10 : ad 10 = qs := hv 10 rfl
  subst e10
  have e11 : ad 11 = q := hv 11 rfl
  subst e11
  have e12 : ad 12 = b4 := hv 12 rfl
  subst e12
  have e13 : ad 13 = b8 := hv 13 rfl
  subst e13
  have e14 : ad 14 = b9 := hv 14 rfl
  subst e14
  have e15 : ad 15 = b10 := hv 15 rfl
  subst e15
  have e16 : ad 16 = b11 := hv 16 rfl
  subst e16
  have e17 : ad 17 = b12 := hv 17 rfl
  subst e17
  have e18 : ad 18 = b13 := hv 18 rfl
  subst e18
  have e19 : ad 19 = b14 := hv 19 rfl
  subst e19
  have e20 : ad 20 = b15 := hv 20 rfl
  subst e20
  have e21 : ad 21 = b16 := hv 21 rfl
  subst e21
  have e22 : ad 22 = b29 := hv 22 rfl
  subst e22
  have e23 : ad 23 = b30 := hv 23 rfl
  subst e23
  have e24 : ad 24 = b34 := hv 24 rfl
  subst e24
  have e25 : ad 25 = b40 := hv 25 rfl
  subst e25
  have e26 : ad 26 = b41 := hv 26 rfl
  subst e26
  have e27 : ad 27 = b21 := hv 27 rfl
  subst e27
  have e44 : ad 44 = b39 := hv 44 rfl
  subst e44
  have e45 : ad 45 = b46 := hv 45 rfl
  subst e45
  have e46 : ad 46 = b48 := hv 46 rfl
  subst e46
  have e47 : ad 47 = b55 := hv 47 rfl
  subst e47
  have e48 : ad 48 = b22 := hv 48 rfl
  subst e48
  have e65 : ad 65 = mq1 := hv 65 rfl
  subst e65
  have e66 : ad 66 = mq2 := hv 66 rfl
  subst e66
  have e67 : ad 67 = mq3 := hv 67 rfl
  subst e67
  have e68 : ad 68 = mq4 := hv 68 rfl
  subst e68
  have e69 : ad 69 = mq5 := hv 69 rfl
  subst e69
  have e70 : ad 70 = mq6 := hv 70 rfl
  subst e70
  have e71 : ad 71 = mq7 := hv 71 rfl
  subst e71
  have e72 : ad 72 = mq8 := hv 72 rfl
  subst e72
  have e73 : ad 73 = mq10 := hv 73 rfl
  subst e73
  have e74 : ad 74 = mq11 := hv 74 rfl
  subst e74
  have e75 : ad 75 = mq12 := hv 75 rfl
  subst e75
  have e76 : ad 76 = mq13 := hv 76 rfl
  subst e76
  have e77 : ad 77 = mq14 := hv 77 rfl
  subst e77
  have e78 : ad 78 = mq15 := hv 78 rfl
  subst e78
  have e79 : ad 79 = mq9 := hv 79 rfl
  subst e79
  have e80 : ad 80 = q17 := hv 80 rfl
  subst e80
  have e97 : ad 97 = b20 := hv 97 rfl
  subst e97
  have e114 : ad 114 = b38 := hv 114 rfl
  subst e114
  have e115 : ad 115 = b45 := hv 115 rfl
  subst e115
  have e116 : ad 116 = b47 := hv 116 rfl
  subst e116
  have e117 : ad 117 = q52 := hv 117 rfl
  subst e117
  have hc := conv (ad := ad) (show [] ++ w1 ++ w2 = _ by rw [hw1, hw2]; exact conv_eq T ad) hP hD
  exact law_loop (zz := zz) (ad := ad) ⟨hx, hb, hml, hown, hTW, hK, hc.2.1, hc.2.2, hZS⟩ hX hbl hbA (by omega) Inv hL hr hlocks h_write h_wipe h_fault h_fair h_about h_horse h_rider h_worth h_lead h_dress h_giveBack h_bell h_undo h_bolts h_held h_holds h_sure h_forged h_left h_race h_raceOf h_choose h_unchoose h_learnt h_next h_oats h_saddles h_chance h_seed h_days h_keep h_again 2601 0 (by omega) (by omega) mem0 hI0 H locs ls hc.1 hS (lv_sub hlv [3, 2, 1, 0] rfl)
