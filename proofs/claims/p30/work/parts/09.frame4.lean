-- laid by wip/p30/specs.py
noncomputable def f_X1_factOfRod (F : FR) (p0 : Int32) (p1 : Int32) : Option (Int32) := if p1 = 0 then (obd (f_X1_valueAt F p0) fun x2 => some x2) else (if p1 = 1 then (obd (f_X0_countAt (fAb F) p0) fun x4 => some x4) else (if p1 = 2 then (obd (f_X0_countAt (fBe F) p0) fun x6 => some x6) else (if p1 = 3 then (obd (f_X0_wearAt (fAb F) p0) fun x8 => some x8) else (if p1 = 4 then (obd (f_X0_wearAt (fBe F) p0) fun x10 => some x10) else (obd (f_X0_isWornAt (fAb F) p0) fun x11 => if x11 = 0 then (obd (f_X0_isWornAt (fBe F) p0) fun x13 => if x13 = 0 then (bnd ((0 : Int32) + 0) fun (v15 : Int32) => some v15) else (bnd ((0 : Int32) + 1) fun (v16 : Int32) => some v16)) else (obd (f_X0_isWornAt (fBe F) p0) fun x17 => if x17 = 0 then (bnd ((1 : Int32) + 0) fun (v19 : Int32) => some v19) else (bnd ((1 : Int32) + 1) fun (v20 : Int32) => some v20)))))))
theorem pc_X1_factOfRod : yX1_factOfRod.cls = RX1 ∧ yX1_factOfRod.cls ≠ "java/lang/invoke/MethodHandle" ∧ yX1_factOfRod.cls ≠ "java/lang/invoke/VarHandle" ∧ (parseMethodDescriptor yX1_factOfRod.desc).map (fun d => d.parameters.length) = some 2 := by decide +kernel
abbrev rm_X1_factOfRod : Room := { frames := 3, cells := 0, slots := 0, locals := 63 }
set_option maxHeartbeats 4000000 in
set_option maxRecDepth 100000 in
theorem c_X1_factOfRod (l : Launch) (dC : Nat → ClassId) (dI : Nat → Nat → Nat) (cI cF cJ cD : ClassId) (q0 q1 q2 q3 q4 q5 q6 q7 q8 : Nat) (F : FR) (p0 : Int32) (p1 : Int32) (res : (Int32)) (hf : f_X1_factOfRod F p0 p1 = some res) (sz : Nat) : Met l yX1_factOfRod (ws_ yX1_factOfRod cX1_factOfRod 3 (some .int)) rm_X1_factOfRod (sbPre (dC, dI) (TY cI cF cJ cD) (wFR cI cF cJ q0 q1 q2 q3 q4 q5 q6 q7 q8 F) E0 sz [.ref q0, .int p0, .int p1]) (va_Qi (fun (r : Int32) (_ : Unit) => r = res) (sbEnd (dC, dI) (fun _ => wFR cI cF cJ q0 q1 q2 q3 q4 q5 q6 q7 q8 F) (va_A (wFR cI cF cJ q0 q1 q2 q3 q4 q5 q6 q7 q8 F) sz)) (va_A (wFR cI cF cJ q0 q1 q2 q3 q4 q5 q6 q7 q8 F) sz)) 0 0 (va_A (wFR cI cF cJ q0 q1 q2 q3 q4 q5 q6 q7 q8 F) sz) := by
  refine Met.ofW (cc := cX1_factOfRod) (maxL := 3) (ret := (some .int)) (by decide) rfl ?_
  intro p e s m args below meth c s₁ B hml hv
  obtain ⟨rfl, hsz, hP, hK, hD0, hE⟩ := hv
  have hx := B.exec
  have hb := B.bytes
  have hr := B.returns
  have hts0 := atoms_spec (ws := ws_ yX1_factOfRod cX1_factOfRod 3 (some .int)) B.pre
  have hts := fun (w : Cond) (h : w ∈ LW) => hts0 w (List.mem_cons_of_mem _ h)
  have hown : s.vm.findClass RX1 = some m.cls := findClass_of_methodNamed B.named
  have hlocks := B.notSynchronized
  subst hsz
  have hD := hD0.self (sz := s.heap.size)
  generalize hAe : va_A (wFR cI cF cJ q0 q1 q2 q3 q4 q5 q6 q7 q8 F) s.heap.size = A at hD ⊢
  have hA : ∀ q : Nat, s.heap.size ≤ q → A q := fun q h => by rw [← hAe]; exact Or.inr h
  have hS : va_S A s.heap s.heap [] := va_S.rf
  have hkc := Nat.zero_le rm_X1_factOfRod.cells
  have hks := Nat.zero_le rm_X1_factOfRod.slots
  have hl := lv_entry ([.ref q0, .int p0, .int p1]) (n := 3) (Nat.le_of_ble_eq_true rfl)
  rw [lg_entry_eq]
  generalize (lg_sl ([.ref q0, .int p0, .int p1]) ++ List.replicate (3 - (lg_sl ([.ref q0, .int p0, .int p1])).length) Slot.unset).toArray = ls at hl ⊢
  have hl : lv_has ls 3 [(0, .ref q0), (1, .int p0), (2, .int p1)] := hl
  rw [f_X1_factOfRod] at hf
  refine lv_iload_n hx hb dX1_factOfRod_0 rfl (lv_at hl 2 rfl) ?_
  by_cases c1 : p1 = 0
  · have hf := ite_t hf c1
    refine lv_tableIn (off := 35) (tgt := 36) hx hb dX1_factOfRod_1 (by rw [c1]; decide) (by rw [c1]; decide) (by rw [c1]; rfl) (by decide) ?_
    refine lv_aload_n hx hb dX1_factOfRod_36 rfl (lv_at hl 0 rfl) ?_
    refine lv_iload_n hx hb dX1_factOfRod_37 rfl (lv_at hl 1 rfl) ?_
    obtain ⟨x2, hx2, hf⟩ := obd_e hf
    refine sb_Vi (As := [.int p0]) (rest := []) ⟨hx, hb, hml, hown, hts⟩ (fun sz => c_X1_valueAt l dC dI cI cF cJ cD q0 q1 q2 q3 q4 q5 q6 q7 q8 F p0  x2 hx2 sz) (cwV 1 hts (g_V q53 q54 q55 q56 q48) rfl rfl rfl pc_X1_valueAt ⟨Nat.le_of_ble_eq_true rfl, Nat.le_of_ble_eq_true rfl⟩) 0 1 rfl rfl hK hP hD hS hA [0, 1, 2, 3, 4, 5, 6, 7, 8] [] rfl rfl (by decide) (by decide) (by decide) (fun _ _ _ _ h => h) (fun _ _ _ => trivial) rfl rfl hl.1 (Nat.le_of_ble_eq_true rfl) dX1_factOfRod_38 ⟨hkc, hks⟩ (fun r9 u H locs hr9 hP hD hS => ?_)
    have hr9 := Eq.symm hr9
    subst hr9
    have hP : va_P (dC, dI) vwCl (wFR cI cF cJ q0 q1 q2 q3 q4 q5 q6 q7 q8 F) H := hP
    have hD : va_D A (wFR cI cF cJ q0 q1 q2 q3 q4 q5 q6 q7 q8 F) := hD
    obtain rfl := Option.some.inj hf
    exact W.iret (v := x2) hx hb hr (fun t ht hW => ⟨⟨_, (), rfl, rfl, by rw [ht]; exact hP, hD⟩, hS.F ht⟩) hS.2.2 dX1_factOfRod_41
  have hf := ite_f hf c1
  by_cases c3 : p1 = 1
  · have hf := ite_t hf c3
    refine lv_tableIn (off := 41) (tgt := 42) hx hb dX1_factOfRod_1 (by rw [c3]; decide) (by rw [c3]; decide) (by rw [c3]; rfl) (by decide) ?_
    refine lv_aload_n hx hb dX1_factOfRod_42 rfl (lv_at hl 0 rfl) ?_
    refine va_get (D := (dC, dI)) (ci := 1) (v := .ref q1) (C := RX1) (T := TX1) (N := 13) hx hb hts iX1 hown hK hP 0 rfl rfl 2 (by decide) (hts _ q30) (fun _ h9 => h9) rfl dX1_factOfRod_43 ?_
    refine lv_iload_n hx hb dX1_factOfRod_46 rfl (lv_at hl 1 rfl) ?_
    obtain ⟨x4, hx4, hf⟩ := obd_e hf
    refine sb_Vi (As := [.int p0]) (rest := []) ⟨hx, hb, hml, hown, hts⟩ (fun sz => c_X0_countAt l dC dI cI cF cJ cD q1 q2 q3 q4 (fAb F) p0  x4 hx4 sz) (cwV 1 hts (g_V q49 q18 q19 q15 q9) rfl rfl rfl pc_X0_countAt ⟨Nat.le_of_ble_eq_true rfl, Nat.le_of_ble_eq_true rfl⟩) 0 0 rfl rfl hK hP hD hS hA [1, 2, 3, 4] [0, 5, 6, 7, 8] rfl rfl (by decide) (by decide) (by decide) (fun _ _ _ _ h => h) (fun _ _ _ => trivial) rfl rfl hl.1 (Nat.le_of_ble_eq_true rfl) dX1_factOfRod_47 ⟨hkc, hks⟩ (fun r9 u H locs hr9 hP hD hS => ?_)
    have hr9 := Eq.symm hr9
    subst hr9
    have hP : va_P (dC, dI) vwCl (wFR cI cF cJ q0 q1 q2 q3 q4 q5 q6 q7 q8 F) H := hP.sub [0, 5, 6, 7, 8, 1, 2, 3, 4] rfl
    have hD : va_D A (wFR cI cF cJ q0 q1 q2 q3 q4 q5 q6 q7 q8 F) := hD.sub [0, 5, 6, 7, 8, 1, 2, 3, 4] (by decide) rfl
    obtain rfl := Option.some.inj hf
    exact W.iret (v := x4) hx hb hr (fun t ht hW => ⟨⟨_, (), rfl, rfl, by rw [ht]; exact hP, hD⟩, hS.F ht⟩) hS.2.2 dX1_factOfRod_50
  have hf := ite_f hf c3
  by_cases c5 : p1 = 2
  · have hf := ite_t hf c5
    refine lv_tableIn (off := 50) (tgt := 51) hx hb dX1_factOfRod_1 (by rw [c5]; decide) (by rw [c5]; decide) (by rw [c5]; rfl) (by decide) ?_
    refine lv_aload_n hx hb dX1_factOfRod_51 rfl (lv_at hl 0 rfl) ?_
    refine va_get (D := (dC, dI)) (ci := 1) (v := .ref q5) (C := RX1) (T := TX1) (N := 13) hx hb hts iX1 hown hK hP 0 rfl rfl 3 (by decide) (hts _ q31) (fun _ h9 => h9) rfl dX1_factOfRod_52 ?_
    refine lv_iload_n hx hb dX1_factOfRod_55 rfl (lv_at hl 1 rfl) ?_
    obtain ⟨x6, hx6, hf⟩ := obd_e hf
    refine sb_Vi (As := [.int p0]) (rest := []) ⟨hx, hb, hml, hown, hts⟩ (fun sz => c_X0_countAt l dC dI cI cF cJ cD q5 q6 q7 q8 (fBe F) p0  x6 hx6 sz) (cwV 1 hts (g_V q49 q18 q19 q15 q9) rfl rfl rfl pc_X0_countAt ⟨Nat.le_of_ble_eq_true rfl, Nat.le_of_ble_eq_true rfl⟩) 0 0 rfl rfl hK hP hD hS hA [5, 6, 7, 8] [0, 1, 2, 3, 4] rfl rfl (by decide) (by decide) (by decide) (fun _ _ _ _ h => h) (fun _ _ _ => trivial) rfl rfl hl.1 (Nat.le_of_ble_eq_true rfl) dX1_factOfRod_56 ⟨hkc, hks⟩ (fun r9 u H locs hr9 hP hD hS => ?_)
    have hr9 := Eq.symm hr9
    subst hr9
    have hP : va_P (dC, dI) vwCl (wFR cI cF cJ q0 q1 q2 q3 q4 q5 q6 q7 q8 F) H := hP
    have hD : va_D A (wFR cI cF cJ q0 q1 q2 q3 q4 q5 q6 q7 q8 F) := hD
    obtain rfl := Option.some.inj hf
    exact W.iret (v := x6) hx hb hr (fun t ht hW => ⟨⟨_, (), rfl, rfl, by rw [ht]; exact hP, hD⟩, hS.F ht⟩) hS.2.2 dX1_factOfRod_59
  have hf := ite_f hf c5
  by_cases c7 : p1 = 3
  · have hf := ite_t hf c7
    refine lv_tableIn (off := 59) (tgt := 60) hx hb dX1_factOfRod_1 (by rw [c7]; decide) (by rw [c7]; decide) (by rw [c7]; rfl) (by decide) ?_
    refine lv_aload_n hx hb dX1_factOfRod_60 rfl (lv_at hl 0 rfl) ?_
    refine va_get (D := (dC, dI)) (ci := 1) (v := .ref q1) (C := RX1) (T := TX1) (N := 13) hx hb hts iX1 hown hK hP 0 rfl rfl 2 (by decide) (hts _ q30) (fun _ h9 => h9) rfl dX1_factOfRod_61 ?_
    refine lv_iload_n hx hb dX1_factOfRod_64 rfl (lv_at hl 1 rfl) ?_
    obtain ⟨x8, hx8, hf⟩ := obd_e hf
    refine sb_Vi (As := [.int p0]) (rest := []) ⟨hx, hb, hml, hown, hts⟩ (fun sz => c_X0_wearAt l dC dI cI cF cJ cD q1 q2 q3 q4 (fAb F) p0  x8 hx8 sz) (cwV 1 hts (g_V q113 q13 q14 q15 q10) rfl rfl rfl pc_X0_wearAt ⟨Nat.le_of_ble_eq_true rfl, Nat.le_of_ble_eq_true rfl⟩) 0 0 rfl rfl hK hP hD hS hA [1, 2, 3, 4] [0, 5, 6, 7, 8] rfl rfl (by decide) (by decide) (by decide) (fun _ _ _ _ h => h) (fun _ _ _ => trivial) rfl rfl hl.1 (Nat.le_of_ble_eq_true rfl) dX1_factOfRod_65 ⟨hkc, hks⟩ (fun r9 u H locs hr9 hP hD hS => ?_)
    have hr9 := Eq.symm hr9
    subst hr9
    have hP : va_P (dC, dI) vwCl (wFR cI cF cJ q0 q1 q2 q3 q4 q5 q6 q7 q8 F) H := hP.sub [0, 5, 6, 7, 8, 1, 2, 3, 4] rfl
    have hD : va_D A (wFR cI cF cJ q0 q1 q2 q3 q4 q5 q6 q7 q8 F) := hD.sub [0, 5, 6, 7, 8, 1, 2, 3, 4] (by decide) rfl
    obtain rfl := Option.some.inj hf
    exact W.iret (v := x8) hx hb hr (fun t ht hW => ⟨⟨_, (), rfl, rfl, by rw [ht]; exact hP, hD⟩, hS.F ht⟩) hS.2.2 dX1_factOfRod_68
  have hf := ite_f hf c7
  by_cases c9 : p1 = 4
  · have hf := ite_t hf c9
    refine lv_tableIn (off := 68) (tgt := 69) hx hb dX1_factOfRod_1 (by rw [c9]; decide) (by rw [c9]; decide) (by rw [c9]; rfl) (by decide) ?_
    refine lv_aload_n hx hb dX1_factOfRod_69 rfl (lv_at hl 0 rfl) ?_
    refine va_get (D := (dC, dI)) (ci := 1) (v := .ref q5) (C := RX1) (T := TX1) (N := 13) hx hb hts iX1 hown hK hP 0 rfl rfl 3 (by decide) (hts _ q31) (fun _ h9 => h9) rfl dX1_factOfRod_70 ?_
    refine lv_iload_n hx hb dX1_factOfRod_73 rfl (lv_at hl 1 rfl) ?_
    obtain ⟨x10, hx10, hf⟩ := obd_e hf
    refine sb_Vi (As := [.int p0]) (rest := []) ⟨hx, hb, hml, hown, hts⟩ (fun sz => c_X0_wearAt l dC dI cI cF cJ cD q5 q6 q7 q8 (fBe F) p0  x10 hx10 sz) (cwV 1 hts (g_V q113 q13 q14 q15 q10) rfl rfl rfl pc_X0_wearAt ⟨Nat.le_of_ble_eq_true rfl, Nat.le_of_ble_eq_true rfl⟩) 0 0 rfl rfl hK hP hD hS hA [5, 6, 7, 8] [0, 1, 2, 3, 4] rfl rfl (by decide) (by decide) (by decide) (fun _ _ _ _ h => h) (fun _ _ _ => trivial) rfl rfl hl.1 (Nat.le_of_ble_eq_true rfl) dX1_factOfRod_74 ⟨hkc, hks⟩ (fun r9 u H locs hr9 hP hD hS => ?_)
    have hr9 := Eq.symm hr9
    subst hr9
    have hP : va_P (dC, dI) vwCl (wFR cI cF cJ q0 q1 q2 q3 q4 q5 q6 q7 q8 F) H := hP
    have hD : va_D A (wFR cI cF cJ q0 q1 q2 q3 q4 q5 q6 q7 q8 F) := hD
    obtain rfl := Option.some.inj hf
    exact W.iret (v := x10) hx hb hr (fun t ht hW => ⟨⟨_, (), rfl, rfl, by rw [ht]; exact hP, hD⟩, hS.F ht⟩) hS.2.2 dX1_factOfRod_77
  have hf := ite_f hf c9
  have nc1 := lv_neT c1 (a := 0) (by decide)
  have nc3 := lv_neT c3 (a := 1) (by decide)
  have nc5 := lv_neT c5 (a := 2) (by decide)
  have nc7 := lv_neT c7 (a := 3) (by decide)
  have nc9 := lv_neT c9 (a := 4) (by decide)
  refine lv_tableOut (tgt := 78) hx hb dX1_factOfRod_1 (by omega) (by decide) ?_
  refine lv_aload_n hx hb dX1_factOfRod_78 rfl (lv_at hl 0 rfl) ?_
  refine va_get (D := (dC, dI)) (ci := 1) (v := .ref q1) (C := RX1) (T := TX1) (N := 13) hx hb hts iX1 hown hK hP 0 rfl rfl 2 (by decide) (hts _ q30) (fun _ h9 => h9) rfl dX1_factOfRod_79 ?_
  refine lv_iload_n hx hb dX1_factOfRod_82 rfl (lv_at hl 1 rfl) ?_
  obtain ⟨x11, hx11, hf⟩ := obd_e hf
  refine sb_Vi (As := [.int p0]) (rest := []) ⟨hx, hb, hml, hown, hts⟩ (fun sz => c_X0_isWornAt l dC dI cI cF cJ cD q1 q2 q3 q4 (fAb F) p0  x11 hx11 sz) (cwV 1 hts (g_V q118 q119 q120 q15 q11) rfl rfl rfl pc_X0_isWornAt ⟨Nat.le_of_ble_eq_true rfl, Nat.le_of_ble_eq_true rfl⟩) 0 0 rfl rfl hK hP hD hS hA [1, 2, 3, 4] [0, 5, 6, 7, 8] rfl rfl (by decide) (by decide) (by decide) (fun _ _ _ _ h => h) (fun _ _ _ => trivial) rfl rfl hl.1 (Nat.le_of_ble_eq_true rfl) dX1_factOfRod_83 ⟨hkc, hks⟩ (fun r9 u H locs hr9 hP hD hS => ?_)
  have hr9 := Eq.symm hr9
  subst hr9
  have hP : va_P (dC, dI) vwCl (wFR cI cF cJ q0 q1 q2 q3 q4 q5 q6 q7 q8 F) H := hP.sub [0, 5, 6, 7, 8, 1, 2, 3, 4] rfl
  have hD : va_D A (wFR cI cF cJ q0 q1 q2 q3 q4 q5 q6 q7 q8 F) := hD.sub [0, 5, 6, 7, 8, 1, 2, 3, 4] (by decide) rfl
  refine lv_if_eq (tgt := 93) hx hb dX1_factOfRod_86 (by decide) (fun c12 => ?_) (fun c12 => ?_)
  · have hf := ite_t hf c12
    refine lv_iconst (v := 0) hx hb dX1_factOfRod_93 (by decide) ?_
    refine lv_aload_n hx hb dX1_factOfRod_94 rfl (lv_at hl 0 rfl) ?_
    refine va_get (D := (dC, dI)) (ci := 1) (v := .ref q5) (C := RX1) (T := TX1) (N := 13) hx hb hts iX1 hown hK hP 0 rfl rfl 3 (by decide) (hts _ q31) (fun _ h9 => h9) rfl dX1_factOfRod_95 ?_
    refine lv_iload_n hx hb dX1_factOfRod_98 rfl (lv_at hl 1 rfl) ?_
    obtain ⟨x13, hx13, hf⟩ := obd_e hf
    refine sb_Vi (As := [.int p0]) (rest := [.int 0]) ⟨hx, hb, hml, hown, hts⟩ (fun sz => c_X0_isWornAt l dC dI cI cF cJ cD q5 q6 q7 q8 (fBe F) p0  x13 hx13 sz) (cwV 1 hts (g_V q118 q119 q120 q15 q11) rfl rfl rfl pc_X0_isWornAt ⟨Nat.le_of_ble_eq_true rfl, Nat.le_of_ble_eq_true rfl⟩) 0 0 rfl rfl hK hP hD hS hA [5, 6, 7, 8] [0, 1, 2, 3, 4] rfl rfl (by decide) (by decide) (by decide) (fun _ _ _ _ h => h) (fun _ _ _ => trivial) rfl rfl hl.1 (Nat.le_of_ble_eq_true rfl) dX1_factOfRod_99 ⟨hkc, hks⟩ (fun r9 u H locs hr9 hP hD hS => ?_)
    have hr9 := Eq.symm hr9
    subst hr9
    have hP : va_P (dC, dI) vwCl (wFR cI cF cJ q0 q1 q2 q3 q4 q5 q6 q7 q8 F) H := hP
    have hD : va_D A (wFR cI cF cJ q0 q1 q2 q3 q4 q5 q6 q7 q8 F) := hD
    refine lv_if_eq (tgt := 109) hx hb dX1_factOfRod_102 (by decide) (fun c14 => ?_) (fun c14 => ?_)
    · have hf := ite_t hf c14
      refine lv_iconst (v := 0) hx hb dX1_factOfRod_109 (by decide) ?_
      refine lv_iadd hx hb dX1_factOfRod_110 ?_
      refine lv_topi (fun v15 ev15 => ?_)
      have hf := bnd_all hf v15 ev15
      obtain rfl := Option.some.inj hf
      exact W.iret (v := v15) hx hb hr (fun t ht hW => ⟨⟨_, (), rfl, rfl, by rw [ht]; exact hP, hD⟩, hS.F ht⟩) hS.2.2 dX1_factOfRod_111
    · have hf := ite_f hf c14
      refine lv_iconst (v := 1) hx hb dX1_factOfRod_105 (by decide) ?_
      refine lv_goto (tgt := 110) hx hb dX1_factOfRod_106 (by decide) ?_
      refine lv_iadd hx hb dX1_factOfRod_110 ?_
      refine lv_topi (fun v16 ev16 => ?_)
      have hf := bnd_all hf v16 ev16
      obtain rfl := Option.some.inj hf
      exact W.iret (v := v16) hx hb hr (fun t ht hW => ⟨⟨_, (), rfl, rfl, by rw [ht]; exact hP, hD⟩, hS.F ht⟩) hS.2.2 dX1_factOfRod_111
  · have hf := ite_f hf c12
    refine lv_iconst (v := 1) hx hb dX1_factOfRod_89 (by decide) ?_
    refine lv_goto (tgt := 94) hx hb dX1_factOfRod_90 (by decide) ?_
    refine lv_aload_n hx hb dX1_factOfRod_94 rfl (lv_at hl 0 rfl) ?_
    refine va_get (D := (dC, dI)) (ci := 1) (v := .ref q5) (C := RX1) (T := TX1) (N := 13) hx hb hts iX1 hown hK hP 0 rfl rfl 3 (by decide) (hts _ q31) (fun _ h9 => h9) rfl dX1_factOfRod_95 ?_
    refine lv_iload_n hx hb dX1_factOfRod_98 rfl (lv_at hl 1 rfl) ?_
    obtain ⟨x17, hx17, hf⟩ := obd_e hf
    refine sb_Vi (As := [.int p0]) (rest := [.int 1]) ⟨hx, hb, hml, hown, hts⟩ (fun sz => c_X0_isWornAt l dC dI cI cF cJ cD q5 q6 q7 q8 (fBe F) p0  x17 hx17 sz) (cwV 1 hts (g_V q118 q119 q120 q15 q11) rfl rfl rfl pc_X0_isWornAt ⟨Nat.le_of_ble_eq_true rfl, Nat.le_of_ble_eq_true rfl⟩) 0 0 rfl rfl hK hP hD hS hA [5, 6, 7, 8] [0, 1, 2, 3, 4] rfl rfl (by decide) (by decide) (by decide) (fun _ _ _ _ h => h) (fun _ _ _ => trivial) rfl rfl hl.1 (Nat.le_of_ble_eq_true rfl) dX1_factOfRod_99 ⟨hkc, hks⟩ (fun r9 u H locs hr9 hP hD hS => ?_)
    have hr9 := Eq.symm hr9
    subst hr9
    have hP : va_P (dC, dI) vwCl (wFR cI cF cJ q0 q1 q2 q3 q4 q5 q6 q7 q8 F) H := hP
    have hD : va_D A (wFR cI cF cJ q0 q1 q2 q3 q4 q5 q6 q7 q8 F) := hD
    refine lv_if_eq (tgt := 109) hx hb dX1_factOfRod_102 (by decide) (fun c18 => ?_) (fun c18 => ?_)
    · have hf := ite_t hf c18
      refine lv_iconst (v := 0) hx hb dX1_factOfRod_109 (by decide) ?_
      refine lv_iadd hx hb dX1_factOfRod_110 ?_
      refine lv_topi (fun v19 ev19 => ?_)
      have hf := bnd_all hf v19 ev19
      obtain rfl := Option.some.inj hf
      exact W.iret (v := v19) hx hb hr (fun t ht hW => ⟨⟨_, (), rfl, rfl, by rw [ht]; exact hP, hD⟩, hS.F ht⟩) hS.2.2 dX1_factOfRod_111
    · have hf := ite_f hf c18
      refine lv_iconst (v := 1) hx hb dX1_factOfRod_105 (by decide) ?_
      refine lv_goto (tgt := 110) hx hb dX1_factOfRod_106 (by decide) ?_
      refine lv_iadd hx hb dX1_factOfRod_110 ?_
      refine lv_topi (fun v20 ev20 => ?_)
      have hf := bnd_all hf v20 ev20
      obtain rfl := Option.some.inj hf
      exact W.iret (v := v20) hx hb hr (fun t ht hW => ⟨⟨_, (), rfl, rfl, by rw [ht]; exact hP, hD⟩, hS.F ht⟩) hS.2.2 dX1_factOfRod_111
noncomputable def l_X1_sumOfValues_4 (R0 : FR) (k : Int32 → Int32 → Option (Int32)) : Nat → Int32 → Int32 → Option (Int32)
  | 0, _, _ => none
  | n + 1, a1, a2 => if (fRd R0) ≤ a2 then (k a1 a2) else (obd (f_X1_valueAt R0 a2) fun x4 => bnd (a1 + x4) fun (v5 : Int32) => bnd (a2 + 1) fun (v6 : Int32) => l_X1_sumOfValues_4 R0 k n v5 v6)
noncomputable def f_X1_sumOfValues (F : FR) : Option (Int32) := l_X1_sumOfValues_4 F (fun (a15 : Int32) (a16 : Int32) => some a15) 16 0 0
theorem pc_X1_sumOfValues : yX1_sumOfValues.cls = RX1 ∧ yX1_sumOfValues.cls ≠ "java/lang/invoke/MethodHandle" ∧ yX1_sumOfValues.cls ≠ "java/lang/invoke/VarHandle" ∧ (parseMethodDescriptor yX1_sumOfValues.desc).map (fun d => d.parameters.length) = some 0 := by decide +kernel
abbrev rm_X1_sumOfValues : Room := { frames := 3, cells := 0, slots := 0, locals := 63 }
set_option maxHeartbeats 4000000 in
set_option maxRecDepth 100000 in
theorem c_X1_sumOfValues (l : Launch) (dC : Nat → ClassId) (dI : Nat → Nat → Nat) (cI cF cJ cD : ClassId) (q0 q1 q2 q3 q4 q5 q6 q7 q8 : Nat) (F : FR) (res : (Int32)) (hf : f_X1_sumOfValues F = some res) (sz : Nat) : Met l yX1_sumOfValues (ws_ yX1_sumOfValues cX1_sumOfValues 3 (some .int)) rm_X1_sumOfValues (sbPre (dC, dI) (TY cI cF cJ cD) (wFR cI cF cJ q0 q1 q2 q3 q4 q5 q6 q7 q8 F) E0 sz [.ref q0]) (va_Qi (fun (r : Int32) (_ : Unit) => r = res) (sbEnd (dC, dI) (fun _ => wFR cI cF cJ q0 q1 q2 q3 q4 q5 q6 q7 q8 F) (va_A (wFR cI cF cJ q0 q1 q2 q3 q4 q5 q6 q7 q8 F) sz)) (va_A (wFR cI cF cJ q0 q1 q2 q3 q4 q5 q6 q7 q8 F) sz)) 0 0 (va_A (wFR cI cF cJ q0 q1 q2 q3 q4 q5 q6 q7 q8 F) sz) := by
  refine Met.ofW (cc := cX1_sumOfValues) (maxL := 3) (ret := (some .int)) (by decide) rfl ?_
  intro p e s m args below meth c s₁ B hml hv
  obtain ⟨rfl, hsz, hP, hK, hD0, hE⟩ := hv
  have hx := B.exec
  have hb := B.bytes
  have hr := B.returns
  have hts0 := atoms_spec (ws := ws_ yX1_sumOfValues cX1_sumOfValues 3 (some .int)) B.pre
  have hts := fun (w : Cond) (h : w ∈ LW) => hts0 w (List.mem_cons_of_mem _ h)
  have hown : s.vm.findClass RX1 = some m.cls := findClass_of_methodNamed B.named
  have hlocks := B.notSynchronized
  subst hsz
  have hD := hD0.self (sz := s.heap.size)
  generalize hAe : va_A (wFR cI cF cJ q0 q1 q2 q3 q4 q5 q6 q7 q8 F) s.heap.size = A at hD ⊢
  have hA : ∀ q : Nat, s.heap.size ≤ q → A q := fun q h => by rw [← hAe]; exact Or.inr h
  have hS : va_S A s.heap s.heap [] := va_S.rf
  have hkc := Nat.zero_le rm_X1_sumOfValues.cells
  have hks := Nat.zero_le rm_X1_sumOfValues.slots
  have hl := lv_entry ([.ref q0]) (n := 3) (Nat.le_of_ble_eq_true rfl)
  rw [lg_entry_eq]
  generalize (lg_sl ([.ref q0]) ++ List.replicate (3 - (lg_sl ([.ref q0])).length) Slot.unset).toArray = ls at hl ⊢
  have hl : lv_has ls 3 [(0, .ref q0)] := hl
  rw [f_X1_sumOfValues] at hf
  refine lv_iconst (v := 0) hx hb dX1_sumOfValues_0 (by decide) ?_
  refine lv_istore_n (lv' := [(1, .int 0), (0, .ref q0)]) hx hb dX1_sumOfValues_1 rfl hl (by decide) rfl (fun ls hl => ?_)
  refine lv_iconst (v := 0) hx hb dX1_sumOfValues_2 (by decide) ?_
  refine lv_istore_n (lv' := [(2, .int 0), (1, .int 0), (0, .ref q0)]) hx hb dX1_sumOfValues_3 rfl hl (by decide) rfl (fun ls hl => ?_)
  have L4 : ∀ (k : Int32 → Int32 → Option (Int32)), (∀ (a7 : Int32) (a8 : Int32) (H : Heap) (locs : List Loc) (ls : Array Slot), va_P (dC, dI) vwCl (wFR cI cF cJ q0 q1 q2 q3 q4 q5 q6 q7 q8 F) H → va_D A (wFR cI cF cJ q0 q1 q2 q3 q4 q5 q6 q7 q8 F) → va_S A s.heap H locs → lv_has ls 3 [(1, .int a7)] → k a7 a8 = some res → W p l e (headSpec (ws_ yX1_sumOfValues cX1_sumOfValues 3 (some .int)) rm_X1_sumOfValues).room s m ([.ref q0].toArray) below meth c H locs 0 0 (MQ below (va_Qi (fun (r : Int32) (_ : Unit) => r = res) (sbEnd (dC, dI) (fun _ => wFR cI cF cJ q0 q1 q2 q3 q4 q5 q6 q7 q8 F) (A)) (A)) ([.ref q0].toArray) s 0 0 A) (F0 m 26 ls [])) → ∀ (n : Nat) (a7 : Int32) (a8 : Int32) (H : Heap) (locs : List Loc) (ls : Array Slot), va_P (dC, dI) vwCl (wFR cI cF cJ q0 q1 q2 q3 q4 q5 q6 q7 q8 F) H → va_D A (wFR cI cF cJ q0 q1 q2 q3 q4 q5 q6 q7 q8 F) → va_S A s.heap H locs → lv_has ls 3 [(1, .int a7), (2, .int a8), (0, .ref q0)] → l_X1_sumOfValues_4 F k n a7 a8 = some res → W p l e (headSpec (ws_ yX1_sumOfValues cX1_sumOfValues 3 (some .int)) rm_X1_sumOfValues).room s m ([.ref q0].toArray) below meth c H locs 0 0 (MQ below (va_Qi (fun (r : Int32) (_ : Unit) => r = res) (sbEnd (dC, dI) (fun _ => wFR cI cF cJ q0 q1 q2 q3 q4 q5 q6 q7 q8 F) (A)) (A)) ([.ref q0].toArray) s 0 0 A) (F0 m 4 ls []) := by
    intro k hk n
    induction n with
    | zero =>
      intro a9 a10 H locs ls hP hD hS hl hf
      rw [l_X1_sumOfValues_4] at hf
      cases hf
    | succ n ih =>
      intro a9 a10 H locs ls hP hD hS hl hf
      rw [l_X1_sumOfValues_4] at hf
      refine lv_iload_n hx hb dX1_sumOfValues_4 rfl (lv_at hl 1 rfl) ?_
      refine lv_aload_n hx hb dX1_sumOfValues_5 rfl (lv_at hl 2 rfl) ?_
      refine va_get (D := (dC, dI)) (ci := 1) (v := .int (fRd F)) (C := RX1) (T := TX1) (N := 13) hx hb hts iX1 hown hK hP 0 rfl rfl 1 (by decide) (hts _ q27) (fun _ h9 => h9) rfl dX1_sumOfValues_6 ?_
      refine lv_icmp_ge (tgt := 26) hx hb dX1_sumOfValues_9 (by decide) (fun c11 => ?_) (fun c11 => ?_)
      · have hf := ite_t hf c11
        exact hk a9 a10 _ _ _ hP hD hS (lv_sub hl [0] rfl) hf
      · have hf := ite_f hf c11
        refine lv_iload_n hx hb dX1_sumOfValues_12 rfl (lv_at hl 0 rfl) ?_
        refine lv_aload_n hx hb dX1_sumOfValues_13 rfl (lv_at hl 2 rfl) ?_
        refine lv_iload_n hx hb dX1_sumOfValues_14 rfl (lv_at hl 1 rfl) ?_
        obtain ⟨x12, hx12, hf⟩ := obd_e hf
        refine sb_Vi (As := [.int a10]) (rest := [.int a9]) ⟨hx, hb, hml, hown, hts⟩ (fun sz => c_X1_valueAt l dC dI cI cF cJ cD q0 q1 q2 q3 q4 q5 q6 q7 q8 F a10  x12 hx12 sz) (cwV 1 hts (g_V q53 q54 q55 q56 q48) rfl rfl rfl pc_X1_valueAt ⟨Nat.le_of_ble_eq_true rfl, Nat.le_of_ble_eq_true rfl⟩) 0 1 rfl rfl hK hP hD hS hA [0, 1, 2, 3, 4, 5, 6, 7, 8] [] rfl rfl (by decide) (by decide) (by decide) (fun _ _ _ _ h => h) (fun _ _ _ => trivial) rfl rfl hl.1 (Nat.le_of_ble_eq_true rfl) dX1_sumOfValues_15 ⟨hkc, hks⟩ (fun r9 u H locs hr9 hP hD hS => ?_)
        have hr9 := Eq.symm hr9
        subst hr9
        have hP : va_P (dC, dI) vwCl (wFR cI cF cJ q0 q1 q2 q3 q4 q5 q6 q7 q8 F) H := hP
        have hD : va_D A (wFR cI cF cJ q0 q1 q2 q3 q4 q5 q6 q7 q8 F) := hD
        refine lv_iadd hx hb dX1_sumOfValues_18 ?_
        refine lv_topi (fun v13 ev13 => ?_)
        have hf := bnd_all hf v13 ev13
        refine lv_istore_n (lv' := [(1, .int v13), (2, .int a10), (0, .ref q0)]) hx hb dX1_sumOfValues_19 rfl hl (by decide) rfl (fun ls hl => ?_)
        obtain ⟨v14, ev14⟩ : ∃ y : Int32, y = a10 + 1 := ⟨_, rfl⟩
        have hf := bnd_all hf v14 ev14
        refine lv_iinc (v := v14) (lv' := [(2, .int v14), (1, .int v13), (0, .ref q0)]) hx hb dX1_sumOfValues_20 hl (k := 1) rfl (by rw [ev14]; rfl) (by decide) rfl (fun ls hl => ?_)
        refine lv_goto (tgt := 4) hx hb dX1_sumOfValues_23 (by decide) ?_
        exact ih v13 v14 _ _ _ hP hD hS (lv_sub hl [1, 0, 2] rfl) hf
  refine L4 _ (fun a15 a16 H locs ls hP hD hS hl hf => ?_) 16 0 0 _ _ _ hP hD hS (lv_sub hl [1, 0, 2] rfl) hf
  refine lv_iload_n hx hb dX1_sumOfValues_26 rfl (lv_at hl 0 rfl) ?_
  obtain rfl := Option.some.inj hf
  exact W.iret (v := a15) hx hb hr (fun t ht hW => ⟨⟨_, (), rfl, rfl, by rw [ht]; exact hP, hD⟩, hS.F ht⟩) hS.2.2 dX1_sumOfValues_27
noncomputable def l_X1_beadsThatCount_4 (R0 : FR) (k : Int32 → Int32 → Option (Int32)) : Nat → Int32 → Int32 → Option (Int32)
  | 0, _, _ => none
  | n + 1, a1, a2 => if (fRd R0) ≤ a2 then (k a1 a2) else (obd (f_X0_countAt (fAb R0) a2) fun x4 => obd (f_X0_countAt (fBe R0) a2) fun x5 => bnd (x4 + x5) fun (v6 : Int32) => bnd (a1 + v6) fun (v7 : Int32) => bnd (a2 + 1) fun (v8 : Int32) => l_X1_beadsThatCount_4 R0 k n v7 v8)
noncomputable def f_X1_beadsThatCount (F : FR) : Option (Int32) := l_X1_beadsThatCount_4 F (fun (a19 : Int32) (a20 : Int32) => some a19) 16 0 0
theorem pc_X1_beadsThatCount : yX1_beadsThatCount.cls = RX1 ∧ yX1_beadsThatCount.cls ≠ "java/lang/invoke/MethodHandle" ∧ yX1_beadsThatCount.cls ≠ "java/lang/invoke/VarHandle" ∧ (parseMethodDescriptor yX1_beadsThatCount.desc).map (fun d => d.parameters.length) = some 0 := by decide +kernel
abbrev rm_X1_beadsThatCount : Room := { frames := 2, cells := 0, slots := 0, locals := 42 }
set_option maxHeartbeats 4000000 in
set_option maxRecDepth 100000 in
theorem c_X1_beadsThatCount (l : Launch) (dC : Nat → ClassId) (dI : Nat → Nat → Nat) (cI cF cJ cD : ClassId) (q0 q1 q2 q3 q4 q5 q6 q7 q8 : Nat) (F : FR) (res : (Int32)) (hf : f_X1_beadsThatCount F = some res) (sz : Nat) : Met l yX1_beadsThatCount (ws_ yX1_beadsThatCount cX1_beadsThatCount 3 (some .int)) rm_X1_beadsThatCount (sbPre (dC, dI) (TY cI cF cJ cD) (wFR cI cF cJ q0 q1 q2 q3 q4 q5 q6 q7 q8 F) E0 sz [.ref q0]) (va_Qi (fun (r : Int32) (_ : Unit) => r = res) (sbEnd (dC, dI) (fun _ => wFR cI cF cJ q0 q1 q2 q3 q4 q5 q6 q7 q8 F) (va_A (wFR cI cF cJ q0 q1 q2 q3 q4 q5 q6 q7 q8 F) sz)) (va_A (wFR cI cF cJ q0 q1 q2 q3 q4 q5 q6 q7 q8 F) sz)) 0 0 (va_A (wFR cI cF cJ q0 q1 q2 q3 q4 q5 q6 q7 q8 F) sz) := by
  refine Met.ofW (cc := cX1_beadsThatCount) (maxL := 3) (ret := (some .int)) (by decide) rfl ?_
  intro p e s m args below meth c s₁ B hml hv
  obtain ⟨rfl, hsz, hP, hK, hD0, hE⟩ := hv
  have hx := B.exec
  have hb := B.bytes
  have hr := B.returns
  have hts0 := atoms_spec (ws := ws_ yX1_beadsThatCount cX1_beadsThatCount 3 (some .int)) B.pre
  have hts := fun (w : Cond) (h : w ∈ LW) => hts0 w (List.mem_cons_of_mem _ h)
  have hown : s.vm.findClass RX1 = some m.cls := findClass_of_methodNamed B.named
  have hlocks := B.notSynchronized
  subst hsz
  have hD := hD0.self (sz := s.heap.size)
  generalize hAe : va_A (wFR cI cF cJ q0 q1 q2 q3 q4 q5 q6 q7 q8 F) s.heap.size = A at hD ⊢
  have hA : ∀ q : Nat, s.heap.size ≤ q → A q := fun q h => by rw [← hAe]; exact Or.inr h
  have hS : va_S A s.heap s.heap [] := va_S.rf
  have hkc := Nat.zero_le rm_X1_beadsThatCount.cells
  have hks := Nat.zero_le rm_X1_beadsThatCount.slots
  have hl := lv_entry ([.ref q0]) (n := 3) (Nat.le_of_ble_eq_true rfl)
  rw [lg_entry_eq]
  generalize (lg_sl ([.ref q0]) ++ List.replicate (3 - (lg_sl ([.ref q0])).length) Slot.unset).toArray = ls at hl ⊢
  have hl : lv_has ls 3 [(0, .ref q0)] := hl
  rw [f_X1_beadsThatCount] at hf
  refine lv_iconst (v := 0) hx hb dX1_beadsThatCount_0 (by decide) ?_
  refine lv_istore_n (lv' := [(1, .int 0), (0, .ref q0)]) hx hb dX1_beadsThatCount_1 rfl hl (by decide) rfl (fun ls hl => ?_)
  refine lv_iconst (v := 0) hx hb dX1_beadsThatCount_2 (by decide) ?_
  refine lv_istore_n (lv' := [(2, .int 0), (1, .int 0), (0, .ref q0)]) hx hb dX1_beadsThatCount_3 rfl hl (by decide) rfl (fun ls hl => ?_)
  have L4 : ∀ (k : Int32 → Int32 → Option (Int32)), (∀ (a9 : Int32) (a10 : Int32) (H : Heap) (locs : List Loc) (ls : Array Slot), va_P (dC, dI) vwCl (wFR cI cF cJ q0 q1 q2 q3 q4 q5 q6 q7 q8 F) H → va_D A (wFR cI cF cJ q0 q1 q2 q3 q4 q5 q6 q7 q8 F) → va_S A s.heap H locs → lv_has ls 3 [(1, .int a9)] → k a9 a10 = some res → W p l e (headSpec (ws_ yX1_beadsThatCount cX1_beadsThatCount 3 (some .int)) rm_X1_beadsThatCount).room s m ([.ref q0].toArray) below meth c H locs 0 0 (MQ below (va_Qi (fun (r : Int32) (_ : Unit) => r = res) (sbEnd (dC, dI) (fun _ => wFR cI cF cJ q0 q1 q2 q3 q4 q5 q6 q7 q8 F) (A)) (A)) ([.ref q0].toArray) s 0 0 A) (F0 m 38 ls [])) → ∀ (n : Nat) (a9 : Int32) (a10 : Int32) (H : Heap) (locs : List Loc) (ls : Array Slot), va_P (dC, dI) vwCl (wFR cI cF cJ q0 q1 q2 q3 q4 q5 q6 q7 q8 F) H → va_D A (wFR cI cF cJ q0 q1 q2 q3 q4 q5 q6 q7 q8 F) → va_S A s.heap H locs → lv_has ls 3 [(1, .int a9), (2, .int a10), (0, .ref q0)] → l_X1_beadsThatCount_4 F k n a9 a10 = some res → W p l e (headSpec (ws_ yX1_beadsThatCount cX1_beadsThatCount 3 (some .int)) rm_X1_beadsThatCount).room s m ([.ref q0].toArray) below meth c H locs 0 0 (MQ below (va_Qi (fun (r : Int32) (_ : Unit) => r = res) (sbEnd (dC, dI) (fun _ => wFR cI cF cJ q0 q1 q2 q3 q4 q5 q6 q7 q8 F) (A)) (A)) ([.ref q0].toArray) s 0 0 A) (F0 m 4 ls []) := by
    intro k hk n
    induction n with
    | zero =>
      intro a11 a12 H locs ls hP hD hS hl hf
      rw [l_X1_beadsThatCount_4] at hf
      cases hf
    | succ n ih =>
      intro a11 a12 H locs ls hP hD hS hl hf
      rw [l_X1_beadsThatCount_4] at hf
      refine lv_iload_n hx hb dX1_beadsThatCount_4 rfl (lv_at hl 1 rfl) ?_
      refine lv_aload_n hx hb dX1_beadsThatCount_5 rfl (lv_at hl 2 rfl) ?_
      refine va_get (D := (dC, dI)) (ci := 1) (v := .int (fRd F)) (C := RX1) (T := TX1) (N := 13) hx hb hts iX1 hown hK hP 0 rfl rfl 1 (by decide) (hts _ q27) (fun _ h9 => h9) rfl dX1_beadsThatCount_6 ?_
      refine lv_icmp_ge (tgt := 38) hx hb dX1_beadsThatCount_9 (by decide) (fun c13 => ?_) (fun c13 => ?_)
      · have hf := ite_t hf c13
        exact hk a11 a12 _ _ _ hP hD hS (lv_sub hl [0] rfl) hf
      · have hf := ite_f hf c13
        refine lv_iload_n hx hb dX1_beadsThatCount_12 rfl (lv_at hl 0 rfl) ?_
        refine lv_aload_n hx hb dX1_beadsThatCount_13 rfl (lv_at hl 2 rfl) ?_
        refine va_get (D := (dC, dI)) (ci := 1) (v := .ref q1) (C := RX1) (T := TX1) (N := 13) hx hb hts iX1 hown hK hP 0 rfl rfl 2 (by decide) (hts _ q30) (fun _ h9 => h9) rfl dX1_beadsThatCount_14 ?_
        refine lv_iload_n hx hb dX1_beadsThatCount_17 rfl (lv_at hl 1 rfl) ?_
        obtain ⟨x14, hx14, hf⟩ := obd_e hf
        refine sb_Vi (As := [.int a12]) (rest := [.int a11]) ⟨hx, hb, hml, hown, hts⟩ (fun sz => c_X0_countAt l dC dI cI cF cJ cD q1 q2 q3 q4 (fAb F) a12  x14 hx14 sz) (cwV 1 hts (g_V q49 q18 q19 q15 q9) rfl rfl rfl pc_X0_countAt ⟨Nat.le_of_ble_eq_true rfl, Nat.le_of_ble_eq_true rfl⟩) 0 0 rfl rfl hK hP hD hS hA [1, 2, 3, 4] [0, 5, 6, 7, 8] rfl rfl (by decide) (by decide) (by decide) (fun _ _ _ _ h => h) (fun _ _ _ => trivial) rfl rfl hl.1 (Nat.le_of_ble_eq_true rfl) dX1_beadsThatCount_18 ⟨hkc, hks⟩ (fun r9 u H locs hr9 hP hD hS => ?_)
        have hr9 := Eq.symm hr9
        subst hr9
        have hP : va_P (dC, dI) vwCl (wFR cI cF cJ q0 q1 q2 q3 q4 q5 q6 q7 q8 F) H := hP.sub [0, 5, 6, 7, 8, 1, 2, 3, 4] rfl
        have hD : va_D A (wFR cI cF cJ q0 q1 q2 q3 q4 q5 q6 q7 q8 F) := hD.sub [0, 5, 6, 7, 8, 1, 2, 3, 4] (by decide) rfl
        refine lv_aload_n hx hb dX1_beadsThatCount_21 rfl (lv_at hl 2 rfl) ?_
        refine va_get (D := (dC, dI)) (ci := 1) (v := .ref q5) (C := RX1) (T := TX1) (N := 13) hx hb hts iX1 hown hK hP 0 rfl rfl 3 (by decide) (hts _ q31) (fun _ h9 => h9) rfl dX1_beadsThatCount_22 ?_
        refine lv_iload_n hx hb dX1_beadsThatCount_25 rfl (lv_at hl 1 rfl) ?_
        obtain ⟨x15, hx15, hf⟩ := obd_e hf
        refine sb_Vi (As := [.int a12]) (rest := [.int x14, .int a11]) ⟨hx, hb, hml, hown, hts⟩ (fun sz => c_X0_countAt l dC dI cI cF cJ cD q5 q6 q7 q8 (fBe F) a12  x15 hx15 sz) (cwV 1 hts (g_V q49 q18 q19 q15 q9) rfl rfl rfl pc_X0_countAt ⟨Nat.le_of_ble_eq_true rfl, Nat.le_of_ble_eq_true rfl⟩) 0 0 rfl rfl hK hP hD hS hA [5, 6, 7, 8] [0, 1, 2, 3, 4] rfl rfl (by decide) (by decide) (by decide) (fun _ _ _ _ h => h) (fun _ _ _ => trivial) rfl rfl hl.1 (Nat.le_of_ble_eq_true rfl) dX1_beadsThatCount_26 ⟨hkc, hks⟩ (fun r9 u H locs hr9 hP hD hS => ?_)
        have hr9 := Eq.symm hr9
        subst hr9
        have hP : va_P (dC, dI) vwCl (wFR cI cF cJ q0 q1 q2 q3 q4 q5 q6 q7 q8 F) H := hP
        have hD : va_D A (wFR cI cF cJ q0 q1 q2 q3 q4 q5 q6 q7 q8 F) := hD
        refine lv_iadd hx hb dX1_beadsThatCount_29 ?_
        refine lv_topi (fun v16 ev16 => ?_)
        have hf := bnd_all hf v16 ev16
        refine lv_iadd hx hb dX1_beadsThatCount_30 ?_
        refine lv_topi (fun v17 ev17 => ?_)
        have hf := bnd_all hf v17 ev17
        refine lv_istore_n (lv' := [(1, .int v17), (2, .int a12), (0, .ref q0)]) hx hb dX1_beadsThatCount_31 rfl hl (by decide) rfl (fun ls hl => ?_)
        obtain ⟨v18, ev18⟩ : ∃ y : Int32, y = a12 + 1 := ⟨_, rfl⟩
        have hf := bnd_all hf v18 ev18
        refine lv_iinc (v := v18) (lv' := [(2, .int v18), (1, .int v17), (0, .ref q0)]) hx hb dX1_beadsThatCount_32 hl (k := 1) rfl (by rw [ev18]; rfl) (by decide) rfl (fun ls hl => ?_)
        refine lv_goto (tgt := 4) hx hb dX1_beadsThatCount_35 (by decide) ?_
        exact ih v17 v18 _ _ _ hP hD hS (lv_sub hl [1, 0, 2] rfl) hf
  refine L4 _ (fun a19 a20 H locs ls hP hD hS hl hf => ?_) 16 0 0 _ _ _ hP hD hS (lv_sub hl [1, 0, 2] rfl) hf
  refine lv_iload_n hx hb dX1_beadsThatCount_38 rfl (lv_at hl 0 rfl) ?_
  obtain rfl := Option.some.inj hf
  exact W.iret (v := a19) hx hb hr (fun t ht hW => ⟨⟨_, (), rfl, rfl, by rw [ht]; exact hP, hD⟩, hS.F ht⟩) hS.2.2 dX1_beadsThatCount_39
noncomputable def f_X1_factOfFrame (F : FR) (p0 : Int32) : Option (Int32) := if p0 = 0 then (some (fKd F)) else (if p0 = 1 then (some (fRd F)) else (if p0 = 2 then (some (fPu F)) else (if p0 = 3 then (some (fBd F)) else (if p0 = 4 then (some (fCa F)) else (if p0 = 5 then (some (fLo F)) else (if p0 = 6 then (some (fSp F)) else (if p0 = 7 then (some (fHa F)) else (if p0 = 8 then (some (fKc F)) else (if p0 = 9 then (obd (f_X1_isTidy F) fun x11 => if x11 = 0 then (some 0) else (some 1)) else (if p0 = 10 then (obd (f_X1_sumOfValues F) fun x14 => some x14) else (if p0 = 11 then (obd (f_X1_shownNumber F) fun x16 => bnd (x16 - x16 / 11 * 11) fun (v18 : Int64) => bnd (v18.toInt32) fun (v19 : Int32) => some v19) else (obd (f_X1_beadsThatCount F) fun x20 => some x20))))))))))))
theorem pc_X1_factOfFrame : yX1_factOfFrame.cls = RX1 ∧ yX1_factOfFrame.cls ≠ "java/lang/invoke/MethodHandle" ∧ yX1_factOfFrame.cls ≠ "java/lang/invoke/VarHandle" ∧ (parseMethodDescriptor yX1_factOfFrame.desc).map (fun d => d.parameters.length) = some 1 := by decide +kernel
abbrev rm_X1_factOfFrame : Room := { frames := 4, cells := 0, slots := 0, locals := 86 }
set_option maxHeartbeats 4000000 in
set_option maxRecDepth 100000 in
theorem c_X1_factOfFrame (l : Launch) (dC : Nat → ClassId) (dI : Nat → Nat → Nat) (cI cF cJ cD : ClassId) (q0 q1 q2 q3 q4 q5 q6 q7 q8 : Nat) (F : FR) (p0 : Int32) (res : (Int32)) (hf : f_X1_factOfFrame F p0 = some res) (sz : Nat) : Met l yX1_factOfFrame (ws_ yX1_factOfFrame cX1_factOfFrame 2 (some .int)) rm_X1_factOfFrame (sbPre (dC, dI) (TY cI cF cJ cD) (wFR cI cF cJ q0 q1 q2 q3 q4 q5 q6 q7 q8 F) E0 sz [.ref q0, .int p0]) (va_Qi (fun (r : Int32) (_ : Unit) => r = res) (sbEnd (dC, dI) (fun _ => wFR cI cF cJ q0 q1 q2 q3 q4 q5 q6 q7 q8 F) (va_A (wFR cI cF cJ q0 q1 q2 q3 q4 q5 q6 q7 q8 F) sz)) (va_A (wFR cI cF cJ q0 q1 q2 q3 q4 q5 q6 q7 q8 F) sz)) 0 0 (va_A (wFR cI cF cJ q0 q1 q2 q3 q4 q5 q6 q7 q8 F) sz) := by
  refine Met.ofW (cc := cX1_factOfFrame) (maxL := 2) (ret := (some .int)) (by decide) rfl ?_
  intro p e s m args below meth c s₁ B hml hv
  obtain ⟨rfl, hsz, hP, hK, hD0, hE⟩ := hv
  have hx := B.exec
  have hb := B.bytes
  have hr := B.returns
  have hts0 := atoms_spec (ws := ws_ yX1_factOfFrame cX1_factOfFrame 2 (some .int)) B.pre
  have hts := fun (w : Cond) (h : w ∈ LW) => hts0 w (List.mem_cons_of_mem _ h)
  have hown : s.vm.findClass RX1 = some m.cls := findClass_of_methodNamed B.named
  have hlocks := B.notSynchronized
  subst hsz
  have hD := hD0.self (sz := s.heap.size)
  generalize hAe : va_A (wFR cI cF cJ q0 q1 q2 q3 q4 q5 q6 q7 q8 F) s.heap.size = A at hD ⊢
  have hA : ∀ q : Nat, s.heap.size ≤ q → A q := fun q h => by rw [← hAe]; exact Or.inr h
  have hS : va_S A s.heap s.heap [] := va_S.rf
  have hkc := Nat.zero_le rm_X1_factOfFrame.cells
  have hks := Nat.zero_le rm_X1_factOfFrame.slots
  have hl := lv_entry ([.ref q0, .int p0]) (n := 2) (Nat.le_of_ble_eq_true rfl)
  rw [lg_entry_eq]
  generalize (lg_sl ([.ref q0, .int p0]) ++ List.replicate (2 - (lg_sl ([.ref q0, .int p0])).length) Slot.unset).toArray = ls at hl ⊢
  have hl : lv_has ls 2 [(0, .ref q0), (1, .int p0)] := hl
  rw [f_X1_factOfFrame] at hf
  refine lv_iload_n hx hb dX1_factOfFrame_0 rfl (lv_at hl 1 rfl) ?_
  by_cases c1 : p0 = 0
  · have hf := ite_t hf c1
    refine lv_tableIn (off := 63) (tgt := 64) hx hb dX1_factOfFrame_1 (by rw [c1]; decide) (by rw [c1]; decide) (by rw [c1]; rfl) (by decide) ?_
    refine lv_aload_n hx hb dX1_factOfFrame_64 rfl (lv_at hl 0 rfl) ?_
    refine va_get (D := (dC, dI)) (ci := 1) (v := .int (fKd F)) (C := RX1) (T := TX1) (N := 13) hx hb hts iX1 hown hK hP 0 rfl rfl 0 (by decide) (hts _ q26) (fun _ h9 => h9) rfl dX1_factOfFrame_65 ?_
    obtain rfl := Option.some.inj hf
    exact W.iret (v := (fKd F)) hx hb hr (fun t ht hW => ⟨⟨_, (), rfl, rfl, by rw [ht]; exact hP, hD⟩, hS.F ht⟩) hS.2.2 dX1_factOfFrame_68
  have hf := ite_f hf c1
  by_cases c2 : p0 = 1
  · have hf := ite_t hf c2
    refine lv_tableIn (off := 68) (tgt := 69) hx hb dX1_factOfFrame_1 (by rw [c2]; decide) (by rw [c2]; decide) (by rw [c2]; rfl) (by decide) ?_
    refine lv_aload_n hx hb dX1_factOfFrame_69 rfl (lv_at hl 0 rfl) ?_
    refine va_get (D := (dC, dI)) (ci := 1) (v := .int (fRd F)) (C := RX1) (T := TX1) (N := 13) hx hb hts iX1 hown hK hP 0 rfl rfl 1 (by decide) (hts _ q27) (fun _ h9 => h9) rfl dX1_factOfFrame_70 ?_
    obtain rfl := Option.some.inj hf
    exact W.iret (v := (fRd F)) hx hb hr (fun t ht hW => ⟨⟨_, (), rfl, rfl, by rw [ht]; exact hP, hD⟩, hS.F ht⟩) hS.2.2 dX1_factOfFrame_73
  have hf := ite_f hf c2
  by_cases c3 : p0 = 2
  · have hf := ite_t hf c3
    refine lv_tableIn (off := 73) (tgt := 74) hx hb dX1_factOfFrame_1 (by rw [c3]; decide) (by rw [c3]; decide) (by rw [c3]; rfl) (by decide) ?_
    refine lv_aload_n hx hb dX1_factOfFrame_74 rfl (lv_at hl 0 rfl) ?_
    refine va_get (D := (dC, dI)) (ci := 1) (v := .int (fPu F)) (C := RX1) (T := TX1) (N := 13) hx hb hts iX1 hown hK hP 0 rfl rfl 6 (by decide) (hts _ q36) (fun _ h9 => h9) rfl dX1_factOfFrame_75 ?_
    obtain rfl := Option.some.inj hf
    exact W.iret (v := (fPu F)) hx hb hr (fun t ht hW => ⟨⟨_, (), rfl, rfl, by rw [ht]; exact hP, hD⟩, hS.F ht⟩) hS.2.2 dX1_factOfFrame_78
  have hf := ite_f hf c3
  by_cases c4 : p0 = 3
  · have hf := ite_t hf c4
    refine lv_tableIn (off := 78) (tgt := 79) hx hb dX1_factOfFrame_1 (by rw [c4]; decide) (by rw [c4]; decide) (by rw [c4]; rfl) (by decide) ?_
    refine lv_aload_n hx hb dX1_factOfFrame_79 rfl (lv_at hl 0 rfl) ?_
    refine va_get (D := (dC, dI)) (ci := 1) (v := .int (fBd F)) (C := RX1) (T := TX1) (N := 13) hx hb hts iX1 hown hK hP 0 rfl rfl 7 (by decide) (hts _ q37) (fun _ h9 => h9) rfl dX1_factOfFrame_80 ?_
    obtain rfl := Option.some.inj hf
    exact W.iret (v := (fBd F)) hx hb hr (fun t ht hW => ⟨⟨_, (), rfl, rfl, by rw [ht]; exact hP, hD⟩, hS.F ht⟩) hS.2.2 dX1_factOfFrame_83
  have hf := ite_f hf c4
  by_cases c5 : p0 = 4
  · have hf := ite_t hf c5
    refine lv_tableIn (off := 83) (tgt := 84) hx hb dX1_factOfFrame_1 (by rw [c5]; decide) (by rw [c5]; decide) (by rw [c5]; rfl) (by decide) ?_
    refine lv_aload_n hx hb dX1_factOfFrame_84 rfl (lv_at hl 0 rfl) ?_
    refine va_get (D := (dC, dI)) (ci := 1) (v := .int (fCa F)) (C := RX1) (T := TX1) (N := 13) hx hb hts iX1 hown hK hP 0 rfl rfl 8 (by decide) (hts _ q38) (fun _ h9 => h9) rfl dX1_factOfFrame_85 ?_
    obtain rfl := Option.some.inj hf
    exact W.iret (v := (fCa F)) hx hb hr (fun t ht hW => ⟨⟨_, (), rfl, rfl, by rw [ht]; exact hP, hD⟩, hS.F ht⟩) hS.2.2 dX1_factOfFrame_88
  have hf := ite_f hf c5
  by_cases c6 : p0 = 5
  · have hf := ite_t hf c6
    refine lv_tableIn (off := 88) (tgt := 89) hx hb dX1_factOfFrame_1 (by rw [c6]; decide) (by rw [c6]; decide) (by rw [c6]; rfl) (by decide) ?_
    refine lv_aload_n hx hb dX1_factOfFrame_89 rfl (lv_at hl 0 rfl) ?_
    refine va_get (D := (dC, dI)) (ci := 1) (v := .int (fLo F)) (C := RX1) (T := TX1) (N := 13) hx hb hts iX1 hown hK hP 0 rfl rfl 9 (by decide) (hts _ q39) (fun _ h9 => h9) rfl dX1_factOfFrame_90 ?_
    obtain rfl := Option.some.inj hf
    exact W.iret (v := (fLo F)) hx hb hr (fun t ht hW => ⟨⟨_, (), rfl, rfl, by rw [ht]; exact hP, hD⟩, hS.F ht⟩) hS.2.2 dX1_factOfFrame_93
  have hf := ite_f hf c6
  by_cases c7 : p0 = 6
  · have hf := ite_t hf c7
    refine lv_tableIn (off := 93) (tgt := 94) hx hb dX1_factOfFrame_1 (by rw [c7]; decide) (by rw [c7]; decide) (by rw [c7]; rfl) (by decide) ?_
    refine lv_aload_n hx hb dX1_factOfFrame_94 rfl (lv_at hl 0 rfl) ?_
    refine va_get (D := (dC, dI)) (ci := 1) (v := .int (fSp F)) (C := RX1) (T := TX1) (N := 13) hx hb hts iX1 hown hK hP 0 rfl rfl 10 (by decide) (hts _ q40) (fun _ h9 => h9) rfl dX1_factOfFrame_95 ?_
    obtain rfl := Option.some.inj hf
    exact W.iret (v := (fSp F)) hx hb hr (fun t ht hW => ⟨⟨_, (), rfl, rfl, by rw [ht]; exact hP, hD⟩, hS.F ht⟩) hS.2.2 dX1_factOfFrame_98
  have hf := ite_f hf c7
  by_cases c8 : p0 = 7
  · have hf := ite_t hf c8
    refine lv_tableIn (off := 98) (tgt := 99) hx hb dX1_factOfFrame_1 (by rw [c8]; decide) (by rw [c8]; decide) (by rw [c8]; rfl) (by decide) ?_
    refine lv_aload_n hx hb dX1_factOfFrame_99 rfl (lv_at hl 0 rfl) ?_
    refine va_get (D := (dC, dI)) (ci := 1) (v := .int (fHa F)) (C := RX1) (T := TX1) (N := 13) hx hb hts iX1 hown hK hP 0 rfl rfl 4 (by decide) (hts _ q34) (fun _ h9 => h9) rfl dX1_factOfFrame_100 ?_
    obtain rfl := Option.some.inj hf
    exact W.iret (v := (fHa F)) hx hb hr (fun t ht hW => ⟨⟨_, (), rfl, rfl, by rw [ht]; exact hP, hD⟩, hS.F ht⟩) hS.2.2 dX1_factOfFrame_103
  have hf := ite_f hf c8
  by_cases c9 : p0 = 8
  · have hf := ite_t hf c9
    refine lv_tableIn (off := 103) (tgt := 104) hx hb dX1_factOfFrame_1 (by rw [c9]; decide) (by rw [c9]; decide) (by rw [c9]; rfl) (by decide) ?_
    refine lv_aload_n hx hb dX1_factOfFrame_104 rfl (lv_at hl 0 rfl) ?_
    refine va_get (D := (dC, dI)) (ci := 1) (v := .int (fKc F)) (C := RX1) (T := TX1) (N := 13) hx hb hts iX1 hown hK hP 0 rfl rfl 11 (by decide) (hts _ q104) (fun _ h9 => h9) rfl dX1_factOfFrame_105 ?_
    obtain rfl := Option.some.inj hf
    exact W.iret (v := (fKc F)) hx hb hr (fun t ht hW => ⟨⟨_, (), rfl, rfl, by rw [ht]; exact hP, hD⟩, hS.F ht⟩) hS.2.2 dX1_factOfFrame_108
  have hf := ite_f hf c9
  by_cases c10 : p0 = 9
  · have hf := ite_t hf c10
    refine lv_tableIn (off := 108) (tgt := 109) hx hb dX1_factOfFrame_1 (by rw [c10]; decide) (by rw [c10]; decide) (by rw [c10]; rfl) (by decide) ?_
    refine lv_aload_n hx hb dX1_factOfFrame_109 rfl (lv_at hl 0 rfl) ?_
    obtain ⟨x11, hx11, hf⟩ := obd_e hf
    refine sb_Vi (As := []) (rest := []) ⟨hx, hb, hml, hown, hts⟩ (fun sz => c_X1_isTidy l dC dI cI cF cJ cD q0 q1 q2 q3 q4 q5 q6 q7 q8 F  x11 hx11 sz) (cwV 0 hts (g_V q124 q125 q126 q56 q57) rfl rfl rfl pc_X1_isTidy ⟨Nat.le_of_ble_eq_true rfl, Nat.le_of_ble_eq_true rfl⟩) 0 1 rfl rfl hK hP hD hS hA [0, 1, 2, 3, 4, 5, 6, 7, 8] [] rfl rfl (by decide) (by decide) (by decide) (fun _ _ _ _ h => h) (fun _ _ _ => trivial) rfl rfl hl.1 (Nat.le_of_ble_eq_true rfl) dX1_factOfFrame_110 ⟨hkc, hks⟩ (fun r9 u H locs hr9 hP hD hS => ?_)
    have hr9 := Eq.symm hr9
    subst hr9
    have hP : va_P (dC, dI) vwCl (wFR cI cF cJ q0 q1 q2 q3 q4 q5 q6 q7 q8 F) H := hP
    have hD : va_D A (wFR cI cF cJ q0 q1 q2 q3 q4 q5 q6 q7 q8 F) := hD
    refine lv_if_eq (tgt := 120) hx hb dX1_factOfFrame_113 (by decide) (fun c12 => ?_) (fun c12 => ?_)
    · have hf := ite_t hf c12
      refine lv_iconst (v := 0) hx hb dX1_factOfFrame_120 (by decide) ?_
      obtain rfl := Option.some.inj hf
      exact W.iret (v := 0) hx hb hr (fun t ht hW => ⟨⟨_, (), rfl, rfl, by rw [ht]; exact hP, hD⟩, hS.F ht⟩) hS.2.2 dX1_factOfFrame_121
    · have hf := ite_f hf c12
      refine lv_iconst (v := 1) hx hb dX1_factOfFrame_116 (by decide) ?_
      refine lv_goto (tgt := 121) hx hb dX1_factOfFrame_117 (by decide) ?_
      obtain rfl := Option.some.inj hf
      exact W.iret (v := 1) hx hb hr (fun t ht hW => ⟨⟨_, (), rfl, rfl, by rw [ht]; exact hP, hD⟩, hS.F ht⟩) hS.2.2 dX1_factOfFrame_121
  have hf := ite_f hf c10
  by_cases c13 : p0 = 10
  · have hf := ite_t hf c13
    refine lv_tableIn (off := 121) (tgt := 122) hx hb dX1_factOfFrame_1 (by rw [c13]; decide) (by rw [c13]; decide) (by rw [c13]; rfl) (by decide) ?_
    refine lv_aload_n hx hb dX1_factOfFrame_122 rfl (lv_at hl 0 rfl) ?_
    obtain ⟨x14, hx14, hf⟩ := obd_e hf
    refine sb_Vi (As := []) (rest := []) ⟨hx, hb, hml, hown, hts⟩ (fun sz => c_X1_sumOfValues l dC dI cI cF cJ cD q0 q1 q2 q3 q4 q5 q6 q7 q8 F  x14 hx14 sz) (cwV 0 hts (g_V q127 q128 q129 q56 q121) rfl rfl rfl pc_X1_sumOfValues ⟨Nat.le_of_ble_eq_true rfl, Nat.le_of_ble_eq_true rfl⟩) 0 1 rfl rfl hK hP hD hS hA [0, 1, 2, 3, 4, 5, 6, 7, 8] [] rfl rfl (by decide) (by decide) (by decide) (fun _ _ _ _ h => h) (fun _ _ _ => trivial) rfl rfl hl.1 (Nat.le_of_ble_eq_true rfl) dX1_factOfFrame_123 ⟨hkc, hks⟩ (fun r9 u H locs hr9 hP hD hS => ?_)
    have hr9 := Eq.symm hr9
    subst hr9
    have hP : va_P (dC, dI) vwCl (wFR cI cF cJ q0 q1 q2 q3 q4 q5 q6 q7 q8 F) H := hP
    have hD : va_D A (wFR cI cF cJ q0 q1 q2 q3 q4 q5 q6 q7 q8 F) := hD
    obtain rfl := Option.some.inj hf
    exact W.iret (v := x14) hx hb hr (fun t ht hW => ⟨⟨_, (), rfl, rfl, by rw [ht]; exact hP, hD⟩, hS.F ht⟩) hS.2.2 dX1_factOfFrame_126
  have hf := ite_f hf c13
  by_cases c15 : p0 = 11
  · have hf := ite_t hf c15
    refine lv_tableIn (off := 126) (tgt := 127) hx hb dX1_factOfFrame_1 (by rw [c15]; decide) (by rw [c15]; decide) (by rw [c15]; rfl) (by decide) ?_
    refine lv_aload_n hx hb dX1_factOfFrame_127 rfl (lv_at hl 0 rfl) ?_
    obtain ⟨x16, hx16, hf⟩ := obd_e hf
    refine sb_Vl (As := []) (rest := []) ⟨hx, hb, hml, hown, hts⟩ (fun sz => c_X1_shownNumber l dC dI cI cF cJ cD q0 q1 q2 q3 q4 q5 q6 q7 q8 F  x16 hx16 sz) (cwV 0 hts (g_V q130 q131 q132 q56 q52) rfl rfl rfl pc_X1_shownNumber ⟨Nat.le_of_ble_eq_true rfl, Nat.le_of_ble_eq_true rfl⟩) 0 1 rfl rfl hK hP hD hS hA [0, 1, 2, 3, 4, 5, 6, 7, 8] [] rfl rfl (by decide) (by decide) (by decide) (fun _ _ _ _ h => h) (fun _ _ _ => trivial) rfl rfl hl.1 (Nat.le_of_ble_eq_true rfl) dX1_factOfFrame_128 ⟨hkc, hks⟩ (fun r9 u H locs hr9 hP hD hS => ?_)
    have hr9 := Eq.symm hr9
    subst hr9
    have hP : va_P (dC, dI) vwCl (wFR cI cF cJ q0 q1 q2 q3 q4 q5 q6 q7 q8 F) H := hP
    have hD : va_D A (wFR cI cF cJ q0 q1 q2 q3 q4 q5 q6 q7 q8 F) := hD
    refine lv_ldc2 hx hb hown (hts _ q123) dX1_factOfFrame_131 ?_
    refine lv_lrem hx hb dX1_factOfFrame_134 (by decide) ?_
    refine lv_topl (fun v18 ev18 => ?_)
    have hf := bnd_all hf v18 ev18
    refine lv_l2i hx hb dX1_factOfFrame_135 rfl ?_
    refine lv_topi (fun v19 ev19 => ?_)
    have hf := bnd_all hf v19 ev19
    obtain rfl := Option.some.inj hf
    exact W.iret (v := v19) hx hb hr (fun t ht hW => ⟨⟨_, (), rfl, rfl, by rw [ht]; exact hP, hD⟩, hS.F ht⟩) hS.2.2 dX1_factOfFrame_136
  have hf := ite_f hf c15
  have nc1 := lv_neT c1 (a := 0) (by decide)
  have nc2 := lv_neT c2 (a := 1) (by decide)
  have nc3 := lv_neT c3 (a := 2) (by decide)
  have nc4 := lv_neT c4 (a := 3) (by decide)
  have nc5 := lv_neT c5 (a := 4) (by decide)
  have nc6 := lv_neT c6 (a := 5) (by decide)
  have nc7 := lv_neT c7 (a := 6) (by decide)
  have nc8 := lv_neT c8 (a := 7) (by decide)
  have nc9 := lv_neT c9 (a := 8) (by decide)
  have nc10 := lv_neT c10 (a := 9) (by decide)
  have nc13 := lv_neT c13 (a := 10) (by decide)
  have nc15 := lv_neT c15 (a := 11) (by decide)
  refine lv_tableOut (tgt := 137) hx hb dX1_factOfFrame_1 (by omega) (by decide) ?_
  refine lv_aload_n hx hb dX1_factOfFrame_137 rfl (lv_at hl 0 rfl) ?_
  obtain ⟨x20, hx20, hf⟩ := obd_e hf
  refine sb_Vi (As := []) (rest := []) ⟨hx, hb, hml, hown, hts⟩ (fun sz => c_X1_beadsThatCount l dC dI cI cF cJ cD q0 q1 q2 q3 q4 q5 q6 q7 q8 F  x20 hx20 sz) (cwV 0 hts (g_V q133 q134 q135 q56 q122) rfl rfl rfl pc_X1_beadsThatCount ⟨Nat.le_of_ble_eq_true rfl, Nat.le_of_ble_eq_true rfl⟩) 0 1 rfl rfl hK hP hD hS hA [0, 1, 2, 3, 4, 5, 6, 7, 8] [] rfl rfl (by decide) (by decide) (by decide) (fun _ _ _ _ h => h) (fun _ _ _ => trivial) rfl rfl hl.1 (Nat.le_of_ble_eq_true rfl) dX1_factOfFrame_138 ⟨hkc, hks⟩ (fun r9 u H locs hr9 hP hD hS => ?_)
  have hr9 := Eq.symm hr9
  subst hr9
  have hP : va_P (dC, dI) vwCl (wFR cI cF cJ q0 q1 q2 q3 q4 q5 q6 q7 q8 F) H := hP
  have hD : va_D A (wFR cI cF cJ q0 q1 q2 q3 q4 q5 q6 q7 q8 F) := hD
  obtain rfl := Option.some.inj hf
  exact W.iret (v := x20) hx hb hr (fun t ht hW => ⟨⟨_, (), rfl, rfl, by rw [ht]; exact hP, hD⟩, hS.F ht⟩) hS.2.2 dX1_factOfFrame_141
noncomputable def l_X1_waysOfRod_4 (c1 : Int32) (R0 : FR) (k : Int32 → Int32 → Option (Int32)) : Nat → Int32 → Int32 → Option (Int32)
  | 0, _, _ => none
  | n + 1, a1, a2 => if (dSz (fAb R0)) < a2 then (k a1 a2) else (bnd (5 * a2) fun (v4 : Int32) => bnd (c1 - v4) fun (v5 : Int32) => if v5 < 0 then (bnd (a2 + 1) fun (v7 : Int32) => l_X1_waysOfRod_4 c1 R0 k n a1 v7) else (if (dSz (fBe R0)) < v5 then (bnd (a2 + 1) fun (v9 : Int32) => l_X1_waysOfRod_4 c1 R0 k n a1 v9) else (bnd (a1 + 1) fun (v10 : Int32) => bnd (a2 + 1) fun (v11 : Int32) => l_X1_waysOfRod_4 c1 R0 k n v10 v11)))
noncomputable def f_X1_waysOfRod (F : FR) (p0 : Int32) : Option (Int32) := l_X1_waysOfRod_4 p0 F (fun (a25 : Int32) (a26 : Int32) => some a25) 16 0 0
theorem pc_X1_waysOfRod : yX1_waysOfRod.cls = RX1 ∧ yX1_waysOfRod.cls ≠ "java/lang/invoke/MethodHandle" ∧ yX1_waysOfRod.cls ≠ "java/lang/invoke/VarHandle" ∧ (parseMethodDescriptor yX1_waysOfRod.desc).map (fun d => d.parameters.length) = some 1 := by decide +kernel
abbrev rm_X1_waysOfRod : Room := { frames := 1, cells := 0, slots := 0, locals := 21 }
set_option maxHeartbeats 4000000 in
set_option maxRecDepth 100000 in
theorem c_X1_waysOfRod (l : Launch) (dC : Nat → ClassId) (dI : Nat → Nat → Nat) (cI cF cJ cD : ClassId) (q0 q1 q2 q3 q4 q5 q6 q7 q8 : Nat) (F : FR) (p0 : Int32) (res : (Int32)) (hf : f_X1_waysOfRod F p0 = some res) (sz : Nat) : Met l yX1_waysOfRod (ws_ yX1_waysOfRod cX1_waysOfRod 5 (some .int)) rm_X1_waysOfRod (sbPre (dC, dI) (TY cI cF cJ cD) (wFR cI cF cJ q0 q1 q2 q3 q4 q5 q6 q7 q8 F) E0 sz [.ref q0, .int p0]) (va_Qi (fun (r : Int32) (_ : Unit) => r = res) (sbEnd (dC, dI) (fun _ => wFR cI cF cJ q0 q1 q2 q3 q4 q5 q6 q7 q8 F) (va_A (wFR cI cF cJ q0 q1 q2 q3 q4 q5 q6 q7 q8 F) sz)) (va_A (wFR cI cF cJ q0 q1 q2 q3 q4 q5 q6 q7 q8 F) sz)) 0 0 (va_A (wFR cI cF cJ q0 q1 q2 q3 q4 q5 q6 q7 q8 F) sz) := by
  refine Met.ofW (cc := cX1_waysOfRod) (maxL := 5) (ret := (some .int)) (by decide) rfl ?_
  intro p e s m args below meth c s₁ B hml hv
  obtain ⟨rfl, hsz, hP, hK, hD0, hE⟩ := hv
  have hx := B.exec
  have hb := B.bytes
  have hr := B.returns
  have hts0 := atoms_spec (ws := ws_ yX1_waysOfRod cX1_waysOfRod 5 (some .int)) B.pre
  have hts := fun (w : Cond) (h : w ∈ LW) => hts0 w (List.mem_cons_of_mem _ h)
  have hown : s.vm.findClass RX1 = some m.cls := findClass_of_methodNamed B.named
  have hlocks := B.notSynchronized
  subst hsz
  have hD := hD0.self (sz := s.heap.size)
  generalize hAe : va_A (wFR cI cF cJ q0 q1 q2 q3 q4 q5 q6 q7 q8 F) s.heap.size = A at hD ⊢
  have hA : ∀ q : Nat, s.heap.size ≤ q → A q := fun q h => by rw [← hAe]; exact Or.inr h
  have hS : va_S A s.heap s.heap [] := va_S.rf
  have hkc := Nat.zero_le rm_X1_waysOfRod.cells
  have hks := Nat.zero_le rm_X1_waysOfRod.slots
  have hl := lv_entry ([.ref q0, .int p0]) (n := 5) (Nat.le_of_ble_eq_true rfl)
  rw [lg_entry_eq]
  generalize (lg_sl ([.ref q0, .int p0]) ++ List.replicate (5 - (lg_sl ([.ref q0, .int p0])).length) Slot.unset).toArray = ls at hl ⊢
  have hl : lv_has ls 5 [(0, .ref q0), (1, .int p0)] := hl
  rw [f_X1_waysOfRod] at hf
  refine lv_iconst (v := 0) hx hb dX1_waysOfRod_0 (by decide) ?_
  refine lv_istore_n (lv' := [(2, .int 0), (0, .ref q0), (1, .int p0)]) hx hb dX1_waysOfRod_1 rfl hl (by decide) rfl (fun ls hl => ?_)
  refine lv_iconst (v := 0) hx hb dX1_waysOfRod_2 (by decide) ?_
  refine lv_istore_n (lv' := [(3, .int 0), (2, .int 0), (0, .ref q0), (1, .int p0)]) hx hb dX1_waysOfRod_3 rfl hl (by decide) rfl (fun ls hl => ?_)
  have L4 : ∀ (k : Int32 → Int32 → Option (Int32)), (∀ (a12 : Int32) (a13 : Int32) (H : Heap) (locs : List Loc) (ls : Array Slot), va_P (dC, dI) vwCl (wFR cI cF cJ q0 q1 q2 q3 q4 q5 q6 q7 q8 F) H → va_D A (wFR cI cF cJ q0 q1 q2 q3 q4 q5 q6 q7 q8 F) → va_S A s.heap H locs → lv_has ls 5 [(2, .int a12)] → k a12 a13 = some res → W p l e (headSpec (ws_ yX1_waysOfRod cX1_waysOfRod 5 (some .int)) rm_X1_waysOfRod).room s m ([.ref q0, .int p0].toArray) below meth c H locs 0 0 (MQ below (va_Qi (fun (r : Int32) (_ : Unit) => r = res) (sbEnd (dC, dI) (fun _ => wFR cI cF cJ q0 q1 q2 q3 q4 q5 q6 q7 q8 F) (A)) (A)) ([.ref q0, .int p0].toArray) s 0 0 A) (F0 m 48 ls [])) → ∀ (n : Nat) (a12 : Int32) (a13 : Int32) (H : Heap) (locs : List Loc) (ls : Array Slot), va_P (dC, dI) vwCl (wFR cI cF cJ q0 q1 q2 q3 q4 q5 q6 q7 q8 F) H → va_D A (wFR cI cF cJ q0 q1 q2 q3 q4 q5 q6 q7 q8 F) → va_S A s.heap H locs → lv_has ls 5 [(2, .int a12), (3, .int a13), (0, .ref q0), (1, .int p0)] → l_X1_waysOfRod_4 p0 F k n a12 a13 = some res → W p l e (headSpec (ws_ yX1_waysOfRod cX1_waysOfRod 5 (some .int)) rm_X1_waysOfRod).room s m ([.ref q0, .int p0].toArray) below meth c H locs 0 0 (MQ below (va_Qi (fun (r : Int32) (_ : Unit) => r = res) (sbEnd (dC, dI) (fun _ => wFR cI cF cJ q0 q1 q2 q3 q4 q5 q6 q7 q8 F) (A)) (A)) ([.ref q0, .int p0].toArray) s 0 0 A) (F0 m 4 ls []) := by
    intro k hk n
    induction n with
    | zero =>
      intro a14 a15 H locs ls hP hD hS hl hf
      rw [l_X1_waysOfRod_4] at hf
      cases hf
    | succ n ih =>
      intro a14 a15 H locs ls hP hD hS hl hf
      rw [l_X1_waysOfRod_4] at hf
      refine lv_iload_n hx hb dX1_waysOfRod_4 rfl (lv_at hl 1 rfl) ?_
      refine lv_aload_n hx hb dX1_waysOfRod_5 rfl (lv_at hl 2 rfl) ?_
      refine va_get (D := (dC, dI)) (ci := 1) (v := .ref q1) (C := RX1) (T := TX1) (N := 13) hx hb hts iX1 hown hK hP 0 rfl rfl 2 (by decide) (hts _ q30) (fun _ h9 => h9) rfl dX1_waysOfRod_6 ?_
      refine va_get (D := (dC, dI)) (ci := 0) (v := .int (dSz (fAb F))) (C := RX0) (T := TX0) (N := 4) hx hb hts iX0 hown hK hP 1 rfl rfl 0 (by decide) (hts _ q51) (fun _ h9 => h9) rfl dX1_waysOfRod_9 ?_
      refine lv_icmp_gt (tgt := 48) hx hb dX1_waysOfRod_12 (by decide) (fun c16 => ?_) (fun c16 => ?_)
      · have hf := ite_t hf c16
        exact hk a14 a15 _ _ _ hP hD hS (lv_sub hl [0] rfl) hf
      · have hf := ite_f hf c16
        refine lv_iload_n hx hb dX1_waysOfRod_15 rfl (lv_at hl 3 rfl) ?_
        refine lv_iconst (v := 5) hx hb dX1_waysOfRod_16 (by decide) ?_
        refine lv_iload_n hx hb dX1_waysOfRod_17 rfl (lv_at hl 1 rfl) ?_
        refine lv_imul hx hb dX1_waysOfRod_18 ?_
        refine lv_topi (fun v17 ev17 => ?_)
        have hf := bnd_all hf v17 ev17
        refine lv_isub hx hb dX1_waysOfRod_19 ?_
        refine lv_topi (fun v18 ev18 => ?_)
        have hf := bnd_all hf v18 ev18
        refine lv_istore (lv' := [(4, .int v18), (2, .int a14), (3, .int a15), (0, .ref q0), (1, .int p0)]) hx hb dX1_waysOfRod_20 hl (by decide) rfl (fun ls hl => ?_)
        refine lv_iload hx hb dX1_waysOfRod_22 (lv_at hl 0 rfl) ?_
        refine lv_if_lt (tgt := 42) hx hb dX1_waysOfRod_24 (by decide) (fun c19 => ?_) (fun c19 => ?_)
        · have hf := ite_t hf c19
          obtain ⟨v20, ev20⟩ : ∃ y : Int32, y = a15 + 1 := ⟨_, rfl⟩
          have hf := bnd_all hf v20 ev20
          refine lv_iinc (v := v20) (lv' := [(3, .int v20), (4, .int v18), (2, .int a14), (0, .ref q0), (1, .int p0)]) hx hb dX1_waysOfRod_42 hl (k := 2) rfl (by rw [ev20]; rfl) (by decide) rfl (fun ls hl => ?_)
          refine lv_goto (tgt := 4) hx hb dX1_waysOfRod_45 (by decide) ?_
          exact ih a14 v20 _ _ _ hP hD hS (lv_sub hl [2, 0, 3, 4] rfl) hf
        · have hf := ite_f hf c19
          refine lv_iload hx hb dX1_waysOfRod_27 (lv_at hl 0 rfl) ?_
          refine lv_aload_n hx hb dX1_waysOfRod_29 rfl (lv_at hl 3 rfl) ?_
          refine va_get (D := (dC, dI)) (ci := 1) (v := .ref q5) (C := RX1) (T := TX1) (N := 13) hx hb hts iX1 hown hK hP 0 rfl rfl 3 (by decide) (hts _ q31) (fun _ h9 => h9) rfl dX1_waysOfRod_30 ?_
          refine va_get (D := (dC, dI)) (ci := 0) (v := .int (dSz (fBe F))) (C := RX0) (T := TX0) (N := 4) hx hb hts iX0 hown hK hP 5 rfl rfl 0 (by decide) (hts _ q51) (fun _ h9 => h9) rfl dX1_waysOfRod_33 ?_
          refine lv_icmp_gt (tgt := 42) hx hb dX1_waysOfRod_36 (by decide) (fun c21 => ?_) (fun c21 => ?_)
          · have hf := ite_t hf c21
            obtain ⟨v22, ev22⟩ : ∃ y : Int32, y = a15 + 1 := ⟨_, rfl⟩
            have hf := bnd_all hf v22 ev22
            refine lv_iinc (v := v22) (lv' := [(3, .int v22), (4, .int v18), (2, .int a14), (0, .ref q0), (1, .int p0)]) hx hb dX1_waysOfRod_42 hl (k := 2) rfl (by rw [ev22]; rfl) (by decide) rfl (fun ls hl => ?_)
            refine lv_goto (tgt := 4) hx hb dX1_waysOfRod_45 (by decide) ?_
            exact ih a14 v22 _ _ _ hP hD hS (lv_sub hl [2, 0, 3, 4] rfl) hf
          · have hf := ite_f hf c21
            obtain ⟨v23, ev23⟩ : ∃ y : Int32, y = a14 + 1 := ⟨_, rfl⟩
            have hf := bnd_all hf v23 ev23
            refine lv_iinc (v := v23) (lv' := [(2, .int v23), (4, .int v18), (3, .int a15), (0, .ref q0), (1, .int p0)]) hx hb dX1_waysOfRod_39 hl (k := 1) rfl (by rw [ev23]; rfl) (by decide) rfl (fun ls hl => ?_)
            obtain ⟨v24, ev24⟩ : ∃ y : Int32, y = a15 + 1 := ⟨_, rfl⟩
            have hf := bnd_all hf v24 ev24
            refine lv_iinc (v := v24) (lv' := [(3, .int v24), (2, .int v23), (4, .int v18), (0, .ref q0), (1, .int p0)]) hx hb dX1_waysOfRod_42 hl (k := 2) rfl (by rw [ev24]; rfl) (by decide) rfl (fun ls hl => ?_)
            refine lv_goto (tgt := 4) hx hb dX1_waysOfRod_45 (by decide) ?_
            exact ih v23 v24 _ _ _ hP hD hS (lv_sub hl [1, 0, 3, 4] rfl) hf
  refine L4 _ (fun a25 a26 H locs ls hP hD hS hl hf => ?_) 16 0 0 _ _ _ hP hD hS (lv_sub hl [1, 0, 2, 3] rfl) hf
  refine lv_iload_n hx hb dX1_waysOfRod_48 rfl (lv_at hl 0 rfl) ?_
  obtain rfl := Option.some.inj hf
  exact W.iret (v := a25) hx hb hr (fun t ht hW => ⟨⟨_, (), rfl, rfl, by rw [ht]; exact hP, hD⟩, hS.F ht⟩) hS.2.2 dX1_waysOfRod_49
noncomputable def l_X1_waysToShow_13 (R0 : FR) (k : Int64 → Int64 → Int64 → Int32 → Option (Int64)) : Nat → Int64 → Int64 → Int64 → Int32 → Option (Int64)
  | 0, _, _, _, _ => none
  | n + 1, a2, a3, a4, a5 => if (fRd R0) ≤ a5 then (k a2 a3 a4 a5) else (bnd (a4 - a4 / 10 * 10) fun (v8 : Int64) => bnd (v8.toInt32) fun (v9 : Int32) => obd (f_X1_waysOfRod R0 v9) fun x10 => bnd (x10.toInt64) fun (v11 : Int64) => bnd (a2 * v11) fun (v12 : Int64) => bnd (v9 - 1) fun (v13 : Int32) => obd (f_X1_waysOfRod R0 v13) fun x14 => bnd (x14.toInt64) fun (v15 : Int64) => bnd (a3 * v15) fun (v16 : Int64) => bnd (v12 + v16) fun (v17 : Int64) => bnd (v9 + 10) fun (v18 : Int32) => obd (f_X1_waysOfRod R0 v18) fun x19 => bnd (x19.toInt64) fun (v20 : Int64) => bnd (a2 * v20) fun (v21 : Int64) => bnd (v9 + 9) fun (v22 : Int32) => obd (f_X1_waysOfRod R0 v22) fun x23 => bnd (x23.toInt64) fun (v24 : Int64) => bnd (a3 * v24) fun (v25 : Int64) => bnd (v21 + v25) fun (v26 : Int64) => bnd (a4 / 10) fun (v28 : Int64) => bnd (a5 + 1) fun (v29 : Int32) => l_X1_waysToShow_13 R0 k n v17 v26 v28 v29)
noncomputable def f_X1_waysToShow (F : FR) : Option (Int64) := obd (f_X1_shownNumber F) fun x1 => l_X1_waysToShow_13 F (fun (a62 : Int64) (a63 : Int64) (a64 : Int64) (a65 : Int32) => bnd (lg_cmp a64 (0 : Int64)) fun (v66 : Int32) => if v66 = 0 then (some a62) else (some a63)) 16 1 0 x1 0
theorem pc_X1_waysToShow : yX1_waysToShow.cls = RX1 ∧ yX1_waysToShow.cls ≠ "java/lang/invoke/MethodHandle" ∧ yX1_waysToShow.cls ≠ "java/lang/invoke/VarHandle" ∧ (parseMethodDescriptor yX1_waysToShow.desc).map (fun d => d.parameters.length) = some 0 := by decide +kernel
abbrev rm_X1_waysToShow : Room := { frames := 4, cells := 0, slots := 0, locals := 86 }
set_option maxHeartbeats 4000000 in
set_option maxRecDepth 100000 in
theorem c_X1_waysToShow (l : Launch) (dC : Nat → ClassId) (dI : Nat → Nat → Nat) (cI cF cJ cD : ClassId) (q0 q1 q2 q3 q4 q5 q6 q7 q8 : Nat) (F : FR) (res : (Int64)) (hf : f_X1_waysToShow F = some res) (sz : Nat) : Met l yX1_waysToShow (ws_ yX1_waysToShow cX1_waysToShow 13 (some .long)) rm_X1_waysToShow (sbPre (dC, dI) (TY cI cF cJ cD) (wFR cI cF cJ q0 q1 q2 q3 q4 q5 q6 q7 q8 F) E0 sz [.ref q0]) (va_Ql (fun (r : Int64) (_ : Unit) => r = res) (sbEnd (dC, dI) (fun _ => wFR cI cF cJ q0 q1 q2 q3 q4 q5 q6 q7 q8 F) (va_A (wFR cI cF cJ q0 q1 q2 q3 q4 q5 q6 q7 q8 F) sz)) (va_A (wFR cI cF cJ q0 q1 q2 q3 q4 q5 q6 q7 q8 F) sz)) 0 0 (va_A (wFR cI cF cJ q0 q1 q2 q3 q4 q5 q6 q7 q8 F) sz) := by
  refine Met.ofW (cc := cX1_waysToShow) (maxL := 13) (ret := (some .long)) (by decide) rfl ?_
  intro p e s m args below meth c s₁ B hml hv
  obtain ⟨rfl, hsz, hP, hK, hD0, hE⟩ := hv
  have hx := B.exec
  have hb := B.bytes
  have hr := B.returns
  have hts0 := atoms_spec (ws := ws_ yX1_waysToShow cX1_waysToShow 13 (some .long)) B.pre
  have hts := fun (w : Cond) (h : w ∈ LW) => hts0 w (List.mem_cons_of_mem _ h)
  have hown : s.vm.findClass RX1 = some m.cls := findClass_of_methodNamed B.named
  have hlocks := B.notSynchronized
  subst hsz
  have hD := hD0.self (sz := s.heap.size)
  generalize hAe : va_A (wFR cI cF cJ q0 q1 q2 q3 q4 q5 q6 q7 q8 F) s.heap.size = A at hD ⊢
  have hA : ∀ q : Nat, s.heap.size ≤ q → A q := fun q h => by rw [← hAe]; exact Or.inr h
  have hS : va_S A s.heap s.heap [] := va_S.rf
  have hkc := Nat.zero_le rm_X1_waysToShow.cells
  have hks := Nat.zero_le rm_X1_waysToShow.slots
  have hl := lv_entry ([.ref q0]) (n := 13) (Nat.le_of_ble_eq_true rfl)
  rw [lg_entry_eq]
  generalize (lg_sl ([.ref q0]) ++ List.replicate (13 - (lg_sl ([.ref q0])).length) Slot.unset).toArray = ls at hl ⊢
  have hl : lv_has ls 13 [(0, .ref q0)] := hl
  rw [f_X1_waysToShow] at hf
  refine lv_lconst (v := 1) hx hb dX1_waysToShow_0 (by decide) ?_
  refine lv_lstore_n (lv' := [(1, .long 1), (0, .ref q0)]) hx hb dX1_waysToShow_1 rfl hl (by decide) rfl (fun ls hl => ?_)
  refine lv_lconst (v := 0) hx hb dX1_waysToShow_2 (by decide) ?_
  refine lv_lstore_n (lv' := [(3, .long 0), (1, .long 1), (0, .ref q0)]) hx hb dX1_waysToShow_3 rfl hl (by decide) rfl (fun ls hl => ?_)
  refine lv_aload_n hx hb dX1_waysToShow_4 rfl (lv_at hl 2 rfl) ?_
  obtain ⟨x1, hx1, hf⟩ := obd_e hf
  refine sb_Vl (As := []) (rest := []) ⟨hx, hb, hml, hown, hts⟩ (fun sz => c_X1_shownNumber l dC dI cI cF cJ cD q0 q1 q2 q3 q4 q5 q6 q7 q8 F  x1 hx1 sz) (cwV 0 hts (g_V q130 q131 q132 q56 q52) rfl rfl rfl pc_X1_shownNumber ⟨Nat.le_of_ble_eq_true rfl, Nat.le_of_ble_eq_true rfl⟩) 0 1 rfl rfl hK hP hD hS hA [0, 1, 2, 3, 4, 5, 6, 7, 8] [] rfl rfl (by decide) (by decide) (by decide) (fun _ _ _ _ h => h) (fun _ _ _ => trivial) rfl rfl hl.1 (Nat.le_of_ble_eq_true rfl) dX1_waysToShow_5 ⟨hkc, hks⟩ (fun r9 u H locs hr9 hP hD hS => ?_)
  have hr9 := Eq.symm hr9
  subst hr9
  have hP : va_P (dC, dI) vwCl (wFR cI cF cJ q0 q1 q2 q3 q4 q5 q6 q7 q8 F) H := hP
  have hD : va_D A (wFR cI cF cJ q0 q1 q2 q3 q4 q5 q6 q7 q8 F) := hD
  refine lv_lstore (lv' := [(5, .long x1), (3, .long 0), (1, .long 1), (0, .ref q0)]) hx hb dX1_waysToShow_8 hl (by decide) rfl (fun ls hl => ?_)
  refine lv_iconst (v := 0) hx hb dX1_waysToShow_10 (by decide) ?_
  refine lv_istore (lv' := [(7, .int 0), (5, .long x1), (3, .long 0), (1, .long 1), (0, .ref q0)]) hx hb dX1_waysToShow_11 hl (by decide) rfl (fun ls hl => ?_)
  have L13 : ∀ (k : Int64 → Int64 → Int64 → Int32 → Option (Int64)), (∀ (a30 : Int64) (a31 : Int64) (a32 : Int64) (a33 : Int32) (H : Heap) (locs : List Loc) (ls : Array Slot), va_P (dC, dI) vwCl (wFR cI cF cJ q0 q1 q2 q3 q4 q5 q6 q7 q8 F) H → va_D A (wFR cI cF cJ q0 q1 q2 q3 q4 q5 q6 q7 q8 F) → va_S A s.heap H locs → lv_has ls 13 [(1, .long a30), (3, .long a31), (5, .long a32)] → k a30 a31 a32 a33 = some res → W p l e (headSpec (ws_ yX1_waysToShow cX1_waysToShow 13 (some .long)) rm_X1_waysToShow).room s m ([.ref q0].toArray) below meth c H locs 0 0 (MQ below (va_Ql (fun (r : Int64) (_ : Unit) => r = res) (sbEnd (dC, dI) (fun _ => wFR cI cF cJ q0 q1 q2 q3 q4 q5 q6 q7 q8 F) (A)) (A)) ([.ref q0].toArray) s 0 0 A) (F0 m 101 ls [])) → ∀ (n : Nat) (a30 : Int64) (a31 : Int64) (a32 : Int64) (a33 : Int32) (H : Heap) (locs : List Loc) (ls : Array Slot), va_P (dC, dI) vwCl (wFR cI cF cJ q0 q1 q2 q3 q4 q5 q6 q7 q8 F) H → va_D A (wFR cI cF cJ q0 q1 q2 q3 q4 q5 q6 q7 q8 F) → va_S A s.heap H locs → lv_has ls 13 [(1, .long a30), (3, .long a31), (5, .long a32), (7, .int a33), (0, .ref q0)] → l_X1_waysToShow_13 F k n a30 a31 a32 a33 = some res → W p l e (headSpec (ws_ yX1_waysToShow cX1_waysToShow 13 (some .long)) rm_X1_waysToShow).room s m ([.ref q0].toArray) below meth c H locs 0 0 (MQ below (va_Ql (fun (r : Int64) (_ : Unit) => r = res) (sbEnd (dC, dI) (fun _ => wFR cI cF cJ q0 q1 q2 q3 q4 q5 q6 q7 q8 F) (A)) (A)) ([.ref q0].toArray) s 0 0 A) (F0 m 13 ls []) := by
    intro k hk n
    induction n with
    | zero =>
      intro a34 a35 a36 a37 H locs ls hP hD hS hl hf
      rw [l_X1_waysToShow_13] at hf
      cases hf
    | succ n ih =>
      intro a34 a35 a36 a37 H locs ls hP hD hS hl hf
      rw [l_X1_waysToShow_13] at hf
      refine lv_iload hx hb dX1_waysToShow_13 (lv_at hl 3 rfl) ?_
      refine lv_aload_n hx hb dX1_waysToShow_15 rfl (lv_at hl 4 rfl) ?_
      refine va_get (D := (dC, dI)) (ci := 1) (v := .int (fRd F)) (C := RX1) (T := TX1) (N := 13) hx hb hts iX1 hown hK hP 0 rfl rfl 1 (by decide) (hts _ q27) (fun _ h9 => h9) rfl dX1_waysToShow_16 ?_
      refine lv_icmp_ge (tgt := 101) hx hb dX1_waysToShow_19 (by decide) (fun c38 => ?_) (fun c38 => ?_)
      · have hf := ite_t hf c38
        exact hk a34 a35 a36 a37 _ _ _ hP hD hS (lv_sub hl [0, 1, 2] rfl) hf
      · have hf := ite_f hf c38
        refine lv_lload hx hb dX1_waysToShow_22 (lv_at hl 2 rfl) ?_
        refine lv_ldc2 hx hb hown (hts _ q47) dX1_waysToShow_24 ?_
        refine lv_lrem hx hb dX1_waysToShow_27 (by decide) ?_
        refine lv_topl (fun v40 ev40 => ?_)
        have hf := bnd_all hf v40 ev40
        refine lv_l2i hx hb dX1_waysToShow_28 rfl ?_
        refine lv_topi (fun v41 ev41 => ?_)
        have hf := bnd_all hf v41 ev41
        refine lv_istore (lv' := [(8, .int v41), (1, .long a34), (3, .long a35), (5, .long a36), (7, .int a37), (0, .ref q0)]) hx hb dX1_waysToShow_29 hl (by decide) rfl (fun ls hl => ?_)
        refine lv_lload_n hx hb dX1_waysToShow_31 rfl (lv_at hl 1 rfl) ?_
        refine lv_aload_n hx hb dX1_waysToShow_32 rfl (lv_at hl 5 rfl) ?_
        refine lv_iload hx hb dX1_waysToShow_33 (lv_at hl 0 rfl) ?_
        obtain ⟨x42, hx42, hf⟩ := obd_e hf
        refine sb_Vi (As := [.int v41]) (rest := [.long a34]) ⟨hx, hb, hml, hown, hts⟩ (fun sz => c_X1_waysOfRod l dC dI cI cF cJ cD q0 q1 q2 q3 q4 q5 q6 q7 q8 F v41  x42 hx42 sz) (cwV 1 hts (g_V q139 q140 q141 q56 q137) rfl rfl rfl pc_X1_waysOfRod ⟨Nat.le_of_ble_eq_true rfl, Nat.le_of_ble_eq_true rfl⟩) 0 1 rfl rfl hK hP hD hS hA [0, 1, 2, 3, 4, 5, 6, 7, 8] [] rfl rfl (by decide) (by decide) (by decide) (fun _ _ _ _ h => h) (fun _ _ _ => trivial) rfl rfl hl.1 (Nat.le_of_ble_eq_true rfl) dX1_waysToShow_35 ⟨hkc, hks⟩ (fun r9 u H locs hr9 hP hD hS => ?_)
        have hr9 := Eq.symm hr9
        subst hr9
        have hP : va_P (dC, dI) vwCl (wFR cI cF cJ q0 q1 q2 q3 q4 q5 q6 q7 q8 F) H := hP
        have hD : va_D A (wFR cI cF cJ q0 q1 q2 q3 q4 q5 q6 q7 q8 F) := hD
        refine lv_i2l hx hb dX1_waysToShow_38 rfl ?_
        refine lv_topl (fun v43 ev43 => ?_)
        have hf := bnd_all hf v43 ev43
        refine lv_lmul hx hb dX1_waysToShow_39 ?_
        refine lv_topl (fun v44 ev44 => ?_)
        have hf := bnd_all hf v44 ev44
        refine lv_lload_n hx hb dX1_waysToShow_40 rfl (lv_at hl 2 rfl) ?_
        refine lv_aload_n hx hb dX1_waysToShow_41 rfl (lv_at hl 5 rfl) ?_
        refine lv_iload hx hb dX1_waysToShow_42 (lv_at hl 0 rfl) ?_
        refine lv_iconst (v := 1) hx hb dX1_waysToShow_44 (by decide) ?_
        refine lv_isub hx hb dX1_waysToShow_45 ?_
        refine lv_topi (fun v45 ev45 => ?_)
        have hf := bnd_all hf v45 ev45
        obtain ⟨x46, hx46, hf⟩ := obd_e hf
        refine sb_Vi (As := [.int v45]) (rest := [.long a35, .long v44]) ⟨hx, hb, hml, hown, hts⟩ (fun sz => c_X1_waysOfRod l dC dI cI cF cJ cD q0 q1 q2 q3 q4 q5 q6 q7 q8 F v45  x46 hx46 sz) (cwV 1 hts (g_V q139 q140 q141 q56 q137) rfl rfl rfl pc_X1_waysOfRod ⟨Nat.le_of_ble_eq_true rfl, Nat.le_of_ble_eq_true rfl⟩) 0 1 rfl rfl hK hP hD hS hA [0, 1, 2, 3, 4, 5, 6, 7, 8] [] rfl rfl (by decide) (by decide) (by decide) (fun _ _ _ _ h => h) (fun _ _ _ => trivial) rfl rfl hl.1 (Nat.le_of_ble_eq_true rfl) dX1_waysToShow_46 ⟨hkc, hks⟩ (fun r9 u H locs hr9 hP hD hS => ?_)
        have hr9 := Eq.symm hr9
        subst hr9
        have hP : va_P (dC, dI) vwCl (wFR cI cF cJ q0 q1 q2 q3 q4 q5 q6 q7 q8 F) H := hP
        have hD : va_D A (wFR cI cF cJ q0 q1 q2 q3 q4 q5 q6 q7 q8 F) := hD
        refine lv_i2l hx hb dX1_waysToShow_49 rfl ?_
        refine lv_topl (fun v47 ev47 => ?_)
        have hf := bnd_all hf v47 ev47
        refine lv_lmul hx hb dX1_waysToShow_50 ?_
        refine lv_topl (fun v48 ev48 => ?_)
        have hf := bnd_all hf v48 ev48
        refine lv_ladd hx hb dX1_waysToShow_51 ?_
        refine lv_topl (fun v49 ev49 => ?_)
        have hf := bnd_all hf v49 ev49
        refine lv_lstore (lv' := [(9, .long v49), (8, .int v41), (1, .long a34), (3, .long a35), (5, .long a36), (7, .int a37), (0, .ref q0)]) hx hb dX1_waysToShow_52 hl (by decide) rfl (fun ls hl => ?_)
        refine lv_lload_n hx hb dX1_waysToShow_54 rfl (lv_at hl 2 rfl) ?_
        refine lv_aload_n hx hb dX1_waysToShow_55 rfl (lv_at hl 6 rfl) ?_
        refine lv_iload hx hb dX1_waysToShow_56 (lv_at hl 1 rfl) ?_
        refine lv_bipush (v := 10) hx hb dX1_waysToShow_58 (by decide) ?_
        refine lv_iadd hx hb dX1_waysToShow_60 ?_
        refine lv_topi (fun v50 ev50 => ?_)
        have hf := bnd_all hf v50 ev50
        obtain ⟨x51, hx51, hf⟩ := obd_e hf
        refine sb_Vi (As := [.int v50]) (rest := [.long a34]) ⟨hx, hb, hml, hown, hts⟩ (fun sz => c_X1_waysOfRod l dC dI cI cF cJ cD q0 q1 q2 q3 q4 q5 q6 q7 q8 F v50  x51 hx51 sz) (cwV 1 hts (g_V q139 q140 q141 q56 q137) rfl rfl rfl pc_X1_waysOfRod ⟨Nat.le_of_ble_eq_true rfl, Nat.le_of_ble_eq_true rfl⟩) 0 1 rfl rfl hK hP hD hS hA [0, 1, 2, 3, 4, 5, 6, 7, 8] [] rfl rfl (by decide) (by decide) (by decide) (fun _ _ _ _ h => h) (fun _ _ _ => trivial) rfl rfl hl.1 (Nat.le_of_ble_eq_true rfl) dX1_waysToShow_61 ⟨hkc, hks⟩ (fun r9 u H locs hr9 hP hD hS => ?_)
        have hr9 := Eq.symm hr9
        subst hr9
        have hP : va_P (dC, dI) vwCl (wFR cI cF cJ q0 q1 q2 q3 q4 q5 q6 q7 q8 F) H := hP
        have hD : va_D A (wFR cI cF cJ q0 q1 q2 q3 q4 q5 q6 q7 q8 F) := hD
        refine lv_i2l hx hb dX1_waysToShow_64 rfl ?_
        refine lv_topl (fun v52 ev52 => ?_)
        have hf := bnd_all hf v52 ev52
        refine lv_lmul hx hb dX1_waysToShow_65 ?_
        refine lv_topl (fun v53 ev53 => ?_)
        have hf := bnd_all hf v53 ev53
        refine lv_lload_n hx hb dX1_waysToShow_66 rfl (lv_at hl 3 rfl) ?_
        refine lv_aload_n hx hb dX1_waysToShow_67 rfl (lv_at hl 6 rfl) ?_
        refine lv_iload hx hb dX1_waysToShow_68 (lv_at hl 1 rfl) ?_
        refine lv_bipush (v := 9) hx hb dX1_waysToShow_70 (by decide) ?_
        refine lv_iadd hx hb dX1_waysToShow_72 ?_
        refine lv_topi (fun v54 ev54 => ?_)
        have hf := bnd_all hf v54 ev54
        obtain ⟨x55, hx55, hf⟩ := obd_e hf
        refine sb_Vi (As := [.int v54]) (rest := [.long a35, .long v53]) ⟨hx, hb, hml, hown, hts⟩ (fun sz => c_X1_waysOfRod l dC dI cI cF cJ cD q0 q1 q2 q3 q4 q5 q6 q7 q8 F v54  x55 hx55 sz) (cwV 1 hts (g_V q139 q140 q141 q56 q137) rfl rfl rfl pc_X1_waysOfRod ⟨Nat.le_of_ble_eq_true rfl, Nat.le_of_ble_eq_true rfl⟩) 0 1 rfl rfl hK hP hD hS hA [0, 1, 2, 3, 4, 5, 6, 7, 8] [] rfl rfl (by decide) (by decide) (by decide) (fun _ _ _ _ h => h) (fun _ _ _ => trivial) rfl rfl hl.1 (Nat.le_of_ble_eq_true rfl) dX1_waysToShow_73 ⟨hkc, hks⟩ (fun r9 u H locs hr9 hP hD hS => ?_)
        have hr9 := Eq.symm hr9
        subst hr9
        have hP : va_P (dC, dI) vwCl (wFR cI cF cJ q0 q1 q2 q3 q4 q5 q6 q7 q8 F) H := hP
        have hD : va_D A (wFR cI cF cJ q0 q1 q2 q3 q4 q5 q6 q7 q8 F) := hD
        refine lv_i2l hx hb dX1_waysToShow_76 rfl ?_
        refine lv_topl (fun v56 ev56 => ?_)
        have hf := bnd_all hf v56 ev56
        refine lv_lmul hx hb dX1_waysToShow_77 ?_
        refine lv_topl (fun v57 ev57 => ?_)
        have hf := bnd_all hf v57 ev57
        refine lv_ladd hx hb dX1_waysToShow_78 ?_
        refine lv_topl (fun v58 ev58 => ?_)
        have hf := bnd_all hf v58 ev58
        refine lv_lstore (lv' := [(11, .long v58), (9, .long v49), (8, .int v41), (1, .long a34), (3, .long a35), (5, .long a36), (7, .int a37), (0, .ref q0)]) hx hb dX1_waysToShow_79 hl (by decide) rfl (fun ls hl => ?_)
        refine lv_lload hx hb dX1_waysToShow_81 (lv_at hl 1 rfl) ?_
        refine lv_lstore_n (lv' := [(1, .long v49), (11, .long v58), (9, .long v49), (8, .int v41), (3, .long a35), (5, .long a36), (7, .int a37), (0, .ref q0)]) hx hb dX1_waysToShow_83 rfl hl (by decide) rfl (fun ls hl => ?_)
        refine lv_lload hx hb dX1_waysToShow_84 (lv_at hl 1 rfl) ?_
        refine lv_lstore_n (lv' := [(3, .long v58), (1, .long v49), (11, .long v58), (9, .long v49), (8, .int v41), (5, .long a36), (7, .int a37), (0, .ref q0)]) hx hb dX1_waysToShow_86 rfl hl (by decide) rfl (fun ls hl => ?_)
        refine lv_lload hx hb dX1_waysToShow_87 (lv_at hl 5 rfl) ?_
        refine lv_ldc2 hx hb hown (hts _ q47) dX1_waysToShow_89 ?_
        refine lv_ldiv hx hb dX1_waysToShow_92 (by decide) ?_
        refine lv_topl (fun v60 ev60 => ?_)
        have hf := bnd_all hf v60 ev60
        refine lv_lstore (lv' := [(5, .long v60), (3, .long v58), (1, .long v49), (11, .long v58), (9, .long v49), (8, .int v41), (7, .int a37), (0, .ref q0)]) hx hb dX1_waysToShow_93 hl (by decide) rfl (fun ls hl => ?_)
        obtain ⟨v61, ev61⟩ : ∃ y : Int32, y = a37 + 1 := ⟨_, rfl⟩
        have hf := bnd_all hf v61 ev61
        refine lv_iinc (v := v61) (lv' := [(7, .int v61), (5, .long v60), (3, .long v58), (1, .long v49), (11, .long v58), (9, .long v49), (8, .int v41), (0, .ref q0)]) hx hb dX1_waysToShow_95 hl (k := 6) rfl (by rw [ev61]; rfl) (by decide) rfl (fun ls hl => ?_)
        refine lv_goto (tgt := 13) hx hb dX1_waysToShow_98 (by decide) ?_
        exact ih v49 v58 v60 v61 _ _ _ hP hD hS (lv_sub hl [3, 2, 1, 0, 7] rfl) hf
  refine L13 _ (fun a62 a63 a64 a65 H locs ls hP hD hS hl hf => ?_) 16 1 0 x1 0 _ _ _ hP hD hS (lv_sub hl [3, 2, 1, 0, 4] rfl) hf
  refine lv_lload hx hb dX1_waysToShow_101 (lv_at hl 2 rfl) ?_
  refine lv_lconst (v := 0) hx hb dX1_waysToShow_103 (by decide) ?_
  refine W.lcmp hx hb dX1_waysToShow_104 ?_
  refine lv_topi (fun v66 ev66 => ?_)
  have hf := bnd_all hf v66 ev66
  refine lv_if_ne (tgt := 112) hx hb dX1_waysToShow_105 (by decide) (fun c67 => ?_) (fun c67 => ?_)
  · have hf := ite_f hf c67
    refine lv_lload_n hx hb dX1_waysToShow_112 rfl (lv_at hl 1 rfl) ?_
    obtain rfl := Option.some.inj hf
    exact W.lret (v := a63) hx hb hr (fun t ht hW => ⟨⟨_, (), rfl, rfl, by rw [ht]; exact hP, hD⟩, hS.F ht⟩) hS.2.2 dX1_waysToShow_113
  · have hf := ite_t hf c67
    refine lv_lload_n hx hb dX1_waysToShow_108 rfl (lv_at hl 0 rfl) ?_
    refine lv_goto (tgt := 113) hx hb dX1_waysToShow_109 (by decide) ?_
    obtain rfl := Option.some.inj hf
    exact W.lret (v := a62) hx hb hr (fun t ht hW => ⟨⟨_, (), rfl, rfl, by rw [ht]; exact hP, hD⟩, hS.F ht⟩) hS.2.2 dX1_waysToShow_113
noncomputable def l_X1_fewestOfRod_6 (c1 : Int32) (R0 : FR) (k : Int32 → Int32 → Option (Int32)) : Nat → Int32 → Int32 → Option (Int32)
  | 0, _, _ => none
  | n + 1, a1, a2 => if (dSz (fAb R0)) < a2 then (k a1 a2) else (bnd (5 * a2) fun (v4 : Int32) => bnd (c1 - v4) fun (v5 : Int32) => if v5 < 0 then (bnd (a2 + 1) fun (v7 : Int32) => l_X1_fewestOfRod_6 c1 R0 k n a1 v7) else (if (dSz (fBe R0)) < v5 then (bnd (a2 + 1) fun (v9 : Int32) => l_X1_fewestOfRod_6 c1 R0 k n a1 v9) else (bnd (a2 + v5) fun (v10 : Int32) => bnd (if v10 < a1 then v10 else a1) fun (v11 : Int32) => bnd (a2 + 1) fun (v12 : Int32) => l_X1_fewestOfRod_6 c1 R0 k n v11 v12)))
noncomputable def f_X1_fewestOfRod (F : FR) (p0 : Int32) : Option (Int32) := l_X1_fewestOfRod_6 p0 F (fun (a27 : Int32) (a28 : Int32) => some a27) 16 1000 0
theorem pc_X1_fewestOfRod : yX1_fewestOfRod.cls = RX1 ∧ yX1_fewestOfRod.cls ≠ "java/lang/invoke/MethodHandle" ∧ yX1_fewestOfRod.cls ≠ "java/lang/invoke/VarHandle" ∧ (parseMethodDescriptor yX1_fewestOfRod.desc).map (fun d => d.parameters.length) = some 1 := by decide +kernel
abbrev rm_X1_fewestOfRod : Room := { frames := 1, cells := 0, slots := 0, locals := 21 }
set_option maxHeartbeats 4000000 in
set_option maxRecDepth 100000 in
theorem c_X1_fewestOfRod (l : Launch) (dC : Nat → ClassId) (dI : Nat → Nat → Nat) (cI cF cJ cD : ClassId) (q0 q1 q2 q3 q4 q5 q6 q7 q8 : Nat) (F : FR) (p0 : Int32) (res : (Int32)) (hf : f_X1_fewestOfRod F p0 = some res) (sz : Nat) : Met l yX1_fewestOfRod (ws_ yX1_fewestOfRod cX1_fewestOfRod 5 (some .int)) rm_X1_fewestOfRod (sbPre (dC, dI) (TY cI cF cJ cD) (wFR cI cF cJ q0 q1 q2 q3 q4 q5 q6 q7 q8 F) E0 sz [.ref q0, .int p0]) (va_Qi (fun (r : Int32) (_ : Unit) => r = res) (sbEnd (dC, dI) (fun _ => wFR cI cF cJ q0 q1 q2 q3 q4 q5 q6 q7 q8 F) (va_A (wFR cI cF cJ q0 q1 q2 q3 q4 q5 q6 q7 q8 F) sz)) (va_A (wFR cI cF cJ q0 q1 q2 q3 q4 q5 q6 q7 q8 F) sz)) 0 0 (va_A (wFR cI cF cJ q0 q1 q2 q3 q4 q5 q6 q7 q8 F) sz) := by
  refine Met.ofW (cc := cX1_fewestOfRod) (maxL := 5) (ret := (some .int)) (by decide) rfl ?_
  intro p e s m args below meth c s₁ B hml hv
  obtain ⟨rfl, hsz, hP, hK, hD0, hE⟩ := hv
  have hx := B.exec
  have hb := B.bytes
  have hr := B.returns
  have hts0 := atoms_spec (ws := ws_ yX1_fewestOfRod cX1_fewestOfRod 5 (some .int)) B.pre
  have hts := fun (w : Cond) (h : w ∈ LW) => hts0 w (List.mem_cons_of_mem _ h)
  have hown : s.vm.findClass RX1 = some m.cls := findClass_of_methodNamed B.named
  have hlocks := B.notSynchronized
  subst hsz
  have hD := hD0.self (sz := s.heap.size)
  generalize hAe : va_A (wFR cI cF cJ q0 q1 q2 q3 q4 q5 q6 q7 q8 F) s.heap.size = A at hD ⊢
  have hA : ∀ q : Nat, s.heap.size ≤ q → A q := fun q h => by rw [← hAe]; exact Or.inr h
  have hS : va_S A s.heap s.heap [] := va_S.rf
  have hkc := Nat.zero_le rm_X1_fewestOfRod.cells
  have hks := Nat.zero_le rm_X1_fewestOfRod.slots
  have hl := lv_entry ([.ref q0, .int p0]) (n := 5) (Nat.le_of_ble_eq_true rfl)
  rw [lg_entry_eq]
  generalize (lg_sl ([.ref q0, .int p0]) ++ List.replicate (5 - (lg_sl ([.ref q0, .int p0])).length) Slot.unset).toArray = ls at hl ⊢
  have hl : lv_has ls 5 [(0, .ref q0), (1, .int p0)] := hl
  rw [f_X1_fewestOfRod] at hf
  refine lv_sipush (v := 1000) hx hb dX1_fewestOfRod_0 (by decide) ?_
  refine lv_istore_n (lv' := [(2, .int 1000), (0, .ref q0), (1, .int p0)]) hx hb dX1_fewestOfRod_3 rfl hl (by decide) rfl (fun ls hl => ?_)
  refine lv_iconst (v := 0) hx hb dX1_fewestOfRod_4 (by decide) ?_
  refine lv_istore_n (lv' := [(3, .int 0), (2, .int 1000), (0, .ref q0), (1, .int p0)]) hx hb dX1_fewestOfRod_5 rfl hl (by decide) rfl (fun ls hl => ?_)
  have L6 : ∀ (k : Int32 → Int32 → Option (Int32)), (∀ (a13 : Int32) (a14 : Int32) (H : Heap) (locs : List Loc) (ls : Array Slot), va_P (dC, dI) vwCl (wFR cI cF cJ q0 q1 q2 q3 q4 q5 q6 q7 q8 F) H → va_D A (wFR cI cF cJ q0 q1 q2 q3 q4 q5 q6 q7 q8 F) → va_S A s.heap H locs → lv_has ls 5 [(2, .int a13)] → k a13 a14 = some res → W p l e (headSpec (ws_ yX1_fewestOfRod cX1_fewestOfRod 5 (some .int)) rm_X1_fewestOfRod).room s m ([.ref q0, .int p0].toArray) below meth c H locs 0 0 (MQ below (va_Qi (fun (r : Int32) (_ : Unit) => r = res) (sbEnd (dC, dI) (fun _ => wFR cI cF cJ q0 q1 q2 q3 q4 q5 q6 q7 q8 F) (A)) (A)) ([.ref q0, .int p0].toArray) s 0 0 A) (F0 m 56 ls [])) → ∀ (n : Nat) (a13 : Int32) (a14 : Int32) (H : Heap) (locs : List Loc) (ls : Array Slot), va_P (dC, dI) vwCl (wFR cI cF cJ q0 q1 q2 q3 q4 q5 q6 q7 q8 F) H → va_D A (wFR cI cF cJ q0 q1 q2 q3 q4 q5 q6 q7 q8 F) → va_S A s.heap H locs → lv_has ls 5 [(2, .int a13), (3, .int a14), (0, .ref q0), (1, .int p0)] → l_X1_fewestOfRod_6 p0 F k n a13 a14 = some res → W p l e (headSpec (ws_ yX1_fewestOfRod cX1_fewestOfRod 5 (some .int)) rm_X1_fewestOfRod).room s m ([.ref q0, .int p0].toArray) below meth c H locs 0 0 (MQ below (va_Qi (fun (r : Int32) (_ : Unit) => r = res) (sbEnd (dC, dI) (fun _ => wFR cI cF cJ q0 q1 q2 q3 q4 q5 q6 q7 q8 F) (A)) (A)) ([.ref q0, .int p0].toArray) s 0 0 A) (F0 m 6 ls []) := by
    intro k hk n
    induction n with
    | zero =>
      intro a15 a16 H locs ls hP hD hS hl hf
      rw [l_X1_fewestOfRod_6] at hf
      cases hf
    | succ n ih =>
      intro a15 a16 H locs ls hP hD hS hl hf
      rw [l_X1_fewestOfRod_6] at hf
      refine lv_iload_n hx hb dX1_fewestOfRod_6 rfl (lv_at hl 1 rfl) ?_
      refine lv_aload_n hx hb dX1_fewestOfRod_7 rfl (lv_at hl 2 rfl) ?_
      refine va_get (D := (dC, dI)) (ci := 1) (v := .ref q1) (C := RX1) (T := TX1) (N := 13) hx hb hts iX1 hown hK hP 0 rfl rfl 2 (by decide) (hts _ q30) (fun _ h9 => h9) rfl dX1_fewestOfRod_8 ?_
      refine va_get (D := (dC, dI)) (ci := 0) (v := .int (dSz (fAb F))) (C := RX0) (T := TX0) (N := 4) hx hb hts iX0 hown hK hP 1 rfl rfl 0 (by decide) (hts _ q51) (fun _ h9 => h9) rfl dX1_fewestOfRod_11 ?_
      refine lv_icmp_gt (tgt := 56) hx hb dX1_fewestOfRod_14 (by decide) (fun c17 => ?_) (fun c17 => ?_)
      · have hf := ite_t hf c17
        exact hk a15 a16 _ _ _ hP hD hS (lv_sub hl [0] rfl) hf
      · have hf := ite_f hf c17
        refine lv_iload_n hx hb dX1_fewestOfRod_17 rfl (lv_at hl 3 rfl) ?_
        refine lv_iconst (v := 5) hx hb dX1_fewestOfRod_18 (by decide) ?_
        refine lv_iload_n hx hb dX1_fewestOfRod_19 rfl (lv_at hl 1 rfl) ?_
        refine lv_imul hx hb dX1_fewestOfRod_20 ?_
        refine lv_topi (fun v18 ev18 => ?_)
        have hf := bnd_all hf v18 ev18
        refine lv_isub hx hb dX1_fewestOfRod_21 ?_
        refine lv_topi (fun v19 ev19 => ?_)
        have hf := bnd_all hf v19 ev19
        refine lv_istore (lv' := [(4, .int v19), (2, .int a15), (3, .int a16), (0, .ref q0), (1, .int p0)]) hx hb dX1_fewestOfRod_22 hl (by decide) rfl (fun ls hl => ?_)
        refine lv_iload hx hb dX1_fewestOfRod_24 (lv_at hl 0 rfl) ?_
        refine lv_if_lt (tgt := 50) hx hb dX1_fewestOfRod_26 (by decide) (fun c20 => ?_) (fun c20 => ?_)
        · have hf := ite_t hf c20
          obtain ⟨v21, ev21⟩ : ∃ y : Int32, y = a16 + 1 := ⟨_, rfl⟩
          have hf := bnd_all hf v21 ev21
          refine lv_iinc (v := v21) (lv' := [(3, .int v21), (4, .int v19), (2, .int a15), (0, .ref q0), (1, .int p0)]) hx hb dX1_fewestOfRod_50 hl (k := 2) rfl (by rw [ev21]; rfl) (by decide) rfl (fun ls hl => ?_)
          refine lv_goto (tgt := 6) hx hb dX1_fewestOfRod_53 (by decide) ?_
          exact ih a15 v21 _ _ _ hP hD hS (lv_sub hl [2, 0, 3, 4] rfl) hf
        · have hf := ite_f hf c20
          refine lv_iload hx hb dX1_fewestOfRod_29 (lv_at hl 0 rfl) ?_
          refine lv_aload_n hx hb dX1_fewestOfRod_31 rfl (lv_at hl 3 rfl) ?_
          refine va_get (D := (dC, dI)) (ci := 1) (v := .ref q5) (C := RX1) (T := TX1) (N := 13) hx hb hts iX1 hown hK hP 0 rfl rfl 3 (by decide) (hts _ q31) (fun _ h9 => h9) rfl dX1_fewestOfRod_32 ?_
          refine va_get (D := (dC, dI)) (ci := 0) (v := .int (dSz (fBe F))) (C := RX0) (T := TX0) (N := 4) hx hb hts iX0 hown hK hP 5 rfl rfl 0 (by decide) (hts _ q51) (fun _ h9 => h9) rfl dX1_fewestOfRod_35 ?_
          refine lv_icmp_gt (tgt := 50) hx hb dX1_fewestOfRod_38 (by decide) (fun c22 => ?_) (fun c22 => ?_)
          · have hf := ite_t hf c22
            obtain ⟨v23, ev23⟩ : ∃ y : Int32, y = a16 + 1 := ⟨_, rfl⟩
            have hf := bnd_all hf v23 ev23
            refine lv_iinc (v := v23) (lv' := [(3, .int v23), (4, .int v19), (2, .int a15), (0, .ref q0), (1, .int p0)]) hx hb dX1_fewestOfRod_50 hl (k := 2) rfl (by rw [ev23]; rfl) (by decide) rfl (fun ls hl => ?_)
            refine lv_goto (tgt := 6) hx hb dX1_fewestOfRod_53 (by decide) ?_
            exact ih a15 v23 _ _ _ hP hD hS (lv_sub hl [2, 0, 3, 4] rfl) hf
          · have hf := ite_f hf c22
            refine lv_iload_n hx hb dX1_fewestOfRod_41 rfl (lv_at hl 1 rfl) ?_
            refine lv_iload_n hx hb dX1_fewestOfRod_42 rfl (lv_at hl 2 rfl) ?_
            refine lv_iload hx hb dX1_fewestOfRod_43 (lv_at hl 0 rfl) ?_
            refine lv_iadd hx hb dX1_fewestOfRod_45 ?_
            refine lv_topi (fun v24 ev24 => ?_)
            have hf := bnd_all hf v24 ev24
            refine va_mmin hx hb (hml.trans hl.1.symm) hown (hts _ q143) (hts _ q144) (hts _ q61) (hts _ q145) (Nat.le_of_ble_eq_true rfl) (Nat.le_of_ble_eq_true rfl) hkc hks dX1_fewestOfRod_46 ?_
            refine lv_topi (fun v25 ev25 => ?_)
            have hf := bnd_all hf v25 ev25
            refine lv_istore_n (lv' := [(2, .int v25), (4, .int v19), (3, .int a16), (0, .ref q0), (1, .int p0)]) hx hb dX1_fewestOfRod_49 rfl hl (by decide) rfl (fun ls hl => ?_)
            obtain ⟨v26, ev26⟩ : ∃ y : Int32, y = a16 + 1 := ⟨_, rfl⟩
            have hf := bnd_all hf v26 ev26
            refine lv_iinc (v := v26) (lv' := [(3, .int v26), (2, .int v25), (4, .int v19), (0, .ref q0), (1, .int p0)]) hx hb dX1_fewestOfRod_50 hl (k := 2) rfl (by rw [ev26]; rfl) (by decide) rfl (fun ls hl => ?_)
            refine lv_goto (tgt := 6) hx hb dX1_fewestOfRod_53 (by decide) ?_
            exact ih v25 v26 _ _ _ hP hD hS (lv_sub hl [1, 0, 3, 4] rfl) hf
  refine L6 _ (fun a27 a28 H locs ls hP hD hS hl hf => ?_) 16 1000 0 _ _ _ hP hD hS (lv_sub hl [1, 0, 2, 3] rfl) hf
  refine lv_iload_n hx hb dX1_fewestOfRod_56 rfl (lv_at hl 0 rfl) ?_
  obtain rfl := Option.some.inj hf
  exact W.iret (v := a27) hx hb hr (fun t ht hW => ⟨⟨_, (), rfl, rfl, by rw [ht]; exact hP, hD⟩, hS.F ht⟩) hS.2.2 dX1_fewestOfRod_57
noncomputable def l_X1_fewestBeadsToShow_14 (R0 : FR) (k : Int32 → Int32 → Int64 → Int32 → Option (Int32)) : Nat → Int32 → Int32 → Int64 → Int32 → Option (Int32)
  | 0, _, _, _, _ => none
  | n + 1, a2, a3, a4, a5 => if (fRd R0) ≤ a5 then (k a2 a3 a4 a5) else (bnd (a4 - a4 / 10 * 10) fun (v8 : Int64) => bnd (v8.toInt32) fun (v9 : Int32) => obd (f_X1_fewestOfRod R0 v9) fun x10 => bnd (a2 + x10) fun (v11 : Int32) => bnd (v9 - 1) fun (v12 : Int32) => obd (f_X1_fewestOfRod R0 v12) fun x13 => bnd (a3 + x13) fun (v14 : Int32) => bnd (if v14 < v11 then v14 else v11) fun (v15 : Int32) => bnd (v9 + 10) fun (v16 : Int32) => obd (f_X1_fewestOfRod R0 v16) fun x17 => bnd (a2 + x17) fun (v18 : Int32) => bnd (v9 + 9) fun (v19 : Int32) => obd (f_X1_fewestOfRod R0 v19) fun x20 => bnd (a3 + x20) fun (v21 : Int32) => bnd (if v21 < v18 then v21 else v18) fun (v22 : Int32) => bnd (a4 / 10) fun (v24 : Int64) => bnd (a5 + 1) fun (v25 : Int32) => l_X1_fewestBeadsToShow_14 R0 k n v15 v22 v24 v25)
noncomputable def f_X1_fewestBeadsToShow (F : FR) : Option (Int32) := obd (f_X1_shownNumber F) fun x1 => l_X1_fewestBeadsToShow_14 F (fun (a54 : Int32) (a55 : Int32) (a56 : Int64) (a57 : Int32) => bnd (lg_cmp a56 (0 : Int64)) fun (v58 : Int32) => if v58 = 0 then (some a54) else (some a55)) 16 0 1000 x1 0
theorem pc_X1_fewestBeadsToShow : yX1_fewestBeadsToShow.cls = RX1 ∧ yX1_fewestBeadsToShow.cls ≠ "java/lang/invoke/MethodHandle" ∧ yX1_fewestBeadsToShow.cls ≠ "java/lang/invoke/VarHandle" ∧ (parseMethodDescriptor yX1_fewestBeadsToShow.desc).map (fun d => d.parameters.length) = some 0 := by decide +kernel
abbrev rm_X1_fewestBeadsToShow : Room := { frames := 4, cells := 0, slots := 0, locals := 86 }
set_option maxHeartbeats 4000000 in
set_option maxRecDepth 100000 in
theorem c_X1_fewestBeadsToShow (l : Launch) (dC : Nat → ClassId) (dI : Nat → Nat → Nat) (cI cF cJ cD : ClassId) (q0 q1 q2 q3 q4 q5 q6 q7 q8 : Nat) (F : FR) (res : (Int32)) (hf : f_X1_fewestBeadsToShow F = some res) (sz : Nat) : Met l yX1_fewestBeadsToShow (ws_ yX1_fewestBeadsToShow cX1_fewestBeadsToShow 9 (some .int)) rm_X1_fewestBeadsToShow (sbPre (dC, dI) (TY cI cF cJ cD) (wFR cI cF cJ q0 q1 q2 q3 q4 q5 q6 q7 q8 F) E0 sz [.ref q0]) (va_Qi (fun (r : Int32) (_ : Unit) => r = res) (sbEnd (dC, dI) (fun _ => wFR cI cF cJ q0 q1 q2 q3 q4 q5 q6 q7 q8 F) (va_A (wFR cI cF cJ q0 q1 q2 q3 q4 q5 q6 q7 q8 F) sz)) (va_A (wFR cI cF cJ q0 q1 q2 q3 q4 q5 q6 q7 q8 F) sz)) 0 0 (va_A (wFR cI cF cJ q0 q1 q2 q3 q4 q5 q6 q7 q8 F) sz) := by
  refine Met.ofW (cc := cX1_fewestBeadsToShow) (maxL := 9) (ret := (some .int)) (by decide) rfl ?_
  intro p e s m args below meth c s₁ B hml hv
  obtain ⟨rfl, hsz, hP, hK, hD0, hE⟩ := hv
  have hx := B.exec
  have hb := B.bytes
  have hr := B.returns
  have hts0 := atoms_spec (ws := ws_ yX1_fewestBeadsToShow cX1_fewestBeadsToShow 9 (some .int)) B.pre
  have hts := fun (w : Cond) (h : w ∈ LW) => hts0 w (List.mem_cons_of_mem _ h)
  have hown : s.vm.findClass RX1 = some m.cls := findClass_of_methodNamed B.named
  have hlocks := B.notSynchronized
  subst hsz
  have hD := hD0.self (sz := s.heap.size)
  generalize hAe : va_A (wFR cI cF cJ q0 q1 q2 q3 q4 q5 q6 q7 q8 F) s.heap.size = A at hD ⊢
  have hA : ∀ q : Nat, s.heap.size ≤ q → A q := fun q h => by rw [← hAe]; exact Or.inr h
  have hS : va_S A s.heap s.heap [] := va_S.rf
  have hkc := Nat.zero_le rm_X1_fewestBeadsToShow.cells
  have hks := Nat.zero_le rm_X1_fewestBeadsToShow.slots
  have hl := lv_entry ([.ref q0]) (n := 9) (Nat.le_of_ble_eq_true rfl)
  rw [lg_entry_eq]
  generalize (lg_sl ([.ref q0]) ++ List.replicate (9 - (lg_sl ([.ref q0])).length) Slot.unset).toArray = ls at hl ⊢
  have hl : lv_has ls 9 [(0, .ref q0)] := hl
  rw [f_X1_fewestBeadsToShow] at hf
  refine lv_iconst (v := 0) hx hb dX1_fewestBeadsToShow_0 (by decide) ?_
  refine lv_istore_n (lv' := [(1, .int 0), (0, .ref q0)]) hx hb dX1_fewestBeadsToShow_1 rfl hl (by decide) rfl (fun ls hl => ?_)
  refine lv_sipush (v := 1000) hx hb dX1_fewestBeadsToShow_2 (by decide) ?_
  refine lv_istore_n (lv' := [(2, .int 1000), (1, .int 0), (0, .ref q0)]) hx hb dX1_fewestBeadsToShow_5 rfl hl (by decide) rfl (fun ls hl => ?_)
  refine lv_aload_n hx hb dX1_fewestBeadsToShow_6 rfl (lv_at hl 2 rfl) ?_
  obtain ⟨x1, hx1, hf⟩ := obd_e hf
  refine sb_Vl (As := []) (rest := []) ⟨hx, hb, hml, hown, hts⟩ (fun sz => c_X1_shownNumber l dC dI cI cF cJ cD q0 q1 q2 q3 q4 q5 q6 q7 q8 F  x1 hx1 sz) (cwV 0 hts (g_V q130 q131 q132 q56 q52) rfl rfl rfl pc_X1_shownNumber ⟨Nat.le_of_ble_eq_true rfl, Nat.le_of_ble_eq_true rfl⟩) 0 1 rfl rfl hK hP hD hS hA [0, 1, 2, 3, 4, 5, 6, 7, 8] [] rfl rfl (by decide) (by decide) (by decide) (fun _ _ _ _ h => h) (fun _ _ _ => trivial) rfl rfl hl.1 (Nat.le_of_ble_eq_true rfl) dX1_fewestBeadsToShow_7 ⟨hkc, hks⟩ (fun r9 u H locs hr9 hP hD hS => ?_)
  have hr9 := Eq.symm hr9
  subst hr9
  have hP : va_P (dC, dI) vwCl (wFR cI cF cJ q0 q1 q2 q3 q4 q5 q6 q7 q8 F) H := hP
  have hD : va_D A (wFR cI cF cJ q0 q1 q2 q3 q4 q5 q6 q7 q8 F) := hD
  refine lv_lstore_n (lv' := [(3, .long x1), (2, .int 1000), (1, .int 0), (0, .ref q0)]) hx hb dX1_fewestBeadsToShow_10 rfl hl (by decide) rfl (fun ls hl => ?_)
  refine lv_iconst (v := 0) hx hb dX1_fewestBeadsToShow_11 (by decide) ?_
  refine lv_istore (lv' := [(5, .int 0), (3, .long x1), (2, .int 1000), (1, .int 0), (0, .ref q0)]) hx hb dX1_fewestBeadsToShow_12 hl (by decide) rfl (fun ls hl => ?_)
  have L14 : ∀ (k : Int32 → Int32 → Int64 → Int32 → Option (Int32)), (∀ (a26 : Int32) (a27 : Int32) (a28 : Int64) (a29 : Int32) (H : Heap) (locs : List Loc) (ls : Array Slot), va_P (dC, dI) vwCl (wFR cI cF cJ q0 q1 q2 q3 q4 q5 q6 q7 q8 F) H → va_D A (wFR cI cF cJ q0 q1 q2 q3 q4 q5 q6 q7 q8 F) → va_S A s.heap H locs → lv_has ls 9 [(1, .int a26), (2, .int a27), (3, .long a28)] → k a26 a27 a28 a29 = some res → W p l e (headSpec (ws_ yX1_fewestBeadsToShow cX1_fewestBeadsToShow 9 (some .int)) rm_X1_fewestBeadsToShow).room s m ([.ref q0].toArray) below meth c H locs 0 0 (MQ below (va_Qi (fun (r : Int32) (_ : Unit) => r = res) (sbEnd (dC, dI) (fun _ => wFR cI cF cJ q0 q1 q2 q3 q4 q5 q6 q7 q8 F) (A)) (A)) ([.ref q0].toArray) s 0 0 A) (F0 m 99 ls [])) → ∀ (n : Nat) (a26 : Int32) (a27 : Int32) (a28 : Int64) (a29 : Int32) (H : Heap) (locs : List Loc) (ls : Array Slot), va_P (dC, dI) vwCl (wFR cI cF cJ q0 q1 q2 q3 q4 q5 q6 q7 q8 F) H → va_D A (wFR cI cF cJ q0 q1 q2 q3 q4 q5 q6 q7 q8 F) → va_S A s.heap H locs → lv_has ls 9 [(1, .int a26), (2, .int a27), (3, .long a28), (5, .int a29), (0, .ref q0)] → l_X1_fewestBeadsToShow_14 F k n a26 a27 a28 a29 = some res → W p l e (headSpec (ws_ yX1_fewestBeadsToShow cX1_fewestBeadsToShow 9 (some .int)) rm_X1_fewestBeadsToShow).room s m ([.ref q0].toArray) below meth c H locs 0 0 (MQ below (va_Qi (fun (r : Int32) (_ : Unit) => r = res) (sbEnd (dC, dI) (fun _ => wFR cI cF cJ q0 q1 q2 q3 q4 q5 q6 q7 q8 F) (A)) (A)) ([.ref q0].toArray) s 0 0 A) (F0 m 14 ls []) := by
    intro k hk n
    induction n with
    | zero =>
      intro a30 a31 a32 a33 H locs ls hP hD hS hl hf
      rw [l_X1_fewestBeadsToShow_14] at hf
      cases hf
    | succ n ih =>
      intro a30 a31 a32 a33 H locs ls hP hD hS hl hf
      rw [l_X1_fewestBeadsToShow_14] at hf
      refine lv_iload hx hb dX1_fewestBeadsToShow_14 (lv_at hl 3 rfl) ?_
      refine lv_aload_n hx hb dX1_fewestBeadsToShow_16 rfl (lv_at hl 4 rfl) ?_
      refine va_get (D := (dC, dI)) (ci := 1) (v := .int (fRd F)) (C := RX1) (T := TX1) (N := 13) hx hb hts iX1 hown hK hP 0 rfl rfl 1 (by decide) (hts _ q27) (fun _ h9 => h9) rfl dX1_fewestBeadsToShow_17 ?_
      refine lv_icmp_ge (tgt := 99) hx hb dX1_fewestBeadsToShow_20 (by decide) (fun c34 => ?_) (fun c34 => ?_)
      · have hf := ite_t hf c34
        exact hk a30 a31 a32 a33 _ _ _ hP hD hS (lv_sub hl [0, 1, 2] rfl) hf
      · have hf := ite_f hf c34
        refine lv_lload_n hx hb dX1_fewestBeadsToShow_23 rfl (lv_at hl 2 rfl) ?_
        refine lv_ldc2 hx hb hown (hts _ q47) dX1_fewestBeadsToShow_24 ?_
        refine lv_lrem hx hb dX1_fewestBeadsToShow_27 (by decide) ?_
        refine lv_topl (fun v36 ev36 => ?_)
        have hf := bnd_all hf v36 ev36
        refine lv_l2i hx hb dX1_fewestBeadsToShow_28 rfl ?_
        refine lv_topi (fun v37 ev37 => ?_)
        have hf := bnd_all hf v37 ev37
        refine lv_istore (lv' := [(6, .int v37), (1, .int a30), (2, .int a31), (3, .long a32), (5, .int a33), (0, .ref q0)]) hx hb dX1_fewestBeadsToShow_29 hl (by decide) rfl (fun ls hl => ?_)
        refine lv_iload_n hx hb dX1_fewestBeadsToShow_31 rfl (lv_at hl 1 rfl) ?_
        refine lv_aload_n hx hb dX1_fewestBeadsToShow_32 rfl (lv_at hl 5 rfl) ?_
        refine lv_iload hx hb dX1_fewestBeadsToShow_33 (lv_at hl 0 rfl) ?_
        obtain ⟨x38, hx38, hf⟩ := obd_e hf
        refine sb_Vi (As := [.int v37]) (rest := [.int a30]) ⟨hx, hb, hml, hown, hts⟩ (fun sz => c_X1_fewestOfRod l dC dI cI cF cJ cD q0 q1 q2 q3 q4 q5 q6 q7 q8 F v37  x38 hx38 sz) (cwV 1 hts (g_V q146 q147 q148 q56 q142) rfl rfl rfl pc_X1_fewestOfRod ⟨Nat.le_of_ble_eq_true rfl, Nat.le_of_ble_eq_true rfl⟩) 0 1 rfl rfl hK hP hD hS hA [0, 1, 2, 3, 4, 5, 6, 7, 8] [] rfl rfl (by decide) (by decide) (by decide) (fun _ _ _ _ h => h) (fun _ _ _ => trivial) rfl rfl hl.1 (Nat.le_of_ble_eq_true rfl) dX1_fewestBeadsToShow_35 ⟨hkc, hks⟩ (fun r9 u H locs hr9 hP hD hS => ?_)
        have hr9 := Eq.symm hr9
        subst hr9
        have hP : va_P (dC, dI) vwCl (wFR cI cF cJ q0 q1 q2 q3 q4 q5 q6 q7 q8 F) H := hP
        have hD : va_D A (wFR cI cF cJ q0 q1 q2 q3 q4 q5 q6 q7 q8 F) := hD
        refine lv_iadd hx hb dX1_fewestBeadsToShow_38 ?_
        refine lv_topi (fun v39 ev39 => ?_)
        have hf := bnd_all hf v39 ev39
        refine lv_iload_n hx hb dX1_fewestBeadsToShow_39 rfl (lv_at hl 2 rfl) ?_
        refine lv_aload_n hx hb dX1_fewestBeadsToShow_40 rfl (lv_at hl 5 rfl) ?_
        refine lv_iload hx hb dX1_fewestBeadsToShow_41 (lv_at hl 0 rfl) ?_
        refine lv_iconst (v := 1) hx hb dX1_fewestBeadsToShow_43 (by decide) ?_
        refine lv_isub hx hb dX1_fewestBeadsToShow_44 ?_
        refine lv_topi (fun v40 ev40 => ?_)
        have hf := bnd_all hf v40 ev40
        obtain ⟨x41, hx41, hf⟩ := obd_e hf
        refine sb_Vi (As := [.int v40]) (rest := [.int a31, .int v39]) ⟨hx, hb, hml, hown, hts⟩ (fun sz => c_X1_fewestOfRod l dC dI cI cF cJ cD q0 q1 q2 q3 q4 q5 q6 q7 q8 F v40  x41 hx41 sz) (cwV 1 hts (g_V q146 q147 q148 q56 q142) rfl rfl rfl pc_X1_fewestOfRod ⟨Nat.le_of_ble_eq_true rfl, Nat.le_of_ble_eq_true rfl⟩) 0 1 rfl rfl hK hP hD hS hA [0, 1, 2, 3, 4, 5, 6, 7, 8] [] rfl rfl (by decide) (by decide) (by decide) (fun _ _ _ _ h => h) (fun _ _ _ => trivial) rfl rfl hl.1 (Nat.le_of_ble_eq_true rfl) dX1_fewestBeadsToShow_45 ⟨hkc, hks⟩ (fun r9 u H locs hr9 hP hD hS => ?_)
        have hr9 := Eq.symm hr9
        subst hr9
        have hP : va_P (dC, dI) vwCl (wFR cI cF cJ q0 q1 q2 q3 q4 q5 q6 q7 q8 F) H := hP
        have hD : va_D A (wFR cI cF cJ q0 q1 q2 q3 q4 q5 q6 q7 q8 F) := hD
        refine lv_iadd hx hb dX1_fewestBeadsToShow_48 ?_
        refine lv_topi (fun v42 ev42 => ?_)
        have hf := bnd_all hf v42 ev42
        refine va_mmin hx hb (hml.trans hl.1.symm) hown (hts _ q143) (hts _ q144) (hts _ q61) (hts _ q145) (Nat.le_of_ble_eq_true rfl) (Nat.le_of_ble_eq_true rfl) hkc hks dX1_fewestBeadsToShow_49 ?_
        refine lv_topi (fun v43 ev43 => ?_)
        have hf := bnd_all hf v43 ev43
        refine lv_istore (lv' := [(7, .int v43), (6, .int v37), (1, .int a30), (2, .int a31), (3, .long a32), (5, .int a33), (0, .ref q0)]) hx hb dX1_fewestBeadsToShow_52 hl (by decide) rfl (fun ls hl => ?_)
        refine lv_iload_n hx hb dX1_fewestBeadsToShow_54 rfl (lv_at hl 2 rfl) ?_
        refine lv_aload_n hx hb dX1_fewestBeadsToShow_55 rfl (lv_at hl 6 rfl) ?_
        refine lv_iload hx hb dX1_fewestBeadsToShow_56 (lv_at hl 1 rfl) ?_
        refine lv_bipush (v := 10) hx hb dX1_fewestBeadsToShow_58 (by decide) ?_
        refine lv_iadd hx hb dX1_fewestBeadsToShow_60 ?_
        refine lv_topi (fun v44 ev44 => ?_)
        have hf := bnd_all hf v44 ev44
        obtain ⟨x45, hx45, hf⟩ := obd_e hf
        refine sb_Vi (As := [.int v44]) (rest := [.int a30]) ⟨hx, hb, hml, hown, hts⟩ (fun sz => c_X1_fewestOfRod l dC dI cI cF cJ cD q0 q1 q2 q3 q4 q5 q6 q7 q8 F v44  x45 hx45 sz) (cwV 1 hts (g_V q146 q147 q148 q56 q142) rfl rfl rfl pc_X1_fewestOfRod ⟨Nat.le_of_ble_eq_true rfl, Nat.le_of_ble_eq_true rfl⟩) 0 1 rfl rfl hK hP hD hS hA [0, 1, 2, 3, 4, 5, 6, 7, 8] [] rfl rfl (by decide) (by decide) (by decide) (fun _ _ _ _ h => h) (fun _ _ _ => trivial) rfl rfl hl.1 (Nat.le_of_ble_eq_true rfl) dX1_fewestBeadsToShow_61 ⟨hkc, hks⟩ (fun r9 u H locs hr9 hP hD hS => ?_)
        have hr9 := Eq.symm hr9
        subst hr9
        have hP : va_P (dC, dI) vwCl (wFR cI cF cJ q0 q1 q2 q3 q4 q5 q6 q7 q8 F) H := hP
        have hD : va_D A (wFR cI cF cJ q0 q1 q2 q3 q4 q5 q6 q7 q8 F) := hD
        refine lv_iadd hx hb dX1_fewestBeadsToShow_64 ?_
        refine lv_topi (fun v46 ev46 => ?_)
        have hf := bnd_all hf v46 ev46
        refine lv_iload_n hx hb dX1_fewestBeadsToShow_65 rfl (lv_at hl 3 rfl) ?_
        refine lv_aload_n hx hb dX1_fewestBeadsToShow_66 rfl (lv_at hl 6 rfl) ?_
        refine lv_iload hx hb dX1_fewestBeadsToShow_67 (lv_at hl 1 rfl) ?_
        refine lv_bipush (v := 9) hx hb dX1_fewestBeadsToShow_69 (by decide) ?_
        refine lv_iadd hx hb dX1_fewestBeadsToShow_71 ?_
        refine lv_topi (fun v47 ev47 => ?_)
        have hf := bnd_all hf v47 ev47
        obtain ⟨x48, hx48, hf⟩ := obd_e hf
        refine sb_Vi (As := [.int v47]) (rest := [.int a31, .int v46]) ⟨hx, hb, hml, hown, hts⟩ (fun sz => c_X1_fewestOfRod l dC dI cI cF cJ cD q0 q1 q2 q3 q4 q5 q6 q7 q8 F v47  x48 hx48 sz) (cwV 1 hts (g_V q146 q147 q148 q56 q142) rfl rfl rfl pc_X1_fewestOfRod ⟨Nat.le_of_ble_eq_true rfl, Nat.le_of_ble_eq_true rfl⟩) 0 1 rfl rfl hK hP hD hS hA [0, 1, 2, 3, 4, 5, 6, 7, 8] [] rfl rfl (by decide) (by decide) (by decide) (fun _ _ _ _ h => h) (fun _ _ _ => trivial) rfl rfl hl.1 (Nat.le_of_ble_eq_true rfl) dX1_fewestBeadsToShow_72 ⟨hkc, hks⟩ (fun r9 u H locs hr9 hP hD hS => ?_)
        have hr9 := Eq.symm hr9
        subst hr9
        have hP : va_P (dC, dI) vwCl (wFR cI cF cJ q0 q1 q2 q3 q4 q5 q6 q7 q8 F) H := hP
        have hD : va_D A (wFR cI cF cJ q0 q1 q2 q3 q4 q5 q6 q7 q8 F) := hD
        refine lv_iadd hx hb dX1_fewestBeadsToShow_75 ?_
        refine lv_topi (fun v49 ev49 => ?_)
        have hf := bnd_all hf v49 ev49
        refine va_mmin hx hb (hml.trans hl.1.symm) hown (hts _ q143) (hts _ q144) (hts _ q61) (hts _ q145) (Nat.le_of_ble_eq_true rfl) (Nat.le_of_ble_eq_true rfl) hkc hks dX1_fewestBeadsToShow_76 ?_
        refine lv_topi (fun v50 ev50 => ?_)
        have hf := bnd_all hf v50 ev50
        refine lv_istore (lv' := [(8, .int v50), (7, .int v43), (6, .int v37), (1, .int a30), (2, .int a31), (3, .long a32), (5, .int a33), (0, .ref q0)]) hx hb dX1_fewestBeadsToShow_79 hl (by decide) rfl (fun ls hl => ?_)
        refine lv_iload hx hb dX1_fewestBeadsToShow_81 (lv_at hl 1 rfl) ?_
        refine lv_istore_n (lv' := [(1, .int v43), (8, .int v50), (7, .int v43), (6, .int v37), (2, .int a31), (3, .long a32), (5, .int a33), (0, .ref q0)]) hx hb dX1_fewestBeadsToShow_83 rfl hl (by decide) rfl (fun ls hl => ?_)
        refine lv_iload hx hb dX1_fewestBeadsToShow_84 (lv_at hl 1 rfl) ?_
        refine lv_istore_n (lv' := [(2, .int v50), (1, .int v43), (8, .int v50), (7, .int v43), (6, .int v37), (3, .long a32), (5, .int a33), (0, .ref q0)]) hx hb dX1_fewestBeadsToShow_86 rfl hl (by decide) rfl (fun ls hl => ?_)
        refine lv_lload_n hx hb dX1_fewestBeadsToShow_87 rfl (lv_at hl 5 rfl) ?_
        refine lv_ldc2 hx hb hown (hts _ q47) dX1_fewestBeadsToShow_88 ?_
        refine lv_ldiv hx hb dX1_fewestBeadsToShow_91 (by decide) ?_
        refine lv_topl (fun v52 ev52 => ?_)
        have hf := bnd_all hf v52 ev52
        refine lv_lstore_n (lv' := [(3, .long v52), (2, .int v50), (1, .int v43), (8, .int v50), (7, .int v43), (6, .int v37), (5, .int a33), (0, .ref q0)]) hx hb dX1_fewestBeadsToShow_92 rfl hl (by decide) rfl (fun ls hl => ?_)
        obtain ⟨v53, ev53⟩ : ∃ y : Int32, y = a33 + 1 := ⟨_, rfl⟩
        have hf := bnd_all hf v53 ev53
        refine lv_iinc (v := v53) (lv' := [(5, .int v53), (3, .long v52), (2, .int v50), (1, .int v43), (8, .int v50), (7, .int v43), (6, .int v37), (0, .ref q0)]) hx hb dX1_fewestBeadsToShow_93 hl (k := 6) rfl (by rw [ev53]; rfl) (by decide) rfl (fun ls hl => ?_)
        refine lv_goto (tgt := 14) hx hb dX1_fewestBeadsToShow_96 (by decide) ?_
        exact ih v43 v50 v52 v53 _ _ _ hP hD hS (lv_sub hl [3, 2, 1, 0, 7] rfl) hf
  refine L14 _ (fun a54 a55 a56 a57 H locs ls hP hD hS hl hf => ?_) 16 0 1000 x1 0 _ _ _ hP hD hS (lv_sub hl [3, 2, 1, 0, 4] rfl) hf
  refine lv_lload_n hx hb dX1_fewestBeadsToShow_99 rfl (lv_at hl 2 rfl) ?_
  refine lv_lconst (v := 0) hx hb dX1_fewestBeadsToShow_100 (by decide) ?_
  refine W.lcmp hx hb dX1_fewestBeadsToShow_101 ?_
  refine lv_topi (fun v58 ev58 => ?_)
  have hf := bnd_all hf v58 ev58
  refine lv_if_ne (tgt := 109) hx hb dX1_fewestBeadsToShow_102 (by decide) (fun c59 => ?_) (fun c59 => ?_)
  · have hf := ite_f hf c59
    refine lv_iload_n hx hb dX1_fewestBeadsToShow_109 rfl (lv_at hl 1 rfl) ?_
    obtain rfl := Option.some.inj hf
    exact W.iret (v := a55) hx hb hr (fun t ht hW => ⟨⟨_, (), rfl, rfl, by rw [ht]; exact hP, hD⟩, hS.F ht⟩) hS.2.2 dX1_fewestBeadsToShow_110
  · have hf := ite_t hf c59
    refine lv_iload_n hx hb dX1_fewestBeadsToShow_105 rfl (lv_at hl 0 rfl) ?_
    refine lv_goto (tgt := 110) hx hb dX1_fewestBeadsToShow_106 (by decide) ?_
    obtain rfl := Option.some.inj hf
    exact W.iret (v := a54) hx hb hr (fun t ht hW => ⟨⟨_, (), rfl, rfl, by rw [ht]; exact hP, hD⟩, hS.F ht⟩) hS.2.2 dX1_fewestBeadsToShow_110
