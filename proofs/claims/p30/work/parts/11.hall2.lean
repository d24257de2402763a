-- laid by wip/p30/specs.py
noncomputable def f_X2_countByAdding (Hb : HB) (F : FR) (Tr : FR) (p0 : Int32) (p1 : Int32) : Option (Int32 × FR) := obd (f_X1_copyFrom Tr F) fun x1 => bnd (p0.toInt64) fun (v2 : Int64) => obd (f_X1_bringNumber x1 v2) fun x3 => if p1 = 0 then (bnd ((fPu x3) - (fPu F)) fun (v5 : Int32) => some (v5, x3)) else (if p1 = 1 then (bnd ((fBd x3) - (fBd F)) fun (v7 : Int32) => some (v7, x3)) else (if p1 = 2 then (bnd ((fCa x3) - (fCa F)) fun (v9 : Int32) => some (v9, x3)) else (bnd ((fSp x3) - (fSp F)) fun (v10 : Int32) => some (v10, x3))))
theorem pc_X2_countByAdding : yX2_countByAdding.cls = RX2 ∧ yX2_countByAdding.cls ≠ "java/lang/invoke/MethodHandle" ∧ yX2_countByAdding.cls ≠ "java/lang/invoke/VarHandle" ∧ (parseMethodDescriptor yX2_countByAdding.desc).map (fun d => d.parameters.length) = some 3 := by decide +kernel
abbrev rm_X2_countByAdding : Room := { frames := 5, cells := 0, slots := 0, locals := 128 }
set_option maxHeartbeats 4000000 in
set_option maxRecDepth 100000 in
theorem c_X2_countByAdding (l : Launch) (dC : Nat → ClassId) (dI : Nat → Nat → Nat) (cI cF cJ cD : ClassId) (h fa tr q0 q1 q2 q3 q4 q5 q6 q7 q8 t1 t2 t3 t4 t5 t6 t7 t8 : Nat) (rw : Nat → Option Nat) (Hb : HB) (F : FR) (Tr : FR) (p0 : Int32) (p1 : Int32) (res : (Int32 × FR)) (hf : f_X2_countByAdding Hb F Tr p0 p1 = some res) (sz : Nat) : Met l yX2_countByAdding (ws_ yX2_countByAdding cX2_countByAdding 4 (some .int)) rm_X2_countByAdding (sbPre (dC, dI) (TY cI cF cJ cD) (wHB cI cF cJ h fa tr rw Hb ++ (wFR cI cF cJ q0 q1 q2 q3 q4 q5 q6 q7 q8 F ++ (wFR cI cF cJ tr t1 t2 t3 t4 t5 t6 t7 t8 Tr))) E0 sz [.ref h, .ref q0, .int p0, .int p1]) (va_Qi (fun (r : Int32) (_ : Unit) => r = res.1) (sbEnd (dC, dI) (fun _ => wHB cI cF cJ h fa tr rw Hb ++ (wFR cI cF cJ q0 q1 q2 q3 q4 q5 q6 q7 q8 F ++ (wFR cI cF cJ tr t1 t2 t3 t4 t5 t6 t7 t8 res.2))) (va_A (wHB cI cF cJ h fa tr rw Hb ++ (wFR cI cF cJ q0 q1 q2 q3 q4 q5 q6 q7 q8 F ++ (wFR cI cF cJ tr t1 t2 t3 t4 t5 t6 t7 t8 Tr))) sz)) (va_A (wHB cI cF cJ h fa tr rw Hb ++ (wFR cI cF cJ q0 q1 q2 q3 q4 q5 q6 q7 q8 F ++ (wFR cI cF cJ tr t1 t2 t3 t4 t5 t6 t7 t8 Tr))) sz)) 0 0 (va_A (wHB cI cF cJ h fa tr rw Hb ++ (wFR cI cF cJ q0 q1 q2 q3 q4 q5 q6 q7 q8 F ++ (wFR cI cF cJ tr t1 t2 t3 t4 t5 t6 t7 t8 Tr))) sz) := by
  refine Met.ofW (cc := cX2_countByAdding) (maxL := 4) (ret := (some .int)) (by decide) rfl ?_
  intro p e s m args below meth c s₁ B hml hv
  obtain ⟨rfl, hsz, hP, hK, hD0, hE⟩ := hv
  have hx := B.exec
  have hb := B.bytes
  have hr := B.returns
  have hts0 := atoms_spec (ws := ws_ yX2_countByAdding cX2_countByAdding 4 (some .int)) B.pre
  have hts := fun (w : Cond) (h : w ∈ LW) => hts0 w (List.mem_cons_of_mem _ h)
  have hown : s.vm.findClass RX2 = some m.cls := findClass_of_methodNamed B.named
  have hlocks := B.notSynchronized
  subst hsz
  have hD := hD0.self (sz := s.heap.size)
  generalize hAe : va_A (wHB cI cF cJ h fa tr rw Hb ++ (wFR cI cF cJ q0 q1 q2 q3 q4 q5 q6 q7 q8 F ++ (wFR cI cF cJ tr t1 t2 t3 t4 t5 t6 t7 t8 Tr))) s.heap.size = A at hD ⊢
  have hA : ∀ q : Nat, s.heap.size ≤ q → A q := fun q h => by rw [← hAe]; exact Or.inr h
  have hS : va_S A s.heap s.heap [] := va_S.rf
  have hkc := Nat.zero_le rm_X2_countByAdding.cells
  have hks := Nat.zero_le rm_X2_countByAdding.slots
  have hl := lv_entry ([.ref h, .ref q0, .int p0, .int p1]) (n := 4) (Nat.le_of_ble_eq_true rfl)
  rw [lg_entry_eq]
  generalize (lg_sl ([.ref h, .ref q0, .int p0, .int p1]) ++ List.replicate (4 - (lg_sl ([.ref h, .ref q0, .int p0, .int p1])).length) Slot.unset).toArray = ls at hl ⊢
  have hl : lv_has ls 4 [(0, .ref h), (1, .ref q0), (2, .int p0), (3, .int p1)] := hl
  rw [f_X2_countByAdding] at hf
  refine lv_aload_n hx hb dX2_countByAdding_0 rfl (lv_at hl 0 rfl) ?_
  refine va_get (D := (dC, dI)) (ci := 2) (v := .ref tr) (C := RX2) (T := TX2) (N := 4) hx hb hts iX2 hown hK hP 0 rfl rfl 1 (by decide) (hts _ q154) (fun _ h9 => h9) rfl dX2_countByAdding_1 ?_
  refine lv_aload_n hx hb dX2_countByAdding_4 rfl (lv_at hl 1 rfl) ?_
  obtain ⟨x1, hx1, hf⟩ := obd_e hf
  refine sb_Vv (As := [.ref q0]) (rest := []) ⟨hx, hb, hml, hown, hts⟩ (fun sz => c_X1_copyFrom l dC dI cI cF cJ cD tr t1 t2 t3 t4 t5 t6 t7 t8 q0 q1 q2 q3 q4 q5 q6 q7 q8 Tr F  x1 hx1 sz) (cwV 1 hts (g_V q281 q282 q283 q56 q44) rfl rfl rfl pc_X1_copyFrom ⟨Nat.le_of_ble_eq_true rfl, Nat.le_of_ble_eq_true rfl⟩) 0 1 rfl rfl hK hP hD hS hA [11, 12, 13, 14, 15, 16, 17, 18, 19, 2, 3, 4, 5, 6, 7, 8, 9, 10] [0, 1] rfl rfl (by decide) (by decide) (by decide) (fun _ _ _ _ h => h) (fun _ _ _ => trivial) rfl rfl hl.1 (Nat.le_of_ble_eq_true rfl) dX2_countByAdding_5 ⟨hkc, hks⟩ (fun u H locs hr9 hP hD hS => ?_)
  have hP : va_P (dC, dI) vwCl (wHB cI cF cJ h fa tr rw Hb ++ (wFR cI cF cJ q0 q1 q2 q3 q4 q5 q6 q7 q8 F ++ (wFR cI cF cJ tr t1 t2 t3 t4 t5 t6 t7 t8 x1))) H := hP.sub [0, 1, 11, 12, 13, 14, 15, 16, 17, 18, 19, 2, 3, 4, 5, 6, 7, 8, 9, 10] rfl
  have hD : va_D A (wHB cI cF cJ h fa tr rw Hb ++ (wFR cI cF cJ q0 q1 q2 q3 q4 q5 q6 q7 q8 F ++ (wFR cI cF cJ tr t1 t2 t3 t4 t5 t6 t7 t8 x1))) := hD.sub [0, 1, 11, 12, 13, 14, 15, 16, 17, 18, 19, 2, 3, 4, 5, 6, 7, 8, 9, 10] (by decide) rfl
  refine lv_aload_n hx hb dX2_countByAdding_8 rfl (lv_at hl 0 rfl) ?_
  refine va_get (D := (dC, dI)) (ci := 2) (v := .ref tr) (C := RX2) (T := TX2) (N := 4) hx hb hts iX2 hown hK hP 0 rfl rfl 1 (by decide) (hts _ q154) (fun _ h9 => h9) rfl dX2_countByAdding_9 ?_
  refine lv_iload_n hx hb dX2_countByAdding_12 rfl (lv_at hl 2 rfl) ?_
  refine lv_i2l hx hb dX2_countByAdding_13 rfl ?_
  refine lv_topl (fun v2 ev2 => ?_)
  have hf := bnd_all hf v2 ev2
  obtain ⟨x3, hx3, hf⟩ := obd_e hf
  refine sb_Vv (As := [.long v2]) (rest := []) ⟨hx, hb, hml, hown, hts⟩ (fun sz => c_X1_bringNumber l dC dI cI cF cJ cD tr t1 t2 t3 t4 t5 t6 t7 t8 x1 v2  x3 hx3 sz) (cwV 1 hts (g_V q207 q208 q209 q56 q91) rfl rfl rfl pc_X1_bringNumber ⟨Nat.le_of_ble_eq_true rfl, Nat.le_of_ble_eq_true rfl⟩) 0 1 rfl rfl hK hP hD hS hA [11, 12, 13, 14, 15, 16, 17, 18, 19] [0, 1, 2, 3, 4, 5, 6, 7, 8, 9, 10] rfl rfl (by decide) (by decide) (by decide) (fun _ _ _ _ h => h) (fun _ _ _ => trivial) rfl rfl hl.1 (Nat.le_of_ble_eq_true rfl) dX2_countByAdding_14 ⟨hkc, hks⟩ (fun u H locs hr9 hP hD hS => ?_)
  have hP : va_P (dC, dI) vwCl (wHB cI cF cJ h fa tr rw Hb ++ (wFR cI cF cJ q0 q1 q2 q3 q4 q5 q6 q7 q8 F ++ (wFR cI cF cJ tr t1 t2 t3 t4 t5 t6 t7 t8 x3))) H := hP
  have hD : va_D A (wHB cI cF cJ h fa tr rw Hb ++ (wFR cI cF cJ q0 q1 q2 q3 q4 q5 q6 q7 q8 F ++ (wFR cI cF cJ tr t1 t2 t3 t4 t5 t6 t7 t8 x3))) := hD
  refine lv_iload_n hx hb dX2_countByAdding_17 rfl (lv_at hl 3 rfl) ?_
  by_cases c4 : p1 = 0
  · have hf := ite_t hf c4
    refine lv_tableIn (off := 26) (tgt := 44) hx hb dX2_countByAdding_18 (by rw [c4]; decide) (by rw [c4]; decide) (by rw [c4]; rfl) (by decide) ?_
    refine lv_aload_n hx hb dX2_countByAdding_44 rfl (lv_at hl 0 rfl) ?_
    refine va_get (D := (dC, dI)) (ci := 2) (v := .ref tr) (C := RX2) (T := TX2) (N := 4) hx hb hts iX2 hown hK hP 0 rfl rfl 1 (by decide) (hts _ q154) (fun _ h9 => h9) rfl dX2_countByAdding_45 ?_
    refine va_get (D := (dC, dI)) (ci := 1) (v := .int (fPu x3)) (C := RX1) (T := TX1) (N := 13) hx hb hts iX1 hown hK hP 11 rfl rfl 6 (by decide) (hts _ q195) (fun _ h9 => h9) rfl dX2_countByAdding_48 ?_
    refine lv_aload_n hx hb dX2_countByAdding_51 rfl (lv_at hl 1 rfl) ?_
    refine va_get (D := (dC, dI)) (ci := 1) (v := .int (fPu F)) (C := RX1) (T := TX1) (N := 13) hx hb hts iX1 hown hK hP 2 rfl rfl 6 (by decide) (hts _ q195) (fun _ h9 => h9) rfl dX2_countByAdding_52 ?_
    refine lv_isub hx hb dX2_countByAdding_55 ?_
    refine lv_topi (fun v5 ev5 => ?_)
    have hf := bnd_all hf v5 ev5
    obtain rfl := Option.some.inj hf
    exact W.iret (v := v5) hx hb hr (fun t ht hW => ⟨⟨_, (), rfl, rfl, by rw [ht]; exact hP, hD⟩, hS.F ht⟩) hS.2.2 dX2_countByAdding_56
  have hf := ite_f hf c4
  by_cases c6 : p1 = 1
  · have hf := ite_t hf c6
    refine lv_tableIn (off := 39) (tgt := 57) hx hb dX2_countByAdding_18 (by rw [c6]; decide) (by rw [c6]; decide) (by rw [c6]; rfl) (by decide) ?_
    refine lv_aload_n hx hb dX2_countByAdding_57 rfl (lv_at hl 0 rfl) ?_
    refine va_get (D := (dC, dI)) (ci := 2) (v := .ref tr) (C := RX2) (T := TX2) (N := 4) hx hb hts iX2 hown hK hP 0 rfl rfl 1 (by decide) (hts _ q154) (fun _ h9 => h9) rfl dX2_countByAdding_58 ?_
    refine va_get (D := (dC, dI)) (ci := 1) (v := .int (fBd x3)) (C := RX1) (T := TX1) (N := 13) hx hb hts iX1 hown hK hP 11 rfl rfl 7 (by decide) (hts _ q280) (fun _ h9 => h9) rfl dX2_countByAdding_61 ?_
    refine lv_aload_n hx hb dX2_countByAdding_64 rfl (lv_at hl 1 rfl) ?_
    refine va_get (D := (dC, dI)) (ci := 1) (v := .int (fBd F)) (C := RX1) (T := TX1) (N := 13) hx hb hts iX1 hown hK hP 2 rfl rfl 7 (by decide) (hts _ q280) (fun _ h9 => h9) rfl dX2_countByAdding_65 ?_
    refine lv_isub hx hb dX2_countByAdding_68 ?_
    refine lv_topi (fun v7 ev7 => ?_)
    have hf := bnd_all hf v7 ev7
    obtain rfl := Option.some.inj hf
    exact W.iret (v := v7) hx hb hr (fun t ht hW => ⟨⟨_, (), rfl, rfl, by rw [ht]; exact hP, hD⟩, hS.F ht⟩) hS.2.2 dX2_countByAdding_69
  have hf := ite_f hf c6
  by_cases c8 : p1 = 2
  · have hf := ite_t hf c8
    refine lv_tableIn (off := 52) (tgt := 70) hx hb dX2_countByAdding_18 (by rw [c8]; decide) (by rw [c8]; decide) (by rw [c8]; rfl) (by decide) ?_
    refine lv_aload_n hx hb dX2_countByAdding_70 rfl (lv_at hl 0 rfl) ?_
    refine va_get (D := (dC, dI)) (ci := 2) (v := .ref tr) (C := RX2) (T := TX2) (N := 4) hx hb hts iX2 hown hK hP 0 rfl rfl 1 (by decide) (hts _ q154) (fun _ h9 => h9) rfl dX2_countByAdding_71 ?_
    refine va_get (D := (dC, dI)) (ci := 1) (v := .int (fCa x3)) (C := RX1) (T := TX1) (N := 13) hx hb hts iX1 hown hK hP 11 rfl rfl 8 (by decide) (hts _ q233) (fun _ h9 => h9) rfl dX2_countByAdding_74 ?_
    refine lv_aload_n hx hb dX2_countByAdding_77 rfl (lv_at hl 1 rfl) ?_
    refine va_get (D := (dC, dI)) (ci := 1) (v := .int (fCa F)) (C := RX1) (T := TX1) (N := 13) hx hb hts iX1 hown hK hP 2 rfl rfl 8 (by decide) (hts _ q233) (fun _ h9 => h9) rfl dX2_countByAdding_78 ?_
    refine lv_isub hx hb dX2_countByAdding_81 ?_
    refine lv_topi (fun v9 ev9 => ?_)
    have hf := bnd_all hf v9 ev9
    obtain rfl := Option.some.inj hf
    exact W.iret (v := v9) hx hb hr (fun t ht hW => ⟨⟨_, (), rfl, rfl, by rw [ht]; exact hP, hD⟩, hS.F ht⟩) hS.2.2 dX2_countByAdding_82
  have hf := ite_f hf c8
  have nc4 := lv_neT c4 (a := 0) (by decide)
  have nc6 := lv_neT c6 (a := 1) (by decide)
  have nc8 := lv_neT c8 (a := 2) (by decide)
  refine lv_tableOut (tgt := 83) hx hb dX2_countByAdding_18 (by omega) (by decide) ?_
  refine lv_aload_n hx hb dX2_countByAdding_83 rfl (lv_at hl 0 rfl) ?_
  refine va_get (D := (dC, dI)) (ci := 2) (v := .ref tr) (C := RX2) (T := TX2) (N := 4) hx hb hts iX2 hown hK hP 0 rfl rfl 1 (by decide) (hts _ q154) (fun _ h9 => h9) rfl dX2_countByAdding_84 ?_
  refine va_get (D := (dC, dI)) (ci := 1) (v := .int (fSp x3)) (C := RX1) (T := TX1) (N := 13) hx hb hts iX1 hown hK hP 11 rfl rfl 10 (by decide) (hts _ q217) (fun _ h9 => h9) rfl dX2_countByAdding_87 ?_
  refine lv_aload_n hx hb dX2_countByAdding_90 rfl (lv_at hl 1 rfl) ?_
  refine va_get (D := (dC, dI)) (ci := 1) (v := .int (fSp F)) (C := RX1) (T := TX1) (N := 13) hx hb hts iX1 hown hK hP 2 rfl rfl 10 (by decide) (hts _ q217) (fun _ h9 => h9) rfl dX2_countByAdding_91 ?_
  refine lv_isub hx hb dX2_countByAdding_94 ?_
  refine lv_topi (fun v10 ev10 => ?_)
  have hf := bnd_all hf v10 ev10
  obtain rfl := Option.some.inj hf
  exact W.iret (v := v10) hx hb hr (fun t ht hW => ⟨⟨_, (), rfl, rfl, by rw [ht]; exact hP, hD⟩, hS.F ht⟩) hS.2.2 dX2_countByAdding_95
noncomputable def f_X2_secondsByAdding (Hb : HB) (F : FR) (Tr : FR) (p0 : Int32) : Option (UInt64 × FR) := obd (f_X1_copyFrom Tr F) fun x1 => bnd (p0.toInt64) fun (v2 : Int64) => obd (f_X1_bringNumber x1 v2) fun x3 => gd (nn64 (FP.f2d (fSe x3))) <| bnd (FP.f2d (fSe x3)) fun (v5 : UInt64) => gd (nn64 (FP.f2d (fSe F))) <| bnd (FP.f2d (fSe F)) fun (v7 : UInt64) => gd (nn64 (FP.dsub v5 v7)) <| bnd (FP.dsub v5 v7) fun (v9 : UInt64) => some (v9, x3)
theorem pc_X2_secondsByAdding : yX2_secondsByAdding.cls = RX2 ∧ yX2_secondsByAdding.cls ≠ "java/lang/invoke/MethodHandle" ∧ yX2_secondsByAdding.cls ≠ "java/lang/invoke/VarHandle" ∧ (parseMethodDescriptor yX2_secondsByAdding.desc).map (fun d => d.parameters.length) = some 2 := by decide +kernel
abbrev rm_X2_secondsByAdding : Room := { frames := 5, cells := 0, slots := 0, locals := 128 }
set_option maxHeartbeats 4000000 in
set_option maxRecDepth 100000 in
theorem c_X2_secondsByAdding (l : Launch) (dC : Nat → ClassId) (dI : Nat → Nat → Nat) (cI cF cJ cD : ClassId) (h fa tr q0 q1 q2 q3 q4 q5 q6 q7 q8 t1 t2 t3 t4 t5 t6 t7 t8 : Nat) (rw : Nat → Option Nat) (Hb : HB) (F : FR) (Tr : FR) (p0 : Int32) (res : (UInt64 × FR)) (hf : f_X2_secondsByAdding Hb F Tr p0 = some res) (sz : Nat) : Met l yX2_secondsByAdding (ws_ yX2_secondsByAdding cX2_secondsByAdding 3 (some .double)) rm_X2_secondsByAdding (sbPre (dC, dI) (TY cI cF cJ cD) (wHB cI cF cJ h fa tr rw Hb ++ (wFR cI cF cJ q0 q1 q2 q3 q4 q5 q6 q7 q8 F ++ (wFR cI cF cJ tr t1 t2 t3 t4 t5 t6 t7 t8 Tr))) E0 sz [.ref h, .ref q0, .int p0]) (va_Qd (fun (r : UInt64) (_ : Unit) => r = res.1) (sbEnd (dC, dI) (fun _ => wHB cI cF cJ h fa tr rw Hb ++ (wFR cI cF cJ q0 q1 q2 q3 q4 q5 q6 q7 q8 F ++ (wFR cI cF cJ tr t1 t2 t3 t4 t5 t6 t7 t8 res.2))) (va_A (wHB cI cF cJ h fa tr rw Hb ++ (wFR cI cF cJ q0 q1 q2 q3 q4 q5 q6 q7 q8 F ++ (wFR cI cF cJ tr t1 t2 t3 t4 t5 t6 t7 t8 Tr))) sz)) (va_A (wHB cI cF cJ h fa tr rw Hb ++ (wFR cI cF cJ q0 q1 q2 q3 q4 q5 q6 q7 q8 F ++ (wFR cI cF cJ tr t1 t2 t3 t4 t5 t6 t7 t8 Tr))) sz)) 0 0 (va_A (wHB cI cF cJ h fa tr rw Hb ++ (wFR cI cF cJ q0 q1 q2 q3 q4 q5 q6 q7 q8 F ++ (wFR cI cF cJ tr t1 t2 t3 t4 t5 t6 t7 t8 Tr))) sz) := by
  refine Met.ofW (cc := cX2_secondsByAdding) (maxL := 3) (ret := (some .double)) (by decide) rfl ?_
  intro p e s m args below meth c s₁ B hml hv
  obtain ⟨rfl, hsz, hP, hK, hD0, hE⟩ := hv
  have hx := B.exec
  have hb := B.bytes
  have hr := B.returns
  have hts0 := atoms_spec (ws := ws_ yX2_secondsByAdding cX2_secondsByAdding 3 (some .double)) B.pre
  have hts := fun (w : Cond) (h : w ∈ LW) => hts0 w (List.mem_cons_of_mem _ h)
  have hown : s.vm.findClass RX2 = some m.cls := findClass_of_methodNamed B.named
  have hlocks := B.notSynchronized
  subst hsz
  have hD := hD0.self (sz := s.heap.size)
  generalize hAe : va_A (wHB cI cF cJ h fa tr rw Hb ++ (wFR cI cF cJ q0 q1 q2 q3 q4 q5 q6 q7 q8 F ++ (wFR cI cF cJ tr t1 t2 t3 t4 t5 t6 t7 t8 Tr))) s.heap.size = A at hD ⊢
  have hA : ∀ q : Nat, s.heap.size ≤ q → A q := fun q h => by rw [← hAe]; exact Or.inr h
  have hS : va_S A s.heap s.heap [] := va_S.rf
  have hkc := Nat.zero_le rm_X2_secondsByAdding.cells
  have hks := Nat.zero_le rm_X2_secondsByAdding.slots
  have hl := lv_entry ([.ref h, .ref q0, .int p0]) (n := 3) (Nat.le_of_ble_eq_true rfl)
  rw [lg_entry_eq]
  generalize (lg_sl ([.ref h, .ref q0, .int p0]) ++ List.replicate (3 - (lg_sl ([.ref h, .ref q0, .int p0])).length) Slot.unset).toArray = ls at hl ⊢
  have hl : lv_has ls 3 [(0, .ref h), (1, .ref q0), (2, .int p0)] := hl
  rw [f_X2_secondsByAdding] at hf
  refine lv_aload_n hx hb dX2_secondsByAdding_0 rfl (lv_at hl 0 rfl) ?_
  refine va_get (D := (dC, dI)) (ci := 2) (v := .ref tr) (C := RX2) (T := TX2) (N := 4) hx hb hts iX2 hown hK hP 0 rfl rfl 1 (by decide) (hts _ q154) (fun _ h9 => h9) rfl dX2_secondsByAdding_1 ?_
  refine lv_aload_n hx hb dX2_secondsByAdding_4 rfl (lv_at hl 1 rfl) ?_
  obtain ⟨x1, hx1, hf⟩ := obd_e hf
  refine sb_Vv (As := [.ref q0]) (rest := []) ⟨hx, hb, hml, hown, hts⟩ (fun sz => c_X1_copyFrom l dC dI cI cF cJ cD tr t1 t2 t3 t4 t5 t6 t7 t8 q0 q1 q2 q3 q4 q5 q6 q7 q8 Tr F  x1 hx1 sz) (cwV 1 hts (g_V q281 q282 q283 q56 q44) rfl rfl rfl pc_X1_copyFrom ⟨Nat.le_of_ble_eq_true rfl, Nat.le_of_ble_eq_true rfl⟩) 0 1 rfl rfl hK hP hD hS hA [11, 12, 13, 14, 15, 16, 17, 18, 19, 2, 3, 4, 5, 6, 7, 8, 9, 10] [0, 1] rfl rfl (by decide) (by decide) (by decide) (fun _ _ _ _ h => h) (fun _ _ _ => trivial) rfl rfl hl.1 (Nat.le_of_ble_eq_true rfl) dX2_secondsByAdding_5 ⟨hkc, hks⟩ (fun u H locs hr9 hP hD hS => ?_)
  have hP : va_P (dC, dI) vwCl (wHB cI cF cJ h fa tr rw Hb ++ (wFR cI cF cJ q0 q1 q2 q3 q4 q5 q6 q7 q8 F ++ (wFR cI cF cJ tr t1 t2 t3 t4 t5 t6 t7 t8 x1))) H := hP.sub [0, 1, 11, 12, 13, 14, 15, 16, 17, 18, 19, 2, 3, 4, 5, 6, 7, 8, 9, 10] rfl
  have hD : va_D A (wHB cI cF cJ h fa tr rw Hb ++ (wFR cI cF cJ q0 q1 q2 q3 q4 q5 q6 q7 q8 F ++ (wFR cI cF cJ tr t1 t2 t3 t4 t5 t6 t7 t8 x1))) := hD.sub [0, 1, 11, 12, 13, 14, 15, 16, 17, 18, 19, 2, 3, 4, 5, 6, 7, 8, 9, 10] (by decide) rfl
  refine lv_aload_n hx hb dX2_secondsByAdding_8 rfl (lv_at hl 0 rfl) ?_
  refine va_get (D := (dC, dI)) (ci := 2) (v := .ref tr) (C := RX2) (T := TX2) (N := 4) hx hb hts iX2 hown hK hP 0 rfl rfl 1 (by decide) (hts _ q154) (fun _ h9 => h9) rfl dX2_secondsByAdding_9 ?_
  refine lv_iload_n hx hb dX2_secondsByAdding_12 rfl (lv_at hl 2 rfl) ?_
  refine lv_i2l hx hb dX2_secondsByAdding_13 rfl ?_
  refine lv_topl (fun v2 ev2 => ?_)
  have hf := bnd_all hf v2 ev2
  obtain ⟨x3, hx3, hf⟩ := obd_e hf
  refine sb_Vv (As := [.long v2]) (rest := []) ⟨hx, hb, hml, hown, hts⟩ (fun sz => c_X1_bringNumber l dC dI cI cF cJ cD tr t1 t2 t3 t4 t5 t6 t7 t8 x1 v2  x3 hx3 sz) (cwV 1 hts (g_V q207 q208 q209 q56 q91) rfl rfl rfl pc_X1_bringNumber ⟨Nat.le_of_ble_eq_true rfl, Nat.le_of_ble_eq_true rfl⟩) 0 1 rfl rfl hK hP hD hS hA [11, 12, 13, 14, 15, 16, 17, 18, 19] [0, 1, 2, 3, 4, 5, 6, 7, 8, 9, 10] rfl rfl (by decide) (by decide) (by decide) (fun _ _ _ _ h => h) (fun _ _ _ => trivial) rfl rfl hl.1 (Nat.le_of_ble_eq_true rfl) dX2_secondsByAdding_14 ⟨hkc, hks⟩ (fun u H locs hr9 hP hD hS => ?_)
  have hP : va_P (dC, dI) vwCl (wHB cI cF cJ h fa tr rw Hb ++ (wFR cI cF cJ q0 q1 q2 q3 q4 q5 q6 q7 q8 F ++ (wFR cI cF cJ tr t1 t2 t3 t4 t5 t6 t7 t8 x3))) H := hP
  have hD : va_D A (wHB cI cF cJ h fa tr rw Hb ++ (wFR cI cF cJ q0 q1 q2 q3 q4 q5 q6 q7 q8 F ++ (wFR cI cF cJ tr t1 t2 t3 t4 t5 t6 t7 t8 x3))) := hD
  refine lv_aload_n hx hb dX2_secondsByAdding_17 rfl (lv_at hl 0 rfl) ?_
  refine va_get (D := (dC, dI)) (ci := 2) (v := .ref tr) (C := RX2) (T := TX2) (N := 4) hx hb hts iX2 hown hK hP 0 rfl rfl 1 (by decide) (hts _ q154) (fun _ h9 => h9) rfl dX2_secondsByAdding_18 ?_
  refine va_get (D := (dC, dI)) (ci := 1) (v := .float (fSe x3)) (C := RX1) (T := TX1) (N := 13) hx hb hts iX1 hown hK hP 11 rfl rfl 5 (by decide) (hts _ q261) (fun _ h9 => h9) rfl dX2_secondsByAdding_21 ?_
  obtain ⟨g4, hf⟩ := gd_e hf
  refine lv_f2d hx hb dX2_secondsByAdding_24 (nn64_e g4) ?_
  refine lv_topd (fun v5 ev5 => ?_)
  have hf := bnd_all hf v5 ev5
  refine lv_aload_n hx hb dX2_secondsByAdding_25 rfl (lv_at hl 1 rfl) ?_
  refine va_get (D := (dC, dI)) (ci := 1) (v := .float (fSe F)) (C := RX1) (T := TX1) (N := 13) hx hb hts iX1 hown hK hP 2 rfl rfl 5 (by decide) (hts _ q261) (fun _ h9 => h9) rfl dX2_secondsByAdding_26 ?_
  obtain ⟨g6, hf⟩ := gd_e hf
  refine lv_f2d hx hb dX2_secondsByAdding_29 (nn64_e g6) ?_
  refine lv_topd (fun v7 ev7 => ?_)
  have hf := bnd_all hf v7 ev7
  obtain ⟨g8, hf⟩ := gd_e hf
  refine lv_dsub hx hb dX2_secondsByAdding_30 (nn64_e g8) ?_
  refine lv_topd (fun v9 ev9 => ?_)
  have hf := bnd_all hf v9 ev9
  obtain rfl := Option.some.inj hf
  exact W.dret (v := v9) hx hb hr (fun t ht hW => ⟨⟨_, (), rfl, rfl, by rw [ht]; exact hP, hD⟩, hS.F ht⟩) hS.2.2 dX2_secondsByAdding_31
noncomputable def l_X2_hardestDigit_8 (c2 : Int32) (R0 : HB) (R1 : FR) (k : Int32 → Int32 → Int32 → FR → Option (Int32 × FR)) : Nat → Int32 → Int32 → Int32 → FR → Option (Int32 × FR)
  | 0, _, _, _, _ => none
  | n + 1, a1, a2, a3, F4 => if (9 : Int32) < a3 then (k a1 a2 a3 F4) else (obd (f_X1_copyFrom F4 R1) fun x6 => obd (f_X1_bring x6 c2 a3) fun x7 => bnd ((fPu x7) - (fPu R1)) fun (v8 : Int32) => if v8 ≤ a2 then (bnd (a3 + 1) fun (v10 : Int32) => l_X2_hardestDigit_8 c2 R0 R1 k n a1 a2 v10 x7) else (bnd (a3 + 1) fun (v11 : Int32) => l_X2_hardestDigit_8 c2 R0 R1 k n a3 v8 v11 x7))
noncomputable def f_X2_hardestDigit (Hb : HB) (F : FR) (Tr : FR) (p0 : Int32) : Option (Int32 × FR) := l_X2_hardestDigit_8 p0 Hb F (fun (a27 : Int32) (a28 : Int32) (a29 : Int32) (F30 : FR) => some (a27, F30)) 16 (-1) (-1) 1 Tr
theorem pc_X2_hardestDigit : yX2_hardestDigit.cls = RX2 ∧ yX2_hardestDigit.cls ≠ "java/lang/invoke/MethodHandle" ∧ yX2_hardestDigit.cls ≠ "java/lang/invoke/VarHandle" ∧ (parseMethodDescriptor yX2_hardestDigit.desc).map (fun d => d.parameters.length) = some 2 := by decide +kernel
abbrev rm_X2_hardestDigit : Room := { frames := 4, cells := 0, slots := 0, locals := 105 }
set_option maxHeartbeats 4000000 in
set_option maxRecDepth 100000 in
theorem c_X2_hardestDigit (l : Launch) (dC : Nat → ClassId) (dI : Nat → Nat → Nat) (cI cF cJ cD : ClassId) (h fa tr q0 q1 q2 q3 q4 q5 q6 q7 q8 t1 t2 t3 t4 t5 t6 t7 t8 : Nat) (rw : Nat → Option Nat) (Hb : HB) (F : FR) (Tr : FR) (p0 : Int32) (res : (Int32 × FR)) (hf : f_X2_hardestDigit Hb F Tr p0 = some res) (sz : Nat) : Met l yX2_hardestDigit (ws_ yX2_hardestDigit cX2_hardestDigit 7 (some .int)) rm_X2_hardestDigit (sbPre (dC, dI) (TY cI cF cJ cD) (wHB cI cF cJ h fa tr rw Hb ++ (wFR cI cF cJ q0 q1 q2 q3 q4 q5 q6 q7 q8 F ++ (wFR cI cF cJ tr t1 t2 t3 t4 t5 t6 t7 t8 Tr))) E0 sz [.ref h, .ref q0, .int p0]) (va_Qi (fun (r : Int32) (_ : Unit) => r = res.1) (sbEnd (dC, dI) (fun _ => wHB cI cF cJ h fa tr rw Hb ++ (wFR cI cF cJ q0 q1 q2 q3 q4 q5 q6 q7 q8 F ++ (wFR cI cF cJ tr t1 t2 t3 t4 t5 t6 t7 t8 res.2))) (va_A (wHB cI cF cJ h fa tr rw Hb ++ (wFR cI cF cJ q0 q1 q2 q3 q4 q5 q6 q7 q8 F ++ (wFR cI cF cJ tr t1 t2 t3 t4 t5 t6 t7 t8 Tr))) sz)) (va_A (wHB cI cF cJ h fa tr rw Hb ++ (wFR cI cF cJ q0 q1 q2 q3 q4 q5 q6 q7 q8 F ++ (wFR cI cF cJ tr t1 t2 t3 t4 t5 t6 t7 t8 Tr))) sz)) 0 0 (va_A (wHB cI cF cJ h fa tr rw Hb ++ (wFR cI cF cJ q0 q1 q2 q3 q4 q5 q6 q7 q8 F ++ (wFR cI cF cJ tr t1 t2 t3 t4 t5 t6 t7 t8 Tr))) sz) := by
  refine Met.ofW (cc := cX2_hardestDigit) (maxL := 7) (ret := (some .int)) (by decide) rfl ?_
  intro p e s m args below meth c s₁ B hml hv
  obtain ⟨rfl, hsz, hP, hK, hD0, hE⟩ := hv
  have hx := B.exec
  have hb := B.bytes
  have hr := B.returns
  have hts0 := atoms_spec (ws := ws_ yX2_hardestDigit cX2_hardestDigit 7 (some .int)) B.pre
  have hts := fun (w : Cond) (h : w ∈ LW) => hts0 w (List.mem_cons_of_mem _ h)
  have hown : s.vm.findClass RX2 = some m.cls := findClass_of_methodNamed B.named
  have hlocks := B.notSynchronized
  subst hsz
  have hD := hD0.self (sz := s.heap.size)
  generalize hAe : va_A (wHB cI cF cJ h fa tr rw Hb ++ (wFR cI cF cJ q0 q1 q2 q3 q4 q5 q6 q7 q8 F ++ (wFR cI cF cJ tr t1 t2 t3 t4 t5 t6 t7 t8 Tr))) s.heap.size = A at hD ⊢
  have hA : ∀ q : Nat, s.heap.size ≤ q → A q := fun q h => by rw [← hAe]; exact Or.inr h
  have hS : va_S A s.heap s.heap [] := va_S.rf
  have hkc := Nat.zero_le rm_X2_hardestDigit.cells
  have hks := Nat.zero_le rm_X2_hardestDigit.slots
  have hl := lv_entry ([.ref h, .ref q0, .int p0]) (n := 7) (Nat.le_of_ble_eq_true rfl)
  rw [lg_entry_eq]
  generalize (lg_sl ([.ref h, .ref q0, .int p0]) ++ List.replicate (7 - (lg_sl ([.ref h, .ref q0, .int p0])).length) Slot.unset).toArray = ls at hl ⊢
  have hl : lv_has ls 7 [(0, .ref h), (1, .ref q0), (2, .int p0)] := hl
  rw [f_X2_hardestDigit] at hf
  refine lv_iconst (v := (-1)) hx hb dX2_hardestDigit_0 (by decide) ?_
  refine lv_istore_n (lv' := [(3, .int (-1)), (0, .ref h), (1, .ref q0), (2, .int p0)]) hx hb dX2_hardestDigit_1 rfl hl (by decide) rfl (fun ls hl => ?_)
  refine lv_iconst (v := (-1)) hx hb dX2_hardestDigit_2 (by decide) ?_
  refine lv_istore (lv' := [(4, .int (-1)), (3, .int (-1)), (0, .ref h), (1, .ref q0), (2, .int p0)]) hx hb dX2_hardestDigit_3 hl (by decide) rfl (fun ls hl => ?_)
  refine lv_iconst (v := 1) hx hb dX2_hardestDigit_5 (by decide) ?_
  refine lv_istore (lv' := [(5, .int 1), (4, .int (-1)), (3, .int (-1)), (0, .ref h), (1, .ref q0), (2, .int p0)]) hx hb dX2_hardestDigit_6 hl (by decide) rfl (fun ls hl => ?_)
  have L8 : ∀ (k : Int32 → Int32 → Int32 → FR → Option (Int32 × FR)), (∀ (a12 : Int32) (a13 : Int32) (a14 : Int32) (F15 : FR) (H : Heap) (locs : List Loc) (ls : Array Slot), va_P (dC, dI) vwCl (wHB cI cF cJ h fa tr rw Hb ++ (wFR cI cF cJ q0 q1 q2 q3 q4 q5 q6 q7 q8 F ++ (wFR cI cF cJ tr t1 t2 t3 t4 t5 t6 t7 t8 F15))) H → va_D A (wHB cI cF cJ h fa tr rw Hb ++ (wFR cI cF cJ q0 q1 q2 q3 q4 q5 q6 q7 q8 F ++ (wFR cI cF cJ tr t1 t2 t3 t4 t5 t6 t7 t8 F15))) → va_S A s.heap H locs → lv_has ls 7 [(3, .int a12)] → k a12 a13 a14 F15 = some res → W p l e (headSpec (ws_ yX2_hardestDigit cX2_hardestDigit 7 (some .int)) rm_X2_hardestDigit).room s m ([.ref h, .ref q0, .int p0].toArray) below meth c H locs 0 0 (MQ below (va_Qi (fun (r : Int32) (_ : Unit) => r = res.1) (sbEnd (dC, dI) (fun _ => wHB cI cF cJ h fa tr rw Hb ++ (wFR cI cF cJ q0 q1 q2 q3 q4 q5 q6 q7 q8 F ++ (wFR cI cF cJ tr t1 t2 t3 t4 t5 t6 t7 t8 res.2))) (A)) (A)) ([.ref h, .ref q0, .int p0].toArray) s 0 0 A) (F0 m 67 ls [])) → ∀ (n : Nat) (a12 : Int32) (a13 : Int32) (a14 : Int32) (F15 : FR) (H : Heap) (locs : List Loc) (ls : Array Slot), va_P (dC, dI) vwCl (wHB cI cF cJ h fa tr rw Hb ++ (wFR cI cF cJ q0 q1 q2 q3 q4 q5 q6 q7 q8 F ++ (wFR cI cF cJ tr t1 t2 t3 t4 t5 t6 t7 t8 F15))) H → va_D A (wHB cI cF cJ h fa tr rw Hb ++ (wFR cI cF cJ q0 q1 q2 q3 q4 q5 q6 q7 q8 F ++ (wFR cI cF cJ tr t1 t2 t3 t4 t5 t6 t7 t8 F15))) → va_S A s.heap H locs → lv_has ls 7 [(3, .int a12), (4, .int a13), (5, .int a14), (0, .ref h), (1, .ref q0), (2, .int p0)] → l_X2_hardestDigit_8 p0 Hb F k n a12 a13 a14 F15 = some res → W p l e (headSpec (ws_ yX2_hardestDigit cX2_hardestDigit 7 (some .int)) rm_X2_hardestDigit).room s m ([.ref h, .ref q0, .int p0].toArray) below meth c H locs 0 0 (MQ below (va_Qi (fun (r : Int32) (_ : Unit) => r = res.1) (sbEnd (dC, dI) (fun _ => wHB cI cF cJ h fa tr rw Hb ++ (wFR cI cF cJ q0 q1 q2 q3 q4 q5 q6 q7 q8 F ++ (wFR cI cF cJ tr t1 t2 t3 t4 t5 t6 t7 t8 res.2))) (A)) (A)) ([.ref h, .ref q0, .int p0].toArray) s 0 0 A) (F0 m 8 ls []) := by
    intro k hk n
    induction n with
    | zero =>
      intro a16 a17 a18 F19 H locs ls hP hD hS hl hf
      rw [l_X2_hardestDigit_8] at hf
      cases hf
    | succ n ih =>
      intro a16 a17 a18 F19 H locs ls hP hD hS hl hf
      rw [l_X2_hardestDigit_8] at hf
      refine lv_iload hx hb dX2_hardestDigit_8 (lv_at hl 2 rfl) ?_
      refine lv_bipush (v := 9) hx hb dX2_hardestDigit_10 (by decide) ?_
      refine lv_icmp_gt (tgt := 67) hx hb dX2_hardestDigit_12 (by decide) (fun c20 => ?_) (fun c20 => ?_)
      · have hf := ite_t hf c20
        exact hk a16 a17 a18 F19 _ _ _ hP hD hS (lv_sub hl [0] rfl) hf
      · have hf := ite_f hf c20
        refine lv_aload_n hx hb dX2_hardestDigit_15 rfl (lv_at hl 3 rfl) ?_
        refine va_get (D := (dC, dI)) (ci := 2) (v := .ref tr) (C := RX2) (T := TX2) (N := 4) hx hb hts iX2 hown hK hP 0 rfl rfl 1 (by decide) (hts _ q154) (fun _ h9 => h9) rfl dX2_hardestDigit_16 ?_
        refine lv_aload_n hx hb dX2_hardestDigit_19 rfl (lv_at hl 4 rfl) ?_
        obtain ⟨x21, hx21, hf⟩ := obd_e hf
        refine sb_Vv (As := [.ref q0]) (rest := []) ⟨hx, hb, hml, hown, hts⟩ (fun sz => c_X1_copyFrom l dC dI cI cF cJ cD tr t1 t2 t3 t4 t5 t6 t7 t8 q0 q1 q2 q3 q4 q5 q6 q7 q8 F19 F  x21 hx21 sz) (cwV 1 hts (g_V q281 q282 q283 q56 q44) rfl rfl rfl pc_X1_copyFrom ⟨Nat.le_of_ble_eq_true rfl, Nat.le_of_ble_eq_true rfl⟩) 0 1 rfl rfl hK hP hD hS hA [11, 12, 13, 14, 15, 16, 17, 18, 19, 2, 3, 4, 5, 6, 7, 8, 9, 10] [0, 1] rfl rfl (by decide) (by decide) (by decide) (fun _ _ _ _ h => h) (fun _ _ _ => trivial) rfl rfl hl.1 (Nat.le_of_ble_eq_true rfl) dX2_hardestDigit_20 ⟨hkc, hks⟩ (fun u H locs hr9 hP hD hS => ?_)
        have hP : va_P (dC, dI) vwCl (wHB cI cF cJ h fa tr rw Hb ++ (wFR cI cF cJ q0 q1 q2 q3 q4 q5 q6 q7 q8 F ++ (wFR cI cF cJ tr t1 t2 t3 t4 t5 t6 t7 t8 x21))) H := hP.sub [0, 1, 11, 12, 13, 14, 15, 16, 17, 18, 19, 2, 3, 4, 5, 6, 7, 8, 9, 10] rfl
        have hD : va_D A (wHB cI cF cJ h fa tr rw Hb ++ (wFR cI cF cJ q0 q1 q2 q3 q4 q5 q6 q7 q8 F ++ (wFR cI cF cJ tr t1 t2 t3 t4 t5 t6 t7 t8 x21))) := hD.sub [0, 1, 11, 12, 13, 14, 15, 16, 17, 18, 19, 2, 3, 4, 5, 6, 7, 8, 9, 10] (by decide) rfl
        refine lv_aload_n hx hb dX2_hardestDigit_23 rfl (lv_at hl 3 rfl) ?_
        refine va_get (D := (dC, dI)) (ci := 2) (v := .ref tr) (C := RX2) (T := TX2) (N := 4) hx hb hts iX2 hown hK hP 0 rfl rfl 1 (by decide) (hts _ q154) (fun _ h9 => h9) rfl dX2_hardestDigit_24 ?_
        refine lv_iload_n hx hb dX2_hardestDigit_27 rfl (lv_at hl 5 rfl) ?_
        refine lv_iload hx hb dX2_hardestDigit_28 (lv_at hl 2 rfl) ?_
        obtain ⟨x22, hx22, hf⟩ := obd_e hf
        refine sb_Vv (As := [.int p0, .int a18]) (rest := []) ⟨hx, hb, hml, hown, hts⟩ (fun sz => c_X1_bring l dC dI cI cF cJ cD tr t1 t2 t3 t4 t5 t6 t7 t8 x21 p0 a18  x22 hx22 sz) (cwV 2 hts (g_V q300 q89 q90 q56 q87) rfl rfl rfl pc_X1_bring ⟨Nat.le_of_ble_eq_true rfl, Nat.le_of_ble_eq_true rfl⟩) 0 1 rfl rfl hK hP hD hS hA [11, 12, 13, 14, 15, 16, 17, 18, 19] [0, 1, 2, 3, 4, 5, 6, 7, 8, 9, 10] rfl rfl (by decide) (by decide) (by decide) (fun _ _ _ _ h => h) (fun _ _ _ => trivial) rfl rfl hl.1 (Nat.le_of_ble_eq_true rfl) dX2_hardestDigit_30 ⟨hkc, hks⟩ (fun u H locs hr9 hP hD hS => ?_)
        have hP : va_P (dC, dI) vwCl (wHB cI cF cJ h fa tr rw Hb ++ (wFR cI cF cJ q0 q1 q2 q3 q4 q5 q6 q7 q8 F ++ (wFR cI cF cJ tr t1 t2 t3 t4 t5 t6 t7 t8 x22))) H := hP
        have hD : va_D A (wHB cI cF cJ h fa tr rw Hb ++ (wFR cI cF cJ q0 q1 q2 q3 q4 q5 q6 q7 q8 F ++ (wFR cI cF cJ tr t1 t2 t3 t4 t5 t6 t7 t8 x22))) := hD
        refine lv_aload_n hx hb dX2_hardestDigit_33 rfl (lv_at hl 3 rfl) ?_
        refine va_get (D := (dC, dI)) (ci := 2) (v := .ref tr) (C := RX2) (T := TX2) (N := 4) hx hb hts iX2 hown hK hP 0 rfl rfl 1 (by decide) (hts _ q154) (fun _ h9 => h9) rfl dX2_hardestDigit_34 ?_
        refine va_get (D := (dC, dI)) (ci := 1) (v := .int (fPu x22)) (C := RX1) (T := TX1) (N := 13) hx hb hts iX1 hown hK hP 11 rfl rfl 6 (by decide) (hts _ q195) (fun _ h9 => h9) rfl dX2_hardestDigit_37 ?_
        refine lv_aload_n hx hb dX2_hardestDigit_40 rfl (lv_at hl 4 rfl) ?_
        refine va_get (D := (dC, dI)) (ci := 1) (v := .int (fPu F)) (C := RX1) (T := TX1) (N := 13) hx hb hts iX1 hown hK hP 2 rfl rfl 6 (by decide) (hts _ q195) (fun _ h9 => h9) rfl dX2_hardestDigit_41 ?_
        refine lv_isub hx hb dX2_hardestDigit_44 ?_
        refine lv_topi (fun v23 ev23 => ?_)
        have hf := bnd_all hf v23 ev23
        refine lv_istore (lv' := [(6, .int v23), (3, .int a16), (4, .int a17), (5, .int a18), (0, .ref h), (1, .ref q0), (2, .int p0)]) hx hb dX2_hardestDigit_45 hl (by decide) rfl (fun ls hl => ?_)
        refine lv_iload hx hb dX2_hardestDigit_47 (lv_at hl 0 rfl) ?_
        refine lv_iload hx hb dX2_hardestDigit_49 (lv_at hl 2 rfl) ?_
        refine lv_icmp_le (tgt := 61) hx hb dX2_hardestDigit_51 (by decide) (fun c24 => ?_) (fun c24 => ?_)
        · have hf := ite_t hf c24
          obtain ⟨v25, ev25⟩ : ∃ y : Int32, y = a18 + 1 := ⟨_, rfl⟩
          have hf := bnd_all hf v25 ev25
          refine lv_iinc (v := v25) (lv' := [(5, .int v25), (6, .int v23), (3, .int a16), (4, .int a17), (0, .ref h), (1, .ref q0), (2, .int p0)]) hx hb dX2_hardestDigit_61 hl (k := 3) rfl (by rw [ev25]; rfl) (by decide) rfl (fun ls hl => ?_)
          refine lv_goto (tgt := 8) hx hb dX2_hardestDigit_64 (by decide) ?_
          exact ih a16 a17 v25 x22 _ _ _ hP hD hS (lv_sub hl [2, 3, 0, 4, 5, 6] rfl) hf
        · have hf := ite_f hf c24
          refine lv_iload hx hb dX2_hardestDigit_54 (lv_at hl 0 rfl) ?_
          refine lv_istore (lv' := [(4, .int v23), (6, .int v23), (3, .int a16), (5, .int a18), (0, .ref h), (1, .ref q0), (2, .int p0)]) hx hb dX2_hardestDigit_56 hl (by decide) rfl (fun ls hl => ?_)
          refine lv_iload hx hb dX2_hardestDigit_58 (lv_at hl 3 rfl) ?_
          refine lv_istore_n (lv' := [(3, .int a18), (4, .int v23), (6, .int v23), (5, .int a18), (0, .ref h), (1, .ref q0), (2, .int p0)]) hx hb dX2_hardestDigit_60 rfl hl (by decide) rfl (fun ls hl => ?_)
          obtain ⟨v26, ev26⟩ : ∃ y : Int32, y = a18 + 1 := ⟨_, rfl⟩
          have hf := bnd_all hf v26 ev26
          refine lv_iinc (v := v26) (lv' := [(5, .int v26), (3, .int a18), (4, .int v23), (6, .int v23), (0, .ref h), (1, .ref q0), (2, .int p0)]) hx hb dX2_hardestDigit_61 hl (k := 3) rfl (by rw [ev26]; rfl) (by decide) rfl (fun ls hl => ?_)
          refine lv_goto (tgt := 8) hx hb dX2_hardestDigit_64 (by decide) ?_
          exact ih a18 v23 v26 x22 _ _ _ hP hD hS (lv_sub hl [1, 2, 0, 4, 5, 6] rfl) hf
  refine L8 _ (fun a27 a28 a29 F30 H locs ls hP hD hS hl hf => ?_) 16 (-1) (-1) 1 Tr _ _ _ hP hD hS (lv_sub hl [2, 1, 0, 3, 4, 5] rfl) hf
  refine lv_iload_n hx hb dX2_hardestDigit_67 rfl (lv_at hl 0 rfl) ?_
  obtain rfl := Option.some.inj hf
  exact W.iret (v := a27) hx hb hr (fun t ht hW => ⟨⟨_, (), rfl, rfl, by rw [ht]; exact hP, hD⟩, hS.F ht⟩) hS.2.2 dX2_hardestDigit_68
noncomputable def f_X2_would (Hb : HB) (F : FR) (Tr : FR) (p0 : Int32) (p1 : Int32) (p2 : Int32) : Option (Int32 × FR) := obd (f_X2_foundFrame Hb p0) fun x1 => obd (f_X2_refuseUnlessFits F p1) fun x2 => obd (f_X2_refuseUnlessBelow p2 4) fun x3 => obd (f_X2_countByAdding Hb F Tr p1 p2) fun x4 => some (x4.1, x4.2)
theorem pc_X2_would : yX2_would.cls = RX2 ∧ yX2_would.cls ≠ "java/lang/invoke/MethodHandle" ∧ yX2_would.cls ≠ "java/lang/invoke/VarHandle" ∧ (parseMethodDescriptor yX2_would.desc).map (fun d => d.parameters.length) = some 3 := by decide +kernel
abbrev rm_X2_would : Room := { frames := 6, cells := 0, slots := 0, locals := 151 }
set_option maxHeartbeats 4000000 in
set_option maxRecDepth 100000 in
theorem c_X2_would (l : Launch) (dC : Nat → ClassId) (dI : Nat → Nat → Nat) (cI cF cJ cD : ClassId) (h fa tr q0 q1 q2 q3 q4 q5 q6 q7 q8 t1 t2 t3 t4 t5 t6 t7 t8 : Nat) (rw : Nat → Option Nat) (Hb : HB) (F : FR) (Tr : FR) (p0 : Int32) (p1 : Int32) (p2 : Int32) (hq : f_X2_frameAt rw p0 = some (some q0)) (res : (Int32 × FR)) (hf : f_X2_would Hb F Tr p0 p1 p2 = some res) (sz : Nat) : Met l yX2_would (ws_ yX2_would cX2_would 5 (some .int)) rm_X2_would (sbPre (dC, dI) (TY cI cF cJ cD) (wHB cI cF cJ h fa tr rw Hb ++ (wFR cI cF cJ q0 q1 q2 q3 q4 q5 q6 q7 q8 F ++ (wFR cI cF cJ tr t1 t2 t3 t4 t5 t6 t7 t8 Tr))) E0 sz [.ref h, .int p0, .int p1, .int p2]) (va_Qi (fun (r : Int32) (_ : Unit) => r = res.1) (sbEnd (dC, dI) (fun _ => wHB cI cF cJ h fa tr rw Hb ++ (wFR cI cF cJ q0 q1 q2 q3 q4 q5 q6 q7 q8 F ++ (wFR cI cF cJ tr t1 t2 t3 t4 t5 t6 t7 t8 res.2))) (va_A (wHB cI cF cJ h fa tr rw Hb ++ (wFR cI cF cJ q0 q1 q2 q3 q4 q5 q6 q7 q8 F ++ (wFR cI cF cJ tr t1 t2 t3 t4 t5 t6 t7 t8 Tr))) sz)) (va_A (wHB cI cF cJ h fa tr rw Hb ++ (wFR cI cF cJ q0 q1 q2 q3 q4 q5 q6 q7 q8 F ++ (wFR cI cF cJ tr t1 t2 t3 t4 t5 t6 t7 t8 Tr))) sz)) 0 0 (va_A (wHB cI cF cJ h fa tr rw Hb ++ (wFR cI cF cJ q0 q1 q2 q3 q4 q5 q6 q7 q8 F ++ (wFR cI cF cJ tr t1 t2 t3 t4 t5 t6 t7 t8 Tr))) sz) := by
  refine Met.ofW (cc := cX2_would) (maxL := 5) (ret := (some .int)) (by decide) rfl ?_
  intro p e s m args below meth c s₁ B hml hv
  obtain ⟨rfl, hsz, hP, hK, hD0, hE⟩ := hv
  have hx := B.exec
  have hb := B.bytes
  have hr := B.returns
  have hts0 := atoms_spec (ws := ws_ yX2_would cX2_would 5 (some .int)) B.pre
  have hts := fun (w : Cond) (h : w ∈ LW) => hts0 w (List.mem_cons_of_mem _ h)
  have hown : s.vm.findClass RX2 = some m.cls := findClass_of_methodNamed B.named
  have hlocks := B.notSynchronized
  subst hsz
  have hD := hD0.self (sz := s.heap.size)
  generalize hAe : va_A (wHB cI cF cJ h fa tr rw Hb ++ (wFR cI cF cJ q0 q1 q2 q3 q4 q5 q6 q7 q8 F ++ (wFR cI cF cJ tr t1 t2 t3 t4 t5 t6 t7 t8 Tr))) s.heap.size = A at hD ⊢
  have hA : ∀ q : Nat, s.heap.size ≤ q → A q := fun q h => by rw [← hAe]; exact Or.inr h
  have hS : va_S A s.heap s.heap [] := va_S.rf
  have hkc := Nat.zero_le rm_X2_would.cells
  have hks := Nat.zero_le rm_X2_would.slots
  have hl := lv_entry ([.ref h, .int p0, .int p1, .int p2]) (n := 5) (Nat.le_of_ble_eq_true rfl)
  rw [lg_entry_eq]
  generalize (lg_sl ([.ref h, .int p0, .int p1, .int p2]) ++ List.replicate (5 - (lg_sl ([.ref h, .int p0, .int p1, .int p2])).length) Slot.unset).toArray = ls at hl ⊢
  have hl : lv_has ls 5 [(0, .ref h), (1, .int p0), (2, .int p1), (3, .int p2)] := hl
  rw [f_X2_would] at hf
  refine lv_aload_n hx hb dX2_would_0 rfl (lv_at hl 0 rfl) ?_
  refine lv_iload_n hx hb dX2_would_1 rfl (lv_at hl 1 rfl) ?_
  obtain ⟨x1, hx1, hf⟩ := obd_e hf
  refine sb_Vq (As := [.int p0]) (rest := []) ⟨hx, hb, hml, hown, hts⟩ (fun sz => c_X2_foundFrame l dC dI cI cF cJ cD h fa tr q0 rw Hb p0 hq x1 hx1 sz) (cwV 1 hts (g_V q174 q175 q176 q172 q166) rfl rfl rfl pc_X2_foundFrame ⟨Nat.le_of_ble_eq_true rfl, Nat.le_of_ble_eq_true rfl⟩) 0 2 rfl rfl hK hP hD hS hA [0, 1] [2, 3, 4, 5, 6, 7, 8, 9, 10, 11, 12, 13, 14, 15, 16, 17, 18, 19] rfl rfl (by decide) (by decide) (by decide) (fun _ _ _ _ h => h) (fun _ _ _ => trivial) rfl rfl hl.1 (Nat.le_of_ble_eq_true rfl) dX2_would_2 ⟨hkc, hks⟩ (fun r9 u H locs hr9 hP hD hS => ?_)
  have hr9 := Eq.symm hr9
  subst hr9
  have hP : va_P (dC, dI) vwCl (wHB cI cF cJ h fa tr rw Hb ++ (wFR cI cF cJ q0 q1 q2 q3 q4 q5 q6 q7 q8 F ++ (wFR cI cF cJ tr t1 t2 t3 t4 t5 t6 t7 t8 Tr))) H := hP.sub [18, 19, 0, 1, 2, 3, 4, 5, 6, 7, 8, 9, 10, 11, 12, 13, 14, 15, 16, 17] rfl
  have hD : va_D A (wHB cI cF cJ h fa tr rw Hb ++ (wFR cI cF cJ q0 q1 q2 q3 q4 q5 q6 q7 q8 F ++ (wFR cI cF cJ tr t1 t2 t3 t4 t5 t6 t7 t8 Tr))) := hD.sub [18, 19, 0, 1, 2, 3, 4, 5, 6, 7, 8, 9, 10, 11, 12, 13, 14, 15, 16, 17] (by decide) rfl
  refine lv_astore (lv' := [(4, .ref q0), (0, .ref h), (1, .int p0), (2, .int p1), (3, .int p2)]) hx hb dX2_would_5 hl (by decide) rfl (fun ls hl => ?_)
  refine lv_aload hx hb dX2_would_7 (lv_at hl 0 rfl) ?_
  refine lv_iload_n hx hb dX2_would_9 rfl (lv_at hl 3 rfl) ?_
  obtain ⟨x2, hx2, hf⟩ := obd_e hf
  refine sb_Sv (As := [.ref q0, .int p1]) (rest := []) ⟨hx, hb, hml, hown, hts⟩ (fun sz => c_X2_refuseUnlessFits l dC dI cI cF cJ cD q0 q1 q2 q3 q4 q5 q6 q7 q8 F p1  x2 hx2 sz) (va_cwS 2 hts (g_S q205 q206 q172 q201) rfl rfl rfl ps_X2_refuseUnlessFits ⟨Nat.le_of_ble_eq_true rfl, Nat.le_of_ble_eq_true rfl⟩)  hK hP hD hS hA [2, 3, 4, 5, 6, 7, 8, 9, 10] [0, 1, 11, 12, 13, 14, 15, 16, 17, 18, 19] rfl rfl (by decide) (by decide) (by decide) (fun _ _ _ _ h => h) (fun _ _ _ => trivial) rfl rfl hl.1 (Nat.le_of_ble_eq_true rfl) dX2_would_10 ⟨hkc, hks⟩ (fun u H locs hr9 hP hD hS => ?_)
  have hP : va_P (dC, dI) vwCl (wHB cI cF cJ h fa tr rw Hb ++ (wFR cI cF cJ q0 q1 q2 q3 q4 q5 q6 q7 q8 F ++ (wFR cI cF cJ tr t1 t2 t3 t4 t5 t6 t7 t8 Tr))) H := hP.sub [0, 1, 11, 12, 13, 14, 15, 16, 17, 18, 19, 2, 3, 4, 5, 6, 7, 8, 9, 10] rfl
  have hD : va_D A (wHB cI cF cJ h fa tr rw Hb ++ (wFR cI cF cJ q0 q1 q2 q3 q4 q5 q6 q7 q8 F ++ (wFR cI cF cJ tr t1 t2 t3 t4 t5 t6 t7 t8 Tr))) := hD.sub [0, 1, 11, 12, 13, 14, 15, 16, 17, 18, 19, 2, 3, 4, 5, 6, 7, 8, 9, 10] (by decide) rfl
  refine lv_iload_n hx hb dX2_would_13 rfl (lv_at hl 4 rfl) ?_
  refine lv_iconst (v := 4) hx hb dX2_would_14 (by decide) ?_
  obtain ⟨x3, hx3, hf⟩ := obd_e hf
  refine sb_Sv (As := [.int p2, .int 4]) (rest := []) ⟨hx, hb, hml, hown, hts⟩ (fun sz => c_X2_refuseUnlessBelow l dC dI cI cF cJ cD  p2 4  x3 hx3 sz) (va_cwS 2 hts (g_S q254 q255 q172 q253) rfl rfl rfl ps_X2_refuseUnlessBelow ⟨Nat.le_of_ble_eq_true rfl, Nat.le_of_ble_eq_true rfl⟩)  hK hP hD hS hA [] [0, 1, 2, 3, 4, 5, 6, 7, 8, 9, 10, 11, 12, 13, 14, 15, 16, 17, 18, 19] rfl rfl (by decide) (by decide) (by decide) (fun _ _ _ _ h => h) (fun _ _ _ => trivial) rfl rfl hl.1 (Nat.le_of_ble_eq_true rfl) dX2_would_15 ⟨hkc, hks⟩ (fun u H locs hr9 hP hD hS => ?_)
  have hP : va_P (dC, dI) vwCl (wHB cI cF cJ h fa tr rw Hb ++ (wFR cI cF cJ q0 q1 q2 q3 q4 q5 q6 q7 q8 F ++ (wFR cI cF cJ tr t1 t2 t3 t4 t5 t6 t7 t8 Tr))) H := hP
  have hD : va_D A (wHB cI cF cJ h fa tr rw Hb ++ (wFR cI cF cJ q0 q1 q2 q3 q4 q5 q6 q7 q8 F ++ (wFR cI cF cJ tr t1 t2 t3 t4 t5 t6 t7 t8 Tr))) := hD
  refine lv_aload_n hx hb dX2_would_18 rfl (lv_at hl 1 rfl) ?_
  refine lv_aload hx hb dX2_would_19 (lv_at hl 0 rfl) ?_
  refine lv_iload_n hx hb dX2_would_21 rfl (lv_at hl 3 rfl) ?_
  refine lv_iload_n hx hb dX2_would_22 rfl (lv_at hl 4 rfl) ?_
  obtain ⟨x4, hx4, hf⟩ := obd_e hf
  refine sb_Vi (As := [.ref q0, .int p1, .int p2]) (rest := []) ⟨hx, hb, hml, hown, hts⟩ (fun sz => c_X2_countByAdding l dC dI cI cF cJ cD h fa tr q0 q1 q2 q3 q4 q5 q6 q7 q8 t1 t2 t3 t4 t5 t6 t7 t8 rw Hb F Tr p1 p2  x4 hx4 sz) (cwV 3 hts (g_V q285 q286 q287 q172 q284) rfl rfl rfl pc_X2_countByAdding ⟨Nat.le_of_ble_eq_true rfl, Nat.le_of_ble_eq_true rfl⟩) 0 2 rfl rfl hK hP hD hS hA [0, 1, 2, 3, 4, 5, 6, 7, 8, 9, 10, 11, 12, 13, 14, 15, 16, 17, 18, 19] [] rfl rfl (by decide) (by decide) (by decide) (fun _ _ _ _ h => h) (fun _ _ _ => trivial) rfl rfl hl.1 (Nat.le_of_ble_eq_true rfl) dX2_would_23 ⟨hkc, hks⟩ (fun r9 u H locs hr9 hP hD hS => ?_)
  have hr9 := Eq.symm hr9
  subst hr9
  have hP : va_P (dC, dI) vwCl (wHB cI cF cJ h fa tr rw Hb ++ (wFR cI cF cJ q0 q1 q2 q3 q4 q5 q6 q7 q8 F ++ (wFR cI cF cJ tr t1 t2 t3 t4 t5 t6 t7 t8 x4.2))) H := hP
  have hD : va_D A (wHB cI cF cJ h fa tr rw Hb ++ (wFR cI cF cJ q0 q1 q2 q3 q4 q5 q6 q7 q8 F ++ (wFR cI cF cJ tr t1 t2 t3 t4 t5 t6 t7 t8 x4.2))) := hD
  obtain rfl := Option.some.inj hf
  exact W.iret (v := x4.1) hx hb hr (fun t ht hW => ⟨⟨_, (), rfl, rfl, by rw [ht]; exact hP, hD⟩, hS.F ht⟩) hS.2.2 dX2_would_26
noncomputable def f_X2_wouldTake (Hb : HB) (F : FR) (Tr : FR) (p0 : Int32) (p1 : Int32) : Option (UInt64 × FR) := obd (f_X2_foundFrame Hb p0) fun x1 => obd (f_X2_refuseUnlessFits F p1) fun x2 => obd (f_X2_secondsByAdding Hb F Tr p1) fun x3 => some (x3.1, x3.2)
theorem pc_X2_wouldTake : yX2_wouldTake.cls = RX2 ∧ yX2_wouldTake.cls ≠ "java/lang/invoke/MethodHandle" ∧ yX2_wouldTake.cls ≠ "java/lang/invoke/VarHandle" ∧ (parseMethodDescriptor yX2_wouldTake.desc).map (fun d => d.parameters.length) = some 2 := by decide +kernel
abbrev rm_X2_wouldTake : Room := { frames := 6, cells := 0, slots := 0, locals := 150 }
set_option maxHeartbeats 4000000 in
set_option maxRecDepth 100000 in
theorem c_X2_wouldTake (l : Launch) (dC : Nat → ClassId) (dI : Nat → Nat → Nat) (cI cF cJ cD : ClassId) (h fa tr q0 q1 q2 q3 q4 q5 q6 q7 q8 t1 t2 t3 t4 t5 t6 t7 t8 : Nat) (rw : Nat → Option Nat) (Hb : HB) (F : FR) (Tr : FR) (p0 : Int32) (p1 : Int32) (hq : f_X2_frameAt rw p0 = some (some q0)) (res : (UInt64 × FR)) (hf : f_X2_wouldTake Hb F Tr p0 p1 = some res) (sz : Nat) : Met l yX2_wouldTake (ws_ yX2_wouldTake cX2_wouldTake 4 (some .double)) rm_X2_wouldTake (sbPre (dC, dI) (TY cI cF cJ cD) (wHB cI cF cJ h fa tr rw Hb ++ (wFR cI cF cJ q0 q1 q2 q3 q4 q5 q6 q7 q8 F ++ (wFR cI cF cJ tr t1 t2 t3 t4 t5 t6 t7 t8 Tr))) E0 sz [.ref h, .int p0, .int p1]) (va_Qd (fun (r : UInt64) (_ : Unit) => r = res.1) (sbEnd (dC, dI) (fun _ => wHB cI cF cJ h fa tr rw Hb ++ (wFR cI cF cJ q0 q1 q2 q3 q4 q5 q6 q7 q8 F ++ (wFR cI cF cJ tr t1 t2 t3 t4 t5 t6 t7 t8 res.2))) (va_A (wHB cI cF cJ h fa tr rw Hb ++ (wFR cI cF cJ q0 q1 q2 q3 q4 q5 q6 q7 q8 F ++ (wFR cI cF cJ tr t1 t2 t3 t4 t5 t6 t7 t8 Tr))) sz)) (va_A (wHB cI cF cJ h fa tr rw Hb ++ (wFR cI cF cJ q0 q1 q2 q3 q4 q5 q6 q7 q8 F ++ (wFR cI cF cJ tr t1 t2 t3 t4 t5 t6 t7 t8 Tr))) sz)) 0 0 (va_A (wHB cI cF cJ h fa tr rw Hb ++ (wFR cI cF cJ q0 q1 q2 q3 q4 q5 q6 q7 q8 F ++ (wFR cI cF cJ tr t1 t2 t3 t4 t5 t6 t7 t8 Tr))) sz) := by
  refine Met.ofW (cc := cX2_wouldTake) (maxL := 4) (ret := (some .double)) (by decide) rfl ?_
  intro p e s m args below meth c s₁ B hml hv
  obtain ⟨rfl, hsz, hP, hK, hD0, hE⟩ := hv
  have hx := B.exec
  have hb := B.bytes
  have hr := B.returns
  have hts0 := atoms_spec (ws := ws_ yX2_wouldTake cX2_wouldTake 4 (some .double)) B.pre
  have hts := fun (w : Cond) (h : w ∈ LW) => hts0 w (List.mem_cons_of_mem _ h)
  have hown : s.vm.findClass RX2 = some m.cls := findClass_of_methodNamed B.named
  have hlocks := B.notSynchronized
  subst hsz
  have hD := hD0.self (sz := s.heap.size)
  generalize hAe : va_A (wHB cI cF cJ h fa tr rw Hb ++ (wFR cI cF cJ q0 q1 q2 q3 q4 q5 q6 q7 q8 F ++ (wFR cI cF cJ tr t1 t2 t3 t4 t5 t6 t7 t8 Tr))) s.heap.size = A at hD ⊢
  have hA : ∀ q : Nat, s.heap.size ≤ q → A q := fun q h => by rw [← hAe]; exact Or.inr h
  have hS : va_S A s.heap s.heap [] := va_S.rf
  have hkc := Nat.zero_le rm_X2_wouldTake.cells
  have hks := Nat.zero_le rm_X2_wouldTake.slots
  have hl := lv_entry ([.ref h, .int p0, .int p1]) (n := 4) (Nat.le_of_ble_eq_true rfl)
  rw [lg_entry_eq]
  generalize (lg_sl ([.ref h, .int p0, .int p1]) ++ List.replicate (4 - (lg_sl ([.ref h, .int p0, .int p1])).length) Slot.unset).toArray = ls at hl ⊢
  have hl : lv_has ls 4 [(0, .ref h), (1, .int p0), (2, .int p1)] := hl
  rw [f_X2_wouldTake] at hf
  refine lv_aload_n hx hb dX2_wouldTake_0 rfl (lv_at hl 0 rfl) ?_
  refine lv_iload_n hx hb dX2_wouldTake_1 rfl (lv_at hl 1 rfl) ?_
  obtain ⟨x1, hx1, hf⟩ := obd_e hf
  refine sb_Vq (As := [.int p0]) (rest := []) ⟨hx, hb, hml, hown, hts⟩ (fun sz => c_X2_foundFrame l dC dI cI cF cJ cD h fa tr q0 rw Hb p0 hq x1 hx1 sz) (cwV 1 hts (g_V q174 q175 q176 q172 q166) rfl rfl rfl pc_X2_foundFrame ⟨Nat.le_of_ble_eq_true rfl, Nat.le_of_ble_eq_true rfl⟩) 0 2 rfl rfl hK hP hD hS hA [0, 1] [2, 3, 4, 5, 6, 7, 8, 9, 10, 11, 12, 13, 14, 15, 16, 17, 18, 19] rfl rfl (by decide) (by decide) (by decide) (fun _ _ _ _ h => h) (fun _ _ _ => trivial) rfl rfl hl.1 (Nat.le_of_ble_eq_true rfl) dX2_wouldTake_2 ⟨hkc, hks⟩ (fun r9 u H locs hr9 hP hD hS => ?_)
  have hr9 := Eq.symm hr9
  subst hr9
  have hP : va_P (dC, dI) vwCl (wHB cI cF cJ h fa tr rw Hb ++ (wFR cI cF cJ q0 q1 q2 q3 q4 q5 q6 q7 q8 F ++ (wFR cI cF cJ tr t1 t2 t3 t4 t5 t6 t7 t8 Tr))) H := hP.sub [18, 19, 0, 1, 2, 3, 4, 5, 6, 7, 8, 9, 10, 11, 12, 13, 14, 15, 16, 17] rfl
  have hD : va_D A (wHB cI cF cJ h fa tr rw Hb ++ (wFR cI cF cJ q0 q1 q2 q3 q4 q5 q6 q7 q8 F ++ (wFR cI cF cJ tr t1 t2 t3 t4 t5 t6 t7 t8 Tr))) := hD.sub [18, 19, 0, 1, 2, 3, 4, 5, 6, 7, 8, 9, 10, 11, 12, 13, 14, 15, 16, 17] (by decide) rfl
  refine lv_astore_n (lv' := [(3, .ref q0), (0, .ref h), (1, .int p0), (2, .int p1)]) hx hb dX2_wouldTake_5 rfl hl (by decide) rfl (fun ls hl => ?_)
  refine lv_aload_n hx hb dX2_wouldTake_6 rfl (lv_at hl 0 rfl) ?_
  refine lv_iload_n hx hb dX2_wouldTake_7 rfl (lv_at hl 3 rfl) ?_
  obtain ⟨x2, hx2, hf⟩ := obd_e hf
  refine sb_Sv (As := [.ref q0, .int p1]) (rest := []) ⟨hx, hb, hml, hown, hts⟩ (fun sz => c_X2_refuseUnlessFits l dC dI cI cF cJ cD q0 q1 q2 q3 q4 q5 q6 q7 q8 F p1  x2 hx2 sz) (va_cwS 2 hts (g_S q205 q206 q172 q201) rfl rfl rfl ps_X2_refuseUnlessFits ⟨Nat.le_of_ble_eq_true rfl, Nat.le_of_ble_eq_true rfl⟩)  hK hP hD hS hA [2, 3, 4, 5, 6, 7, 8, 9, 10] [0, 1, 11, 12, 13, 14, 15, 16, 17, 18, 19] rfl rfl (by decide) (by decide) (by decide) (fun _ _ _ _ h => h) (fun _ _ _ => trivial) rfl rfl hl.1 (Nat.le_of_ble_eq_true rfl) dX2_wouldTake_8 ⟨hkc, hks⟩ (fun u H locs hr9 hP hD hS => ?_)
  have hP : va_P (dC, dI) vwCl (wHB cI cF cJ h fa tr rw Hb ++ (wFR cI cF cJ q0 q1 q2 q3 q4 q5 q6 q7 q8 F ++ (wFR cI cF cJ tr t1 t2 t3 t4 t5 t6 t7 t8 Tr))) H := hP.sub [0, 1, 11, 12, 13, 14, 15, 16, 17, 18, 19, 2, 3, 4, 5, 6, 7, 8, 9, 10] rfl
  have hD : va_D A (wHB cI cF cJ h fa tr rw Hb ++ (wFR cI cF cJ q0 q1 q2 q3 q4 q5 q6 q7 q8 F ++ (wFR cI cF cJ tr t1 t2 t3 t4 t5 t6 t7 t8 Tr))) := hD.sub [0, 1, 11, 12, 13, 14, 15, 16, 17, 18, 19, 2, 3, 4, 5, 6, 7, 8, 9, 10] (by decide) rfl
  refine lv_aload_n hx hb dX2_wouldTake_11 rfl (lv_at hl 1 rfl) ?_
  refine lv_aload_n hx hb dX2_wouldTake_12 rfl (lv_at hl 0 rfl) ?_
  refine lv_iload_n hx hb dX2_wouldTake_13 rfl (lv_at hl 3 rfl) ?_
  obtain ⟨x3, hx3, hf⟩ := obd_e hf
  refine sb_Vd (As := [.ref q0, .int p1]) (rest := []) ⟨hx, hb, hml, hown, hts⟩ (fun sz => c_X2_secondsByAdding l dC dI cI cF cJ cD h fa tr q0 q1 q2 q3 q4 q5 q6 q7 q8 t1 t2 t3 t4 t5 t6 t7 t8 rw Hb F Tr p1  x3 hx3 sz) (cwV 2 hts (g_V q290 q291 q292 q172 q289) rfl rfl rfl pc_X2_secondsByAdding ⟨Nat.le_of_ble_eq_true rfl, Nat.le_of_ble_eq_true rfl⟩) 0 2 rfl rfl hK hP hD hS hA [0, 1, 2, 3, 4, 5, 6, 7, 8, 9, 10, 11, 12, 13, 14, 15, 16, 17, 18, 19] [] rfl rfl (by decide) (by decide) (by decide) (fun _ _ _ _ h => h) (fun _ _ _ => trivial) rfl rfl hl.1 (Nat.le_of_ble_eq_true rfl) dX2_wouldTake_14 ⟨hkc, hks⟩ (fun r9 u H locs hr9 hP hD hS => ?_)
  have hr9 := Eq.symm hr9
  subst hr9
  have hP : va_P (dC, dI) vwCl (wHB cI cF cJ h fa tr rw Hb ++ (wFR cI cF cJ q0 q1 q2 q3 q4 q5 q6 q7 q8 F ++ (wFR cI cF cJ tr t1 t2 t3 t4 t5 t6 t7 t8 x3.2))) H := hP
  have hD : va_D A (wHB cI cF cJ h fa tr rw Hb ++ (wFR cI cF cJ q0 q1 q2 q3 q4 q5 q6 q7 q8 F ++ (wFR cI cF cJ tr t1 t2 t3 t4 t5 t6 t7 t8 x3.2))) := hD
  obtain rfl := Option.some.inj hf
  exact W.dret (v := x3.1) hx hb hr (fun t ht hW => ⟨⟨_, (), rfl, rfl, by rw [ht]; exact hP, hD⟩, hS.F ht⟩) hS.2.2 dX2_wouldTake_17
noncomputable def f_X2_hardest (Hb : HB) (F : FR) (Tr : FR) (p0 : Int32) (p1 : Int32) : Option (Int32 × FR) := obd (f_X2_foundFrameWithRod Hb F p0 p1) fun x1 => obd (f_X2_hardestDigit Hb F Tr p1) fun x2 => some (x2.1, x2.2)
theorem pc_X2_hardest : yX2_hardest.cls = RX2 ∧ yX2_hardest.cls ≠ "java/lang/invoke/MethodHandle" ∧ yX2_hardest.cls ≠ "java/lang/invoke/VarHandle" ∧ (parseMethodDescriptor yX2_hardest.desc).map (fun d => d.parameters.length) = some 2 := by decide +kernel
abbrev rm_X2_hardest : Room := { frames := 5, cells := 0, slots := 0, locals := 131 }
set_option maxHeartbeats 4000000 in
set_option maxRecDepth 100000 in
theorem c_X2_hardest (l : Launch) (dC : Nat → ClassId) (dI : Nat → Nat → Nat) (cI cF cJ cD : ClassId) (h fa tr q0 q1 q2 q3 q4 q5 q6 q7 q8 t1 t2 t3 t4 t5 t6 t7 t8 : Nat) (rw : Nat → Option Nat) (Hb : HB) (F : FR) (Tr : FR) (p0 : Int32) (p1 : Int32) (hq : f_X2_frameAt rw p0 = some (some q0)) (res : (Int32 × FR)) (hf : f_X2_hardest Hb F Tr p0 p1 = some res) (sz : Nat) : Met l yX2_hardest (ws_ yX2_hardest cX2_hardest 4 (some .int)) rm_X2_hardest (sbPre (dC, dI) (TY cI cF cJ cD) (wHB cI cF cJ h fa tr rw Hb ++ (wFR cI cF cJ q0 q1 q2 q3 q4 q5 q6 q7 q8 F ++ (wFR cI cF cJ tr t1 t2 t3 t4 t5 t6 t7 t8 Tr))) E0 sz [.ref h, .int p0, .int p1]) (va_Qi (fun (r : Int32) (_ : Unit) => r = res.1) (sbEnd (dC, dI) (fun _ => wHB cI cF cJ h fa tr rw Hb ++ (wFR cI cF cJ q0 q1 q2 q3 q4 q5 q6 q7 q8 F ++ (wFR cI cF cJ tr t1 t2 t3 t4 t5 t6 t7 t8 res.2))) (va_A (wHB cI cF cJ h fa tr rw Hb ++ (wFR cI cF cJ q0 q1 q2 q3 q4 q5 q6 q7 q8 F ++ (wFR cI cF cJ tr t1 t2 t3 t4 t5 t6 t7 t8 Tr))) sz)) (va_A (wHB cI cF cJ h fa tr rw Hb ++ (wFR cI cF cJ q0 q1 q2 q3 q4 q5 q6 q7 q8 F ++ (wFR cI cF cJ tr t1 t2 t3 t4 t5 t6 t7 t8 Tr))) sz)) 0 0 (va_A (wHB cI cF cJ h fa tr rw Hb ++ (wFR cI cF cJ q0 q1 q2 q3 q4 q5 q6 q7 q8 F ++ (wFR cI cF cJ tr t1 t2 t3 t4 t5 t6 t7 t8 Tr))) sz) := by
  refine Met.ofW (cc := cX2_hardest) (maxL := 4) (ret := (some .int)) (by decide) rfl ?_
  intro p e s m args below meth c s₁ B hml hv
  obtain ⟨rfl, hsz, hP, hK, hD0, hE⟩ := hv
  have hx := B.exec
  have hb := B.bytes
  have hr := B.returns
  have hts0 := atoms_spec (ws := ws_ yX2_hardest cX2_hardest 4 (some .int)) B.pre
  have hts := fun (w : Cond) (h : w ∈ LW) => hts0 w (List.mem_cons_of_mem _ h)
  have hown : s.vm.findClass RX2 = some m.cls := findClass_of_methodNamed B.named
  have hlocks := B.notSynchronized
  subst hsz
  have hD := hD0.self (sz := s.heap.size)
  generalize hAe : va_A (wHB cI cF cJ h fa tr rw Hb ++ (wFR cI cF cJ q0 q1 q2 q3 q4 q5 q6 q7 q8 F ++ (wFR cI cF cJ tr t1 t2 t3 t4 t5 t6 t7 t8 Tr))) s.heap.size = A at hD ⊢
  have hA : ∀ q : Nat, s.heap.size ≤ q → A q := fun q h => by rw [← hAe]; exact Or.inr h
  have hS : va_S A s.heap s.heap [] := va_S.rf
  have hkc := Nat.zero_le rm_X2_hardest.cells
  have hks := Nat.zero_le rm_X2_hardest.slots
  have hl := lv_entry ([.ref h, .int p0, .int p1]) (n := 4) (Nat.le_of_ble_eq_true rfl)
  rw [lg_entry_eq]
  generalize (lg_sl ([.ref h, .int p0, .int p1]) ++ List.replicate (4 - (lg_sl ([.ref h, .int p0, .int p1])).length) Slot.unset).toArray = ls at hl ⊢
  have hl : lv_has ls 4 [(0, .ref h), (1, .int p0), (2, .int p1)] := hl
  rw [f_X2_hardest] at hf
  refine lv_aload_n hx hb dX2_hardest_0 rfl (lv_at hl 0 rfl) ?_
  refine lv_iload_n hx hb dX2_hardest_1 rfl (lv_at hl 1 rfl) ?_
  refine lv_iload_n hx hb dX2_hardest_2 rfl (lv_at hl 2 rfl) ?_
  obtain ⟨x1, hx1, hf⟩ := obd_e hf
  refine sb_Vq (As := [.int p0, .int p1]) (rest := []) ⟨hx, hb, hml, hown, hts⟩ (fun sz => c_X2_foundFrameWithRod l dC dI cI cF cJ cD h fa tr q0 q1 q2 q3 q4 q5 q6 q7 q8 rw Hb F p0 p1 hq x1 hx1 sz) (cwV 2 hts (g_V q182 q183 q184 q172 q173) rfl rfl rfl pc_X2_foundFrameWithRod ⟨Nat.le_of_ble_eq_true rfl, Nat.le_of_ble_eq_true rfl⟩) 0 2 rfl rfl hK hP hD hS hA [0, 1, 2, 3, 4, 5, 6, 7, 8, 9, 10] [11, 12, 13, 14, 15, 16, 17, 18, 19] rfl rfl (by decide) (by decide) (by decide) (fun _ _ _ _ h => h) (fun _ _ _ => trivial) rfl rfl hl.1 (Nat.le_of_ble_eq_true rfl) dX2_hardest_3 ⟨hkc, hks⟩ (fun r9 u H locs hr9 hP hD hS => ?_)
  have hr9 := Eq.symm hr9
  subst hr9
  have hP : va_P (dC, dI) vwCl (wHB cI cF cJ h fa tr rw Hb ++ (wFR cI cF cJ q0 q1 q2 q3 q4 q5 q6 q7 q8 F ++ (wFR cI cF cJ tr t1 t2 t3 t4 t5 t6 t7 t8 Tr))) H := hP.sub [9, 10, 11, 12, 13, 14, 15, 16, 17, 18, 19, 0, 1, 2, 3, 4, 5, 6, 7, 8] rfl
  have hD : va_D A (wHB cI cF cJ h fa tr rw Hb ++ (wFR cI cF cJ q0 q1 q2 q3 q4 q5 q6 q7 q8 F ++ (wFR cI cF cJ tr t1 t2 t3 t4 t5 t6 t7 t8 Tr))) := hD.sub [9, 10, 11, 12, 13, 14, 15, 16, 17, 18, 19, 0, 1, 2, 3, 4, 5, 6, 7, 8] (by decide) rfl
  refine lv_astore_n (lv' := [(3, .ref q0), (0, .ref h), (1, .int p0), (2, .int p1)]) hx hb dX2_hardest_6 rfl hl (by decide) rfl (fun ls hl => ?_)
  refine lv_aload_n hx hb dX2_hardest_7 rfl (lv_at hl 1 rfl) ?_
  refine lv_aload_n hx hb dX2_hardest_8 rfl (lv_at hl 0 rfl) ?_
  refine lv_iload_n hx hb dX2_hardest_9 rfl (lv_at hl 3 rfl) ?_
  obtain ⟨x2, hx2, hf⟩ := obd_e hf
  refine sb_Vi (As := [.ref q0, .int p1]) (rest := []) ⟨hx, hb, hml, hown, hts⟩ (fun sz => c_X2_hardestDigit l dC dI cI cF cJ cD h fa tr q0 q1 q2 q3 q4 q5 q6 q7 q8 t1 t2 t3 t4 t5 t6 t7 t8 rw Hb F Tr p1  x2 hx2 sz) (cwV 2 hts (g_V q302 q303 q304 q172 q301) rfl rfl rfl pc_X2_hardestDigit ⟨Nat.le_of_ble_eq_true rfl, Nat.le_of_ble_eq_true rfl⟩) 0 2 rfl rfl hK hP hD hS hA [0, 1, 2, 3, 4, 5, 6, 7, 8, 9, 10, 11, 12, 13, 14, 15, 16, 17, 18, 19] [] rfl rfl (by decide) (by decide) (by decide) (fun _ _ _ _ h => h) (fun _ _ _ => trivial) rfl rfl hl.1 (Nat.le_of_ble_eq_true rfl) dX2_hardest_10 ⟨hkc, hks⟩ (fun r9 u H locs hr9 hP hD hS => ?_)
  have hr9 := Eq.symm hr9
  subst hr9
  have hP : va_P (dC, dI) vwCl (wHB cI cF cJ h fa tr rw Hb ++ (wFR cI cF cJ q0 q1 q2 q3 q4 q5 q6 q7 q8 F ++ (wFR cI cF cJ tr t1 t2 t3 t4 t5 t6 t7 t8 x2.2))) H := hP
  have hD : va_D A (wHB cI cF cJ h fa tr rw Hb ++ (wFR cI cF cJ q0 q1 q2 q3 q4 q5 q6 q7 q8 F ++ (wFR cI cF cJ tr t1 t2 t3 t4 t5 t6 t7 t8 x2.2))) := hD
  obtain rfl := Option.some.inj hf
  exact W.iret (v := x2.1) hx hb hr (fun t ht hW => ⟨⟨_, (), rfl, rfl, by rw [ht]; exact hP, hD⟩, hS.F ht⟩) hS.2.2 dX2_hardest_13
