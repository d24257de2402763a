-- laid by wip/p30/specs.py
noncomputable def f_X2_quickerToAdd (Hb : HB) (F : FR) (F2 : FR) (Tr : FR) (p0 : Int32) : Option (Int32 × FR) := obd (f_X2_secondsByAdding Hb F Tr p0) fun x1 => obd (f_X2_secondsByAdding Hb F2 x1.2 p0) fun x2 => bnd (Op.cmpValue (FP.dcmp x1.1 x2.1) CmpOp.l) fun (v3 : Int32) => if v3 = 0 then (bnd (if (1 : Int32) < (0 : Int32) then (1 : Int32) else (0 : Int32)) fun (v7 : Int32) => some (v7, x2.2)) else (bnd (Op.cmpValue (FP.dcmp x1.1 x2.1) CmpOp.g) fun (v5 : Int32) => if (0 : Int32) ≤ v5 then (some (1, x2.2)) else (some (0, x2.2)))
theorem pc_X2_quickerToAdd : yX2_quickerToAdd.cls = RX2 ∧ yX2_quickerToAdd.cls ≠ "java/lang/invoke/MethodHandle" ∧ yX2_quickerToAdd.cls ≠ "java/lang/invoke/VarHandle" ∧ (parseMethodDescriptor yX2_quickerToAdd.desc).map (fun d => d.parameters.length) = some 3 := by decide +kernel
abbrev rm_X2_quickerToAdd : Room := { frames := 6, cells := 0, slots := 0, locals := 150 }
set_option maxHeartbeats 4000000 in
set_option maxRecDepth 100000 in
theorem c_X2_quickerToAdd (l : Launch) (dC : Nat → ClassId) (dI : Nat → Nat → Nat) (cI cF cJ cD : ClassId) (h fa tr q0 q1 q2 q3 q4 q5 q6 q7 q8 r0 r1 r2 r3 r4 r5 r6 r7 r8 t1 t2 t3 t4 t5 t6 t7 t8 : Nat) (rw : Nat → Option Nat) (Hb : HB) (F : FR) (F2 : FR) (Tr : FR) (p0 : Int32) (hq0 : f_X2_frameAt rw 0 = some (some q0)) (hq1 : f_X2_frameAt rw 1 = some (some r0)) (res : (Int32 × FR)) (hf : f_X2_quickerToAdd Hb F F2 Tr p0 = some res) (sz : Nat) : Met l yX2_quickerToAdd (ws_ yX2_quickerToAdd cX2_quickerToAdd 10 (some .int)) rm_X2_quickerToAdd (sbPre (dC, dI) (TY cI cF cJ cD) (wHB cI cF cJ h fa tr rw Hb ++ (wFR cI cF cJ q0 q1 q2 q3 q4 q5 q6 q7 q8 F ++ (wFR cI cF cJ r0 r1 r2 r3 r4 r5 r6 r7 r8 F2 ++ (wFR cI cF cJ tr t1 t2 t3 t4 t5 t6 t7 t8 Tr)))) E0 sz [.ref h, .int 0, .int 1, .int p0]) (va_Qi (fun (r : Int32) (_ : Unit) => r = res.1) (sbEnd (dC, dI) (fun _ => wHB cI cF cJ h fa tr rw Hb ++ (wFR cI cF cJ q0 q1 q2 q3 q4 q5 q6 q7 q8 F ++ (wFR cI cF cJ r0 r1 r2 r3 r4 r5 r6 r7 r8 F2 ++ (wFR cI cF cJ tr t1 t2 t3 t4 t5 t6 t7 t8 res.2)))) (va_A (wHB cI cF cJ h fa tr rw Hb ++ (wFR cI cF cJ q0 q1 q2 q3 q4 q5 q6 q7 q8 F ++ (wFR cI cF cJ r0 r1 r2 r3 r4 r5 r6 r7 r8 F2 ++ (wFR cI cF cJ tr t1 t2 t3 t4 t5 t6 t7 t8 Tr)))) sz)) (va_A (wHB cI cF cJ h fa tr rw Hb ++ (wFR cI cF cJ q0 q1 q2 q3 q4 q5 q6 q7 q8 F ++ (wFR cI cF cJ r0 r1 r2 r3 r4 r5 r6 r7 r8 F2 ++ (wFR cI cF cJ tr t1 t2 t3 t4 t5 t6 t7 t8 Tr)))) sz)) 0 0 (va_A (wHB cI cF cJ h fa tr rw Hb ++ (wFR cI cF cJ q0 q1 q2 q3 q4 q5 q6 q7 q8 F ++ (wFR cI cF cJ r0 r1 r2 r3 r4 r5 r6 r7 r8 F2 ++ (wFR cI cF cJ tr t1 t2 t3 t4 t5 t6 t7 t8 Tr)))) sz) := by
  refine Met.ofW (cc := cX2_quickerToAdd) (maxL := 10) (ret := (some .int)) (by decide) rfl ?_
  intro p e s m args below meth c s₁ B hml hv
  obtain ⟨rfl, hsz, hP, hK, hD0, hE⟩ := hv
  have hx := B.exec
  have hb := B.bytes
  have hr := B.returns
  have hts0 := atoms_spec (ws := ws_ yX2_quickerToAdd cX2_quickerToAdd 10 (some .int)) B.pre
  have hts := fun (w : Cond) (h : w ∈ LW) => hts0 w (List.mem_cons_of_mem _ h)
  have hown : s.vm.findClass RX2 = some m.cls := findClass_of_methodNamed B.named
  have hlocks := B.notSynchronized
  subst hsz
  have hD := hD0.self (sz := s.heap.size)
  generalize hAe : va_A (wHB cI cF cJ h fa tr rw Hb ++ (wFR cI cF cJ q0 q1 q2 q3 q4 q5 q6 q7 q8 F ++ (wFR cI cF cJ r0 r1 r2 r3 r4 r5 r6 r7 r8 F2 ++ (wFR cI cF cJ tr t1 t2 t3 t4 t5 t6 t7 t8 Tr)))) s.heap.size = A at hD ⊢
  have hA : ∀ q : Nat, s.heap.size ≤ q → A q := fun q h => by rw [← hAe]; exact Or.inr h
  have hS : va_S A s.heap s.heap [] := va_S.rf
  have hkc := Nat.zero_le rm_X2_quickerToAdd.cells
  have hks := Nat.zero_le rm_X2_quickerToAdd.slots
  have hl := lv_entry ([.ref h, .int 0, .int 1, .int p0]) (n := 10) (Nat.le_of_ble_eq_true rfl)
  rw [lg_entry_eq]
  generalize (lg_sl ([.ref h, .int 0, .int 1, .int p0]) ++ List.replicate (10 - (lg_sl ([.ref h, .int 0, .int 1, .int p0])).length) Slot.unset).toArray = ls at hl ⊢
  have hl : lv_has ls 10 [(0, .ref h), (1, .int 0), (2, .int 1), (3, .int p0)] := hl
  rw [f_X2_quickerToAdd] at hf
  refine lv_aload_n hx hb dX2_quickerToAdd_0 rfl (lv_at hl 0 rfl) ?_
  refine lv_iload_n hx hb dX2_quickerToAdd_1 rfl (lv_at hl 1 rfl) ?_
  refine sb_Vq (As := [.int 0]) (rest := []) ⟨hx, hb, hml, hown, hts⟩ (fun sz => c_X2_frameAt l dC dI cI cF cJ cD h fa tr rw Hb 0 _ hq0 sz) (cwV 1 hts (g_V q169 q170 q171 q172 q165) rfl rfl rfl pc_X2_frameAt ⟨Nat.le_of_ble_eq_true rfl, Nat.le_of_ble_eq_true rfl⟩) 0 2 rfl rfl hK hP hD hS hA [0, 1] [2, 3, 4, 5, 6, 7, 8, 9, 10, 11, 12, 13, 14, 15, 16, 17, 18, 19, 20, 21, 22, 23, 24, 25, 26, 27, 28] rfl rfl (by decide) (by decide) (by decide) (fun _ _ _ _ h => h) (fun _ _ _ => trivial) rfl rfl hl.1 (Nat.le_of_ble_eq_true rfl) dX2_quickerToAdd_2 ⟨hkc, hks⟩ (fun r9 u H locs hr9 hP hD hS => ?_)
  have hr9 := Eq.symm hr9
  subst hr9
  have hP : va_P (dC, dI) vwCl (wHB cI cF cJ h fa tr rw Hb ++ (wFR cI cF cJ q0 q1 q2 q3 q4 q5 q6 q7 q8 F ++ (wFR cI cF cJ r0 r1 r2 r3 r4 r5 r6 r7 r8 F2 ++ (wFR cI cF cJ tr t1 t2 t3 t4 t5 t6 t7 t8 Tr)))) H := hP.sub [27, 28, 0, 1, 2, 3, 4, 5, 6, 7, 8, 9, 10, 11, 12, 13, 14, 15, 16, 17, 18, 19, 20, 21, 22, 23, 24, 25, 26] rfl
  have hD : va_D A (wHB cI cF cJ h fa tr rw Hb ++ (wFR cI cF cJ q0 q1 q2 q3 q4 q5 q6 q7 q8 F ++ (wFR cI cF cJ r0 r1 r2 r3 r4 r5 r6 r7 r8 F2 ++ (wFR cI cF cJ tr t1 t2 t3 t4 t5 t6 t7 t8 Tr)))) := hD.sub [27, 28, 0, 1, 2, 3, 4, 5, 6, 7, 8, 9, 10, 11, 12, 13, 14, 15, 16, 17, 18, 19, 20, 21, 22, 23, 24, 25, 26] (by decide) rfl
  refine sb_topv (v' := .ref q0) rfl ?_
  refine lv_astore (lv' := [(4, .ref q0), (0, .ref h), (1, .int 0), (2, .int 1), (3, .int p0)]) hx hb dX2_quickerToAdd_5 hl (by decide) rfl (fun ls hl => ?_)
  refine lv_aload_n hx hb dX2_quickerToAdd_7 rfl (lv_at hl 1 rfl) ?_
  refine lv_iload_n hx hb dX2_quickerToAdd_8 rfl (lv_at hl 3 rfl) ?_
  refine sb_Vq (As := [.int 1]) (rest := []) ⟨hx, hb, hml, hown, hts⟩ (fun sz => c_X2_frameAt l dC dI cI cF cJ cD h fa tr rw Hb 1 _ hq1 sz) (cwV 1 hts (g_V q169 q170 q171 q172 q165) rfl rfl rfl pc_X2_frameAt ⟨Nat.le_of_ble_eq_true rfl, Nat.le_of_ble_eq_true rfl⟩) 0 2 rfl rfl hK hP hD hS hA [0, 1] [2, 3, 4, 5, 6, 7, 8, 9, 10, 11, 12, 13, 14, 15, 16, 17, 18, 19, 20, 21, 22, 23, 24, 25, 26, 27, 28] rfl rfl (by decide) (by decide) (by decide) (fun _ _ _ _ h => h) (fun _ _ _ => trivial) rfl rfl hl.1 (Nat.le_of_ble_eq_true rfl) dX2_quickerToAdd_9 ⟨hkc, hks⟩ (fun r9 u H locs hr9 hP hD hS => ?_)
  have hr9 := Eq.symm hr9
  subst hr9
  have hP : va_P (dC, dI) vwCl (wHB cI cF cJ h fa tr rw Hb ++ (wFR cI cF cJ q0 q1 q2 q3 q4 q5 q6 q7 q8 F ++ (wFR cI cF cJ r0 r1 r2 r3 r4 r5 r6 r7 r8 F2 ++ (wFR cI cF cJ tr t1 t2 t3 t4 t5 t6 t7 t8 Tr)))) H := hP.sub [27, 28, 0, 1, 2, 3, 4, 5, 6, 7, 8, 9, 10, 11, 12, 13, 14, 15, 16, 17, 18, 19, 20, 21, 22, 23, 24, 25, 26] rfl
  have hD : va_D A (wHB cI cF cJ h fa tr rw Hb ++ (wFR cI cF cJ q0 q1 q2 q3 q4 q5 q6 q7 q8 F ++ (wFR cI cF cJ r0 r1 r2 r3 r4 r5 r6 r7 r8 F2 ++ (wFR cI cF cJ tr t1 t2 t3 t4 t5 t6 t7 t8 Tr)))) := hD.sub [27, 28, 0, 1, 2, 3, 4, 5, 6, 7, 8, 9, 10, 11, 12, 13, 14, 15, 16, 17, 18, 19, 20, 21, 22, 23, 24, 25, 26] (by decide) rfl
  refine sb_topv (v' := .ref r0) rfl ?_
  refine lv_astore (lv' := [(5, .ref r0), (4, .ref q0), (0, .ref h), (1, .int 0), (2, .int 1), (3, .int p0)]) hx hb dX2_quickerToAdd_12 hl (by decide) rfl (fun ls hl => ?_)
  refine lv_aload hx hb dX2_quickerToAdd_14 (lv_at hl 1 rfl) ?_
  refine lv_ifnull hx hb dX2_quickerToAdd_16 ?_
  refine lv_aload hx hb dX2_quickerToAdd_19 (lv_at hl 0 rfl) ?_
  refine lv_ifnonnull (tgt := 26) hx hb dX2_quickerToAdd_21 (by decide) ?_
  refine lv_aload_n hx hb dX2_quickerToAdd_26 rfl (lv_at hl 2 rfl) ?_
  refine lv_aload hx hb dX2_quickerToAdd_27 (lv_at hl 1 rfl) ?_
  refine lv_iload_n hx hb dX2_quickerToAdd_29 rfl (lv_at hl 5 rfl) ?_
  obtain ⟨x1, hx1, hf⟩ := obd_e hf
  refine sb_Vd (As := [.ref q0, .int p0]) (rest := []) ⟨hx, hb, hml, hown, hts⟩ (fun sz => c_X2_secondsByAdding l dC dI cI cF cJ cD h fa tr q0 q1 q2 q3 q4 q5 q6 q7 q8 t1 t2 t3 t4 t5 t6 t7 t8 rw Hb F Tr p0  x1 hx1 sz) (cwV 2 hts (g_V q290 q291 q292 q172 q289) rfl rfl rfl pc_X2_secondsByAdding ⟨Nat.le_of_ble_eq_true rfl, Nat.le_of_ble_eq_true rfl⟩) 0 2 rfl rfl hK hP hD hS hA [0, 1, 2, 3, 4, 5, 6, 7, 8, 9, 10, 20, 21, 22, 23, 24, 25, 26, 27, 28] [11, 12, 13, 14, 15, 16, 17, 18, 19] rfl rfl (by decide) (by decide) (by decide) (fun _ _ _ _ h => h) (fun _ _ _ => trivial) rfl rfl hl.1 (Nat.le_of_ble_eq_true rfl) dX2_quickerToAdd_30 ⟨hkc, hks⟩ (fun r9 u H locs hr9 hP hD hS => ?_)
  have hr9 := Eq.symm hr9
  subst hr9
  have hP : va_P (dC, dI) vwCl (wHB cI cF cJ h fa tr rw Hb ++ (wFR cI cF cJ q0 q1 q2 q3 q4 q5 q6 q7 q8 F ++ (wFR cI cF cJ r0 r1 r2 r3 r4 r5 r6 r7 r8 F2 ++ (wFR cI cF cJ tr t1 t2 t3 t4 t5 t6 t7 t8 x1.2)))) H := hP.sub [9, 10, 11, 12, 13, 14, 15, 16, 17, 18, 19, 0, 1, 2, 3, 4, 5, 6, 7, 8, 20, 21, 22, 23, 24, 25, 26, 27, 28] rfl
  have hD : va_D A (wHB cI cF cJ h fa tr rw Hb ++ (wFR cI cF cJ q0 q1 q2 q3 q4 q5 q6 q7 q8 F ++ (wFR cI cF cJ r0 r1 r2 r3 r4 r5 r6 r7 r8 F2 ++ (wFR cI cF cJ tr t1 t2 t3 t4 t5 t6 t7 t8 x1.2)))) := hD.sub [9, 10, 11, 12, 13, 14, 15, 16, 17, 18, 19, 0, 1, 2, 3, 4, 5, 6, 7, 8, 20, 21, 22, 23, 24, 25, 26, 27, 28] (by decide) rfl
  refine lv_dstore (lv' := [(6, .double x1.1), (5, .ref r0), (4, .ref q0), (0, .ref h), (1, .int 0), (2, .int 1), (3, .int p0)]) hx hb dX2_quickerToAdd_33 hl (by decide) rfl (fun ls hl => ?_)
  refine lv_aload_n hx hb dX2_quickerToAdd_35 rfl (lv_at hl 3 rfl) ?_
  refine lv_aload hx hb dX2_quickerToAdd_36 (lv_at hl 1 rfl) ?_
  refine lv_iload_n hx hb dX2_quickerToAdd_38 rfl (lv_at hl 6 rfl) ?_
  obtain ⟨x2, hx2, hf⟩ := obd_e hf
  refine sb_Vd (As := [.ref r0, .int p0]) (rest := []) ⟨hx, hb, hml, hown, hts⟩ (fun sz => c_X2_secondsByAdding l dC dI cI cF cJ cD h fa tr r0 r1 r2 r3 r4 r5 r6 r7 r8 t1 t2 t3 t4 t5 t6 t7 t8 rw Hb F2 x1.2 p0  x2 hx2 sz) (cwV 2 hts (g_V q290 q291 q292 q172 q289) rfl rfl rfl pc_X2_secondsByAdding ⟨Nat.le_of_ble_eq_true rfl, Nat.le_of_ble_eq_true rfl⟩) 0 2 rfl rfl hK hP hD hS hA [0, 1, 11, 12, 13, 14, 15, 16, 17, 18, 19, 20, 21, 22, 23, 24, 25, 26, 27, 28] [2, 3, 4, 5, 6, 7, 8, 9, 10] rfl rfl (by decide) (by decide) (by decide) (fun _ _ _ _ h => h) (fun _ _ _ => trivial) rfl rfl hl.1 (Nat.le_of_ble_eq_true rfl) dX2_quickerToAdd_39 ⟨hkc, hks⟩ (fun r9 u H locs hr9 hP hD hS => ?_)
  have hr9 := Eq.symm hr9
  subst hr9
  have hP : va_P (dC, dI) vwCl (wHB cI cF cJ h fa tr rw Hb ++ (wFR cI cF cJ q0 q1 q2 q3 q4 q5 q6 q7 q8 F ++ (wFR cI cF cJ r0 r1 r2 r3 r4 r5 r6 r7 r8 F2 ++ (wFR cI cF cJ tr t1 t2 t3 t4 t5 t6 t7 t8 x2.2)))) H := hP.sub [9, 10, 0, 1, 2, 3, 4, 5, 6, 7, 8, 11, 12, 13, 14, 15, 16, 17, 18, 19, 20, 21, 22, 23, 24, 25, 26, 27, 28] rfl
  have hD : va_D A (wHB cI cF cJ h fa tr rw Hb ++ (wFR cI cF cJ q0 q1 q2 q3 q4 q5 q6 q7 q8 F ++ (wFR cI cF cJ r0 r1 r2 r3 r4 r5 r6 r7 r8 F2 ++ (wFR cI cF cJ tr t1 t2 t3 t4 t5 t6 t7 t8 x2.2)))) := hD.sub [9, 10, 0, 1, 2, 3, 4, 5, 6, 7, 8, 11, 12, 13, 14, 15, 16, 17, 18, 19, 20, 21, 22, 23, 24, 25, 26, 27, 28] (by decide) rfl
  refine lv_dstore (lv' := [(8, .double x2.1), (6, .double x1.1), (5, .ref r0), (4, .ref q0), (0, .ref h), (1, .int 0), (2, .int 1), (3, .int p0)]) hx hb dX2_quickerToAdd_42 hl (by decide) rfl (fun ls hl => ?_)
  refine lv_dload hx hb dX2_quickerToAdd_44 (lv_at hl 1 rfl) ?_
  refine lv_dload hx hb dX2_quickerToAdd_46 (lv_at hl 0 rfl) ?_
  refine lv_dcmp hx hb dX2_quickerToAdd_48 ?_
  refine lv_topi (fun v3 ev3 => ?_)
  have hf := bnd_all hf v3 ev3
  refine lv_if_ne (tgt := 58) hx hb dX2_quickerToAdd_49 (by decide) (fun c4 => ?_) (fun c4 => ?_)
  · have hf := ite_f hf c4
    refine lv_dload hx hb dX2_quickerToAdd_58 (lv_at hl 1 rfl) ?_
    refine lv_dload hx hb dX2_quickerToAdd_60 (lv_at hl 0 rfl) ?_
    refine lv_dcmp hx hb dX2_quickerToAdd_62 ?_
    refine lv_topi (fun v5 ev5 => ?_)
    have hf := bnd_all hf v5 ev5
    refine lv_if_ge (tgt := 70) hx hb dX2_quickerToAdd_63 (by decide) (fun c6 => ?_) (fun c6 => ?_)
    · have hf := ite_t hf c6
      refine lv_iload_n hx hb dX2_quickerToAdd_70 rfl (lv_at hl 6 rfl) ?_
      obtain rfl := Option.some.inj hf
      exact W.iret (v := 1) hx hb hr (fun t ht hW => ⟨⟨_, (), rfl, rfl, by rw [ht]; exact hP, hD⟩, hS.F ht⟩) hS.2.2 dX2_quickerToAdd_71
    · have hf := ite_f hf c6
      refine lv_iload_n hx hb dX2_quickerToAdd_66 rfl (lv_at hl 5 rfl) ?_
      refine lv_goto (tgt := 71) hx hb dX2_quickerToAdd_67 (by decide) ?_
      obtain rfl := Option.some.inj hf
      exact W.iret (v := 0) hx hb hr (fun t ht hW => ⟨⟨_, (), rfl, rfl, by rw [ht]; exact hP, hD⟩, hS.F ht⟩) hS.2.2 dX2_quickerToAdd_71
  · have hf := ite_t hf c4
    refine lv_iload_n hx hb dX2_quickerToAdd_52 rfl (lv_at hl 5 rfl) ?_
    refine lv_iload_n hx hb dX2_quickerToAdd_53 rfl (lv_at hl 6 rfl) ?_
    refine va_mmin hx hb (hml.trans hl.1.symm) hown (hts _ q294) (hts _ q144) (hts _ q61) (hts _ q145) (Nat.le_of_ble_eq_true rfl) (Nat.le_of_ble_eq_true rfl) hkc hks dX2_quickerToAdd_54 ?_
    refine lv_topi (fun v7 ev7 => ?_)
    have hf := bnd_all hf v7 ev7
    obtain rfl := Option.some.inj hf
    exact W.iret (v := v7) hx hb hr (fun t ht hW => ⟨⟨_, (), rfl, rfl, by rw [ht]; exact hP, hD⟩, hS.F ht⟩) hS.2.2 dX2_quickerToAdd_57
noncomputable def f_X2_quicker (Hb : HB) (F : FR) (F2 : FR) (Tr : FR) (p0 : Int32) : Option (Int32 × FR) := obd (f_X2_foundFrame Hb 0) fun x1 => obd (f_X2_foundFrame Hb 1) fun x2 => if (0 : Int32) ≤ p0 then (bnd (p0.toInt64) fun (v4 : Int64) => obd (f_X1_hasRodsFor F v4) fun x5 => if x5 = 0 then (some ((-1), Tr)) else (bnd (p0.toInt64) fun (v7 : Int64) => obd (f_X1_hasRodsFor F2 v7) fun x8 => if x8 = 0 then (some ((-1), Tr)) else (obd (f_X2_quickerToAdd Hb F F2 Tr p0) fun x10 => some (x10.1, x10.2)))) else (none)
theorem pc_X2_quicker : yX2_quicker.cls = RX2 ∧ yX2_quicker.cls ≠ "java/lang/invoke/MethodHandle" ∧ yX2_quicker.cls ≠ "java/lang/invoke/VarHandle" ∧ (parseMethodDescriptor yX2_quicker.desc).map (fun d => d.parameters.length) = some 3 := by decide +kernel
abbrev rm_X2_quicker : Room := { frames := 7, cells := 0, slots := 0, locals := 179 }
set_option maxHeartbeats 4000000 in
set_option maxRecDepth 100000 in
theorem c_X2_quicker (l : Launch) (dC : Nat → ClassId) (dI : Nat → Nat → Nat) (cI cF cJ cD : ClassId) (h fa tr q0 q1 q2 q3 q4 q5 q6 q7 q8 r0 r1 r2 r3 r4 r5 r6 r7 r8 t1 t2 t3 t4 t5 t6 t7 t8 : Nat) (rw : Nat → Option Nat) (Hb : HB) (F : FR) (F2 : FR) (Tr : FR) (p0 : Int32) (hq0 : f_X2_frameAt rw 0 = some (some q0)) (hq1 : f_X2_frameAt rw 1 = some (some r0)) (res : (Int32 × FR)) (hf : f_X2_quicker Hb F F2 Tr p0 = some res) (sz : Nat) : Met l yX2_quicker (ws_ yX2_quicker cX2_quicker 6 (some .int)) rm_X2_quicker (sbPre (dC, dI) (TY cI cF cJ cD) (wHB cI cF cJ h fa tr rw Hb ++ (wFR cI cF cJ q0 q1 q2 q3 q4 q5 q6 q7 q8 F ++ (wFR cI cF cJ r0 r1 r2 r3 r4 r5 r6 r7 r8 F2 ++ (wFR cI cF cJ tr t1 t2 t3 t4 t5 t6 t7 t8 Tr)))) E0 sz [.ref h, .int 0, .int 1, .int p0]) (va_Qi (fun (r : Int32) (_ : Unit) => r = res.1) (sbEnd (dC, dI) (fun _ => wHB cI cF cJ h fa tr rw Hb ++ (wFR cI cF cJ q0 q1 q2 q3 q4 q5 q6 q7 q8 F ++ (wFR cI cF cJ r0 r1 r2 r3 r4 r5 r6 r7 r8 F2 ++ (wFR cI cF cJ tr t1 t2 t3 t4 t5 t6 t7 t8 res.2)))) (va_A (wHB cI cF cJ h fa tr rw Hb ++ (wFR cI cF cJ q0 q1 q2 q3 q4 q5 q6 q7 q8 F ++ (wFR cI cF cJ r0 r1 r2 r3 r4 r5 r6 r7 r8 F2 ++ (wFR cI cF cJ tr t1 t2 t3 t4 t5 t6 t7 t8 Tr)))) sz)) (va_A (wHB cI cF cJ h fa tr rw Hb ++ (wFR cI cF cJ q0 q1 q2 q3 q4 q5 q6 q7 q8 F ++ (wFR cI cF cJ r0 r1 r2 r3 r4 r5 r6 r7 r8 F2 ++ (wFR cI cF cJ tr t1 t2 t3 t4 t5 t6 t7 t8 Tr)))) sz)) 0 0 (va_A (wHB cI cF cJ h fa tr rw Hb ++ (wFR cI cF cJ q0 q1 q2 q3 q4 q5 q6 q7 q8 F ++ (wFR cI cF cJ r0 r1 r2 r3 r4 r5 r6 r7 r8 F2 ++ (wFR cI cF cJ tr t1 t2 t3 t4 t5 t6 t7 t8 Tr)))) sz) := by
  refine Met.ofW (cc := cX2_quicker) (maxL := 6) (ret := (some .int)) (by decide) rfl ?_
  intro p e s m args below meth c s₁ B hml hv
  obtain ⟨rfl, hsz, hP, hK, hD0, hE⟩ := hv
  have hx := B.exec
  have hb := B.bytes
  have hr := B.returns
  have hts0 := atoms_spec (ws := ws_ yX2_quicker cX2_quicker 6 (some .int)) B.pre
  have hts := fun (w : Cond) (h : w ∈ LW) => hts0 w (List.mem_cons_of_mem _ h)
  have hown : s.vm.findClass RX2 = some m.cls := findClass_of_methodNamed B.named
  have hlocks := B.notSynchronized
  subst hsz
  have hD := hD0.self (sz := s.heap.size)
  generalize hAe : va_A (wHB cI cF cJ h fa tr rw Hb ++ (wFR cI cF cJ q0 q1 q2 q3 q4 q5 q6 q7 q8 F ++ (wFR cI cF cJ r0 r1 r2 r3 r4 r5 r6 r7 r8 F2 ++ (wFR cI cF cJ tr t1 t2 t3 t4 t5 t6 t7 t8 Tr)))) s.heap.size = A at hD ⊢
  have hA : ∀ q : Nat, s.heap.size ≤ q → A q := fun q h => by rw [← hAe]; exact Or.inr h
  have hS : va_S A s.heap s.heap [] := va_S.rf
  have hkc := Nat.zero_le rm_X2_quicker.cells
  have hks := Nat.zero_le rm_X2_quicker.slots
  have hl := lv_entry ([.ref h, .int 0, .int 1, .int p0]) (n := 6) (Nat.le_of_ble_eq_true rfl)
  rw [lg_entry_eq]
  generalize (lg_sl ([.ref h, .int 0, .int 1, .int p0]) ++ List.replicate (6 - (lg_sl ([.ref h, .int 0, .int 1, .int p0])).length) Slot.unset).toArray = ls at hl ⊢
  have hl : lv_has ls 6 [(0, .ref h), (1, .int 0), (2, .int 1), (3, .int p0)] := hl
  rw [f_X2_quicker] at hf
  refine lv_aload_n hx hb dX2_quicker_0 rfl (lv_at hl 0 rfl) ?_
  refine lv_iload_n hx hb dX2_quicker_1 rfl (lv_at hl 1 rfl) ?_
  obtain ⟨x1, hx1, hf⟩ := obd_e hf
  refine sb_Vq (As := [.int 0]) (rest := []) ⟨hx, hb, hml, hown, hts⟩ (fun sz => c_X2_foundFrame l dC dI cI cF cJ cD h fa tr q0 rw Hb 0 hq0 x1 hx1 sz) (cwV 1 hts (g_V q174 q175 q176 q172 q166) rfl rfl rfl pc_X2_foundFrame ⟨Nat.le_of_ble_eq_true rfl, Nat.le_of_ble_eq_true rfl⟩) 0 2 rfl rfl hK hP hD hS hA [0, 1] [2, 3, 4, 5, 6, 7, 8, 9, 10, 11, 12, 13, 14, 15, 16, 17, 18, 19, 20, 21, 22, 23, 24, 25, 26, 27, 28] rfl rfl (by decide) (by decide) (by decide) (fun _ _ _ _ h => h) (fun _ _ _ => trivial) rfl rfl hl.1 (Nat.le_of_ble_eq_true rfl) dX2_quicker_2 ⟨hkc, hks⟩ (fun r9 u H locs hr9 hP hD hS => ?_)
  have hr9 := Eq.symm hr9
  subst hr9
  have hP : va_P (dC, dI) vwCl (wHB cI cF cJ h fa tr rw Hb ++ (wFR cI cF cJ q0 q1 q2 q3 q4 q5 q6 q7 q8 F ++ (wFR cI cF cJ r0 r1 r2 r3 r4 r5 r6 r7 r8 F2 ++ (wFR cI cF cJ tr t1 t2 t3 t4 t5 t6 t7 t8 Tr)))) H := hP.sub [27, 28, 0, 1, 2, 3, 4, 5, 6, 7, 8, 9, 10, 11, 12, 13, 14, 15, 16, 17, 18, 19, 20, 21, 22, 23, 24, 25, 26] rfl
  have hD : va_D A (wHB cI cF cJ h fa tr rw Hb ++ (wFR cI cF cJ q0 q1 q2 q3 q4 q5 q6 q7 q8 F ++ (wFR cI cF cJ r0 r1 r2 r3 r4 r5 r6 r7 r8 F2 ++ (wFR cI cF cJ tr t1 t2 t3 t4 t5 t6 t7 t8 Tr)))) := hD.sub [27, 28, 0, 1, 2, 3, 4, 5, 6, 7, 8, 9, 10, 11, 12, 13, 14, 15, 16, 17, 18, 19, 20, 21, 22, 23, 24, 25, 26] (by decide) rfl
  refine lv_astore (lv' := [(4, .ref q0), (0, .ref h), (1, .int 0), (2, .int 1), (3, .int p0)]) hx hb dX2_quicker_5 hl (by decide) rfl (fun ls hl => ?_)
  refine lv_aload_n hx hb dX2_quicker_7 rfl (lv_at hl 1 rfl) ?_
  refine lv_iload_n hx hb dX2_quicker_8 rfl (lv_at hl 3 rfl) ?_
  obtain ⟨x2, hx2, hf⟩ := obd_e hf
  refine sb_Vq (As := [.int 1]) (rest := []) ⟨hx, hb, hml, hown, hts⟩ (fun sz => c_X2_foundFrame l dC dI cI cF cJ cD h fa tr r0 rw Hb 1 hq1 x2 hx2 sz) (cwV 1 hts (g_V q174 q175 q176 q172 q166) rfl rfl rfl pc_X2_foundFrame ⟨Nat.le_of_ble_eq_true rfl, Nat.le_of_ble_eq_true rfl⟩) 0 2 rfl rfl hK hP hD hS hA [0, 1] [2, 3, 4, 5, 6, 7, 8, 9, 10, 11, 12, 13, 14, 15, 16, 17, 18, 19, 20, 21, 22, 23, 24, 25, 26, 27, 28] rfl rfl (by decide) (by decide) (by decide) (fun _ _ _ _ h => h) (fun _ _ _ => trivial) rfl rfl hl.1 (Nat.le_of_ble_eq_true rfl) dX2_quicker_9 ⟨hkc, hks⟩ (fun r9 u H locs hr9 hP hD hS => ?_)
  have hr9 := Eq.symm hr9
  subst hr9
  have hP : va_P (dC, dI) vwCl (wHB cI cF cJ h fa tr rw Hb ++ (wFR cI cF cJ q0 q1 q2 q3 q4 q5 q6 q7 q8 F ++ (wFR cI cF cJ r0 r1 r2 r3 r4 r5 r6 r7 r8 F2 ++ (wFR cI cF cJ tr t1 t2 t3 t4 t5 t6 t7 t8 Tr)))) H := hP.sub [27, 28, 0, 1, 2, 3, 4, 5, 6, 7, 8, 9, 10, 11, 12, 13, 14, 15, 16, 17, 18, 19, 20, 21, 22, 23, 24, 25, 26] rfl
  have hD : va_D A (wHB cI cF cJ h fa tr rw Hb ++ (wFR cI cF cJ q0 q1 q2 q3 q4 q5 q6 q7 q8 F ++ (wFR cI cF cJ r0 r1 r2 r3 r4 r5 r6 r7 r8 F2 ++ (wFR cI cF cJ tr t1 t2 t3 t4 t5 t6 t7 t8 Tr)))) := hD.sub [27, 28, 0, 1, 2, 3, 4, 5, 6, 7, 8, 9, 10, 11, 12, 13, 14, 15, 16, 17, 18, 19, 20, 21, 22, 23, 24, 25, 26] (by decide) rfl
  refine lv_astore (lv' := [(5, .ref r0), (4, .ref q0), (0, .ref h), (1, .int 0), (2, .int 1), (3, .int p0)]) hx hb dX2_quicker_12 hl (by decide) rfl (fun ls hl => ?_)
  refine lv_iload_n hx hb dX2_quicker_14 rfl (lv_at hl 5 rfl) ?_
  refine lv_if_ge (tgt := 28) hx hb dX2_quicker_15 (by decide) (fun c3 => ?_) (fun c3 => ?_)
  · have hf := ite_t hf c3
    refine lv_aload hx hb dX2_quicker_28 (lv_at hl 1 rfl) ?_
    refine lv_iload_n hx hb dX2_quicker_30 rfl (lv_at hl 5 rfl) ?_
    refine lv_i2l hx hb dX2_quicker_31 rfl ?_
    refine lv_topl (fun v4 ev4 => ?_)
    have hf := bnd_all hf v4 ev4
    obtain ⟨x5, hx5, hf⟩ := obd_e hf
    refine sb_Vi (As := [.long v4]) (rest := []) ⟨hx, hb, hml, hown, hts⟩ (fun sz => c_X1_hasRodsFor l dC dI cI cF cJ cD q0 q1 q2 q3 q4 q5 q6 q7 q8 F v4  x5 hx5 sz) (cwV 1 hts (g_V q202 q203 q204 q56 q46) rfl rfl rfl pc_X1_hasRodsFor ⟨Nat.le_of_ble_eq_true rfl, Nat.le_of_ble_eq_true rfl⟩) 0 1 rfl rfl hK hP hD hS hA [2, 3, 4, 5, 6, 7, 8, 9, 10] [0, 1, 11, 12, 13, 14, 15, 16, 17, 18, 19, 20, 21, 22, 23, 24, 25, 26, 27, 28] rfl rfl (by decide) (by decide) (by decide) (fun _ _ _ _ h => h) (fun _ _ _ => trivial) rfl rfl hl.1 (Nat.le_of_ble_eq_true rfl) dX2_quicker_32 ⟨hkc, hks⟩ (fun r9 u H locs hr9 hP hD hS => ?_)
    have hr9 := Eq.symm hr9
    subst hr9
    have hP : va_P (dC, dI) vwCl (wHB cI cF cJ h fa tr rw Hb ++ (wFR cI cF cJ q0 q1 q2 q3 q4 q5 q6 q7 q8 F ++ (wFR cI cF cJ r0 r1 r2 r3 r4 r5 r6 r7 r8 F2 ++ (wFR cI cF cJ tr t1 t2 t3 t4 t5 t6 t7 t8 Tr)))) H := hP.sub [0, 1, 20, 21, 22, 23, 24, 25, 26, 27, 28, 2, 3, 4, 5, 6, 7, 8, 9, 10, 11, 12, 13, 14, 15, 16, 17, 18, 19] rfl
    have hD : va_D A (wHB cI cF cJ h fa tr rw Hb ++ (wFR cI cF cJ q0 q1 q2 q3 q4 q5 q6 q7 q8 F ++ (wFR cI cF cJ r0 r1 r2 r3 r4 r5 r6 r7 r8 F2 ++ (wFR cI cF cJ tr t1 t2 t3 t4 t5 t6 t7 t8 Tr)))) := hD.sub [0, 1, 20, 21, 22, 23, 24, 25, 26, 27, 28, 2, 3, 4, 5, 6, 7, 8, 9, 10, 11, 12, 13, 14, 15, 16, 17, 18, 19] (by decide) rfl
    refine lv_if_eq (tgt := 48) hx hb dX2_quicker_35 (by decide) (fun c6 => ?_) (fun c6 => ?_)
    · have hf := ite_t hf c6
      refine lv_iconst (v := (-1)) hx hb dX2_quicker_48 (by decide) ?_
      obtain rfl := Option.some.inj hf
      exact W.iret (v := (-1)) hx hb hr (fun t ht hW => ⟨⟨_, (), rfl, rfl, by rw [ht]; exact hP, hD⟩, hS.F ht⟩) hS.2.2 dX2_quicker_49
    · have hf := ite_f hf c6
      refine lv_aload hx hb dX2_quicker_38 (lv_at hl 0 rfl) ?_
      refine lv_iload_n hx hb dX2_quicker_40 rfl (lv_at hl 5 rfl) ?_
      refine lv_i2l hx hb dX2_quicker_41 rfl ?_
      refine lv_topl (fun v7 ev7 => ?_)
      have hf := bnd_all hf v7 ev7
      obtain ⟨x8, hx8, hf⟩ := obd_e hf
      refine sb_Vi (As := [.long v7]) (rest := []) ⟨hx, hb, hml, hown, hts⟩ (fun sz => c_X1_hasRodsFor l dC dI cI cF cJ cD r0 r1 r2 r3 r4 r5 r6 r7 r8 F2 v7  x8 hx8 sz) (cwV 1 hts (g_V q202 q203 q204 q56 q46) rfl rfl rfl pc_X1_hasRodsFor ⟨Nat.le_of_ble_eq_true rfl, Nat.le_of_ble_eq_true rfl⟩) 0 1 rfl rfl hK hP hD hS hA [11, 12, 13, 14, 15, 16, 17, 18, 19] [0, 1, 2, 3, 4, 5, 6, 7, 8, 9, 10, 20, 21, 22, 23, 24, 25, 26, 27, 28] rfl rfl (by decide) (by decide) (by decide) (fun _ _ _ _ h => h) (fun _ _ _ => trivial) rfl rfl hl.1 (Nat.le_of_ble_eq_true rfl) dX2_quicker_42 ⟨hkc, hks⟩ (fun r9 u H locs hr9 hP hD hS => ?_)
      have hr9 := Eq.symm hr9
      subst hr9
      have hP : va_P (dC, dI) vwCl (wHB cI cF cJ h fa tr rw Hb ++ (wFR cI cF cJ q0 q1 q2 q3 q4 q5 q6 q7 q8 F ++ (wFR cI cF cJ r0 r1 r2 r3 r4 r5 r6 r7 r8 F2 ++ (wFR cI cF cJ tr t1 t2 t3 t4 t5 t6 t7 t8 Tr)))) H := hP.sub [0, 1, 2, 3, 4, 5, 6, 7, 8, 9, 10, 20, 21, 22, 23, 24, 25, 26, 27, 28, 11, 12, 13, 14, 15, 16, 17, 18, 19] rfl
      have hD : va_D A (wHB cI cF cJ h fa tr rw Hb ++ (wFR cI cF cJ q0 q1 q2 q3 q4 q5 q6 q7 q8 F ++ (wFR cI cF cJ r0 r1 r2 r3 r4 r5 r6 r7 r8 F2 ++ (wFR cI cF cJ tr t1 t2 t3 t4 t5 t6 t7 t8 Tr)))) := hD.sub [0, 1, 2, 3, 4, 5, 6, 7, 8, 9, 10, 20, 21, 22, 23, 24, 25, 26, 27, 28, 11, 12, 13, 14, 15, 16, 17, 18, 19] (by decide) rfl
      refine lv_if_ne (tgt := 50) hx hb dX2_quicker_45 (by decide) (fun c9 => ?_) (fun c9 => ?_)
      · have hf := ite_f hf c9
        refine lv_aload_n hx hb dX2_quicker_50 rfl (lv_at hl 2 rfl) ?_
        refine lv_iload_n hx hb dX2_quicker_51 rfl (lv_at hl 3 rfl) ?_
        refine lv_iload_n hx hb dX2_quicker_52 rfl (lv_at hl 4 rfl) ?_
        refine lv_iload_n hx hb dX2_quicker_53 rfl (lv_at hl 5 rfl) ?_
        obtain ⟨x10, hx10, hf⟩ := obd_e hf
        refine sb_Vi (As := [.int 0, .int 1, .int p0]) (rest := []) ⟨hx, hb, hml, hown, hts⟩ (fun sz => c_X2_quickerToAdd l dC dI cI cF cJ cD h fa tr q0 q1 q2 q3 q4 q5 q6 q7 q8 r0 r1 r2 r3 r4 r5 r6 r7 r8 t1 t2 t3 t4 t5 t6 t7 t8 rw Hb F F2 Tr p0 hq0 hq1 x10 hx10 sz) (cwV 3 hts (g_V q296 q297 q298 q172 q295) rfl rfl rfl pc_X2_quickerToAdd ⟨Nat.le_of_ble_eq_true rfl, Nat.le_of_ble_eq_true rfl⟩) 0 2 rfl rfl hK hP hD hS hA [0, 1, 2, 3, 4, 5, 6, 7, 8, 9, 10, 11, 12, 13, 14, 15, 16, 17, 18, 19, 20, 21, 22, 23, 24, 25, 26, 27, 28] [] rfl rfl (by decide) (by decide) (by decide) (fun _ _ _ _ h => h) (fun _ _ _ => trivial) rfl rfl hl.1 (Nat.le_of_ble_eq_true rfl) dX2_quicker_54 ⟨hkc, hks⟩ (fun r9 u H locs hr9 hP hD hS => ?_)
        have hr9 := Eq.symm hr9
        subst hr9
        have hP : va_P (dC, dI) vwCl (wHB cI cF cJ h fa tr rw Hb ++ (wFR cI cF cJ q0 q1 q2 q3 q4 q5 q6 q7 q8 F ++ (wFR cI cF cJ r0 r1 r2 r3 r4 r5 r6 r7 r8 F2 ++ (wFR cI cF cJ tr t1 t2 t3 t4 t5 t6 t7 t8 x10.2)))) H := hP
        have hD : va_D A (wHB cI cF cJ h fa tr rw Hb ++ (wFR cI cF cJ q0 q1 q2 q3 q4 q5 q6 q7 q8 F ++ (wFR cI cF cJ r0 r1 r2 r3 r4 r5 r6 r7 r8 F2 ++ (wFR cI cF cJ tr t1 t2 t3 t4 t5 t6 t7 t8 x10.2)))) := hD
        obtain rfl := Option.some.inj hf
        exact W.iret (v := x10.1) hx hb hr (fun t ht hW => ⟨⟨_, (), rfl, rfl, by rw [ht]; exact hP, hD⟩, hS.F ht⟩) hS.2.2 dX2_quicker_57
      · have hf := ite_t hf c9
        refine lv_iconst (v := (-1)) hx hb dX2_quicker_48 (by decide) ?_
        obtain rfl := Option.some.inj hf
        exact W.iret (v := (-1)) hx hb hr (fun t ht hW => ⟨⟨_, (), rfl, rfl, by rw [ht]; exact hP, hD⟩, hS.F ht⟩) hS.2.2 dX2_quicker_49
  · have hf := ite_f hf c3
    cases hf
noncomputable def f_X2_pushesOfAll (Hb : HB) (F : FR) (F2 : FR) : Option (Int32) := bnd (0 + (fPu F)) fun (v1 : Int32) => bnd (v1 + (fPu F2)) fun (v2 : Int32) => some v2
theorem pc_X2_pushesOfAll : yX2_pushesOfAll.cls = RX2 ∧ yX2_pushesOfAll.cls ≠ "java/lang/invoke/MethodHandle" ∧ yX2_pushesOfAll.cls ≠ "java/lang/invoke/VarHandle" ∧ (parseMethodDescriptor yX2_pushesOfAll.desc).map (fun d => d.parameters.length) = some 0 := by decide +kernel
abbrev rm_X2_pushesOfAll : Room := { frames := 1, cells := 0, slots := 0, locals := 21 }
set_option maxHeartbeats 4000000 in
set_option maxRecDepth 100000 in
theorem c_X2_pushesOfAll (l : Launch) (dC : Nat → ClassId) (dI : Nat → Nat → Nat) (cI cF cJ cD : ClassId) (h fa tr q0 q1 q2 q3 q4 q5 q6 q7 q8 r0 r1 r2 r3 r4 r5 r6 r7 r8 : Nat) (rw : Nat → Option Nat) (Hb : HB) (F : FR) (F2 : FR) (hr0 : rw (Int32.toNatClampNeg 0) = some q0) (hr1 : rw (Int32.toNatClampNeg 1) = some r0) (hr2 : rw (Int32.toNatClampNeg 2) = none) (hr3 : rw (Int32.toNatClampNeg 3) = none) (res : (Int32)) (hf : f_X2_pushesOfAll Hb F F2 = some res) (sz : Nat) : Met l yX2_pushesOfAll (ws_ yX2_pushesOfAll cX2_pushesOfAll 4 (some .int)) rm_X2_pushesOfAll (sbPre (dC, dI) (TY cI cF cJ cD) (wHB cI cF cJ h fa tr rw Hb ++ (wFR cI cF cJ q0 q1 q2 q3 q4 q5 q6 q7 q8 F ++ (wFR cI cF cJ r0 r1 r2 r3 r4 r5 r6 r7 r8 F2))) E0 sz [.ref h]) (va_Qi (fun (r : Int32) (_ : Unit) => r = res) (sbEnd (dC, dI) (fun _ => wHB cI cF cJ h fa tr rw Hb ++ (wFR cI cF cJ q0 q1 q2 q3 q4 q5 q6 q7 q8 F ++ (wFR cI cF cJ r0 r1 r2 r3 r4 r5 r6 r7 r8 F2))) (va_A (wHB cI cF cJ h fa tr rw Hb ++ (wFR cI cF cJ q0 q1 q2 q3 q4 q5 q6 q7 q8 F ++ (wFR cI cF cJ r0 r1 r2 r3 r4 r5 r6 r7 r8 F2))) sz)) (va_A (wHB cI cF cJ h fa tr rw Hb ++ (wFR cI cF cJ q0 q1 q2 q3 q4 q5 q6 q7 q8 F ++ (wFR cI cF cJ r0 r1 r2 r3 r4 r5 r6 r7 r8 F2))) sz)) 0 0 (va_A (wHB cI cF cJ h fa tr rw Hb ++ (wFR cI cF cJ q0 q1 q2 q3 q4 q5 q6 q7 q8 F ++ (wFR cI cF cJ r0 r1 r2 r3 r4 r5 r6 r7 r8 F2))) sz) := by
  refine Met.ofW (cc := cX2_pushesOfAll) (maxL := 4) (ret := (some .int)) (by decide) rfl ?_
  intro p e s m args below meth c s₁ B hml hv
  obtain ⟨rfl, hsz, hP, hK, hD0, hE⟩ := hv
  have hx := B.exec
  have hb := B.bytes
  have hr := B.returns
  have hts0 := atoms_spec (ws := ws_ yX2_pushesOfAll cX2_pushesOfAll 4 (some .int)) B.pre
  have hts := fun (w : Cond) (h : w ∈ LW) => hts0 w (List.mem_cons_of_mem _ h)
  have hown : s.vm.findClass RX2 = some m.cls := findClass_of_methodNamed B.named
  have hlocks := B.notSynchronized
  subst hsz
  have hD := hD0.self (sz := s.heap.size)
  generalize hAe : va_A (wHB cI cF cJ h fa tr rw Hb ++ (wFR cI cF cJ q0 q1 q2 q3 q4 q5 q6 q7 q8 F ++ (wFR cI cF cJ r0 r1 r2 r3 r4 r5 r6 r7 r8 F2))) s.heap.size = A at hD ⊢
  have hA : ∀ q : Nat, s.heap.size ≤ q → A q := fun q h => by rw [← hAe]; exact Or.inr h
  have hS : va_S A s.heap s.heap [] := va_S.rf
  have hkc := Nat.zero_le rm_X2_pushesOfAll.cells
  have hks := Nat.zero_le rm_X2_pushesOfAll.slots
  have hl := lv_entry ([.ref h]) (n := 4) (Nat.le_of_ble_eq_true rfl)
  rw [lg_entry_eq]
  generalize (lg_sl ([.ref h]) ++ List.replicate (4 - (lg_sl ([.ref h])).length) Slot.unset).toArray = ls at hl ⊢
  have hl : lv_has ls 4 [(0, .ref h)] := hl
  rw [f_X2_pushesOfAll] at hf
  refine lv_iconst (v := 0) hx hb dX2_pushesOfAll_0 (by decide) ?_
  refine lv_istore_n (lv' := [(1, .int 0), (0, .ref h)]) hx hb dX2_pushesOfAll_1 rfl hl (by decide) rfl (fun ls hl => ?_)
  refine lv_iconst (v := 0) hx hb dX2_pushesOfAll_2 (by decide) ?_
  refine lv_istore_n (lv' := [(2, .int 0), (1, .int 0), (0, .ref h)]) hx hb dX2_pushesOfAll_3 rfl hl (by decide) rfl (fun ls hl => ?_)
  refine lv_iload_n hx hb dX2_pushesOfAll_4 rfl (lv_at hl 0 rfl) ?_
  refine lv_aload_n hx hb dX2_pushesOfAll_5 rfl (lv_at hl 2 rfl) ?_
  refine va_get (D := (dC, dI)) (ci := 2) (v := .ref fa) (C := RX2) (T := TX2) (N := 4) hx hb hts iX2 hown hK hP 0 rfl rfl 0 (by decide) (hts _ q152) (fun _ h9 => h9) rfl dX2_pushesOfAll_6 ?_
  refine va_alen (v := 4) hx hb hK hP 1 1 rfl rfl rfl dX2_pushesOfAll_9 ?_
  refine lv_icmp_ge (tgt := 37) hx hb dX2_pushesOfAll_10 (by decide) (fun c9 => absurd c9 (by decide)) (fun _ => ?_)
  refine lv_aload_n hx hb dX2_pushesOfAll_13 rfl (lv_at hl 2 rfl) ?_
  refine va_get (D := (dC, dI)) (ci := 2) (v := .ref fa) (C := RX2) (T := TX2) (N := 4) hx hb hts iX2 hown hK hP 0 rfl rfl 0 (by decide) (hts _ q152) (fun _ h9 => h9) rfl dX2_pushesOfAll_14 ?_
  refine lv_iload_n hx hb dX2_pushesOfAll_17 rfl (lv_at hl 0 rfl) ?_
  refine va_aldq hx hb hK hP 1 1 rfl rfl (gin_in (by decide)) dX2_pushesOfAll_18 ?_
  refine sb_topv (v' := .ref q0) (congrArg va_rf (show _ = some q0 from hr0)) ?_
  refine lv_astore_n (lv' := [(3, .ref q0), (2, .int 0), (1, .int 0), (0, .ref h)]) hx hb dX2_pushesOfAll_19 rfl hl (by decide) rfl (fun ls hl => ?_)
  refine lv_aload_n hx hb dX2_pushesOfAll_20 rfl (lv_at hl 0 rfl) ?_
  refine lv_ifnull hx hb dX2_pushesOfAll_21 ?_
  refine lv_iload_n hx hb dX2_pushesOfAll_24 rfl (lv_at hl 2 rfl) ?_
  refine lv_aload_n hx hb dX2_pushesOfAll_25 rfl (lv_at hl 0 rfl) ?_
  refine va_get (D := (dC, dI)) (ci := 1) (v := .int (fPu F)) (C := RX1) (T := TX1) (N := 13) hx hb hts iX1 hown hK hP 2 rfl rfl 6 (by decide) (hts _ q195) (fun _ h9 => h9) rfl dX2_pushesOfAll_26 ?_
  refine lv_iadd hx hb dX2_pushesOfAll_29 ?_
  refine lv_topi (fun v1 ev1 => ?_)
  have hf := bnd_all hf v1 ev1
  refine lv_istore_n (lv' := [(1, .int v1), (3, .ref q0), (2, .int 0), (0, .ref h)]) hx hb dX2_pushesOfAll_30 rfl hl (by decide) rfl (fun ls hl => ?_)
  refine lv_iinc (v := 1) (lv' := [(2, .int 1), (1, .int v1), (3, .ref q0), (0, .ref h)]) hx hb dX2_pushesOfAll_31 hl (k := 2) rfl (by decide) (by decide) rfl (fun ls hl => ?_)
  refine lv_goto (tgt := 4) hx hb dX2_pushesOfAll_34 (by decide) ?_
  refine lv_iload_n hx hb dX2_pushesOfAll_4 rfl (lv_at hl 0 rfl) ?_
  refine lv_aload_n hx hb dX2_pushesOfAll_5 rfl (lv_at hl 3 rfl) ?_
  refine va_get (D := (dC, dI)) (ci := 2) (v := .ref fa) (C := RX2) (T := TX2) (N := 4) hx hb hts iX2 hown hK hP 0 rfl rfl 0 (by decide) (hts _ q152) (fun _ h9 => h9) rfl dX2_pushesOfAll_6 ?_
  refine va_alen (v := 4) hx hb hK hP 1 1 rfl rfl rfl dX2_pushesOfAll_9 ?_
  refine lv_icmp_ge (tgt := 37) hx hb dX2_pushesOfAll_10 (by decide) (fun c9 => absurd c9 (by decide)) (fun _ => ?_)
  refine lv_aload_n hx hb dX2_pushesOfAll_13 rfl (lv_at hl 3 rfl) ?_
  refine va_get (D := (dC, dI)) (ci := 2) (v := .ref fa) (C := RX2) (T := TX2) (N := 4) hx hb hts iX2 hown hK hP 0 rfl rfl 0 (by decide) (hts _ q152) (fun _ h9 => h9) rfl dX2_pushesOfAll_14 ?_
  refine lv_iload_n hx hb dX2_pushesOfAll_17 rfl (lv_at hl 0 rfl) ?_
  refine va_aldq hx hb hK hP 1 1 rfl rfl (gin_in (by decide)) dX2_pushesOfAll_18 ?_
  refine sb_topv (v' := .ref r0) (congrArg va_rf (show _ = some r0 from hr1)) ?_
  refine lv_astore_n (lv' := [(3, .ref r0), (2, .int 1), (1, .int v1), (0, .ref h)]) hx hb dX2_pushesOfAll_19 rfl hl (by decide) rfl (fun ls hl => ?_)
  refine lv_aload_n hx hb dX2_pushesOfAll_20 rfl (lv_at hl 0 rfl) ?_
  refine lv_ifnull hx hb dX2_pushesOfAll_21 ?_
  refine lv_iload_n hx hb dX2_pushesOfAll_24 rfl (lv_at hl 2 rfl) ?_
  refine lv_aload_n hx hb dX2_pushesOfAll_25 rfl (lv_at hl 0 rfl) ?_
  refine va_get (D := (dC, dI)) (ci := 1) (v := .int (fPu F2)) (C := RX1) (T := TX1) (N := 13) hx hb hts iX1 hown hK hP 11 rfl rfl 6 (by decide) (hts _ q195) (fun _ h9 => h9) rfl dX2_pushesOfAll_26 ?_
  refine lv_iadd hx hb dX2_pushesOfAll_29 ?_
  refine lv_topi (fun v2 ev2 => ?_)
  have hf := bnd_all hf v2 ev2
  refine lv_istore_n (lv' := [(1, .int v2), (3, .ref r0), (2, .int 1), (0, .ref h)]) hx hb dX2_pushesOfAll_30 rfl hl (by decide) rfl (fun ls hl => ?_)
  refine lv_iinc (v := 2) (lv' := [(2, .int 2), (1, .int v2), (3, .ref r0), (0, .ref h)]) hx hb dX2_pushesOfAll_31 hl (k := 2) rfl (by decide) (by decide) rfl (fun ls hl => ?_)
  refine lv_goto (tgt := 4) hx hb dX2_pushesOfAll_34 (by decide) ?_
  refine lv_iload_n hx hb dX2_pushesOfAll_4 rfl (lv_at hl 0 rfl) ?_
  refine lv_aload_n hx hb dX2_pushesOfAll_5 rfl (lv_at hl 3 rfl) ?_
  refine va_get (D := (dC, dI)) (ci := 2) (v := .ref fa) (C := RX2) (T := TX2) (N := 4) hx hb hts iX2 hown hK hP 0 rfl rfl 0 (by decide) (hts _ q152) (fun _ h9 => h9) rfl dX2_pushesOfAll_6 ?_
  refine va_alen (v := 4) hx hb hK hP 1 1 rfl rfl rfl dX2_pushesOfAll_9 ?_
  refine lv_icmp_ge (tgt := 37) hx hb dX2_pushesOfAll_10 (by decide) (fun c9 => absurd c9 (by decide)) (fun _ => ?_)
  refine lv_aload_n hx hb dX2_pushesOfAll_13 rfl (lv_at hl 3 rfl) ?_
  refine va_get (D := (dC, dI)) (ci := 2) (v := .ref fa) (C := RX2) (T := TX2) (N := 4) hx hb hts iX2 hown hK hP 0 rfl rfl 0 (by decide) (hts _ q152) (fun _ h9 => h9) rfl dX2_pushesOfAll_14 ?_
  refine lv_iload_n hx hb dX2_pushesOfAll_17 rfl (lv_at hl 0 rfl) ?_
  refine va_aldq hx hb hK hP 1 1 rfl rfl (gin_in (by decide)) dX2_pushesOfAll_18 ?_
  refine sb_topv (v' := .null) (congrArg va_rf (show _ = none from hr2)) ?_
  refine lv_astore_nN (lv' := [(3, .null), (2, .int 2), (1, .int v2), (0, .ref h)]) hx hb dX2_pushesOfAll_19 rfl hl (by decide) rfl (fun ls hl => ?_)
  refine lv_aload_nN hx hb dX2_pushesOfAll_20 rfl (lv_at hl 0 rfl) ?_
  refine lv_ifnullN (tgt := 31) hx hb dX2_pushesOfAll_21 (by decide) ?_
  refine lv_iinc (v := 3) (lv' := [(2, .int 3), (3, .null), (1, .int v2), (0, .ref h)]) hx hb dX2_pushesOfAll_31 hl (k := 1) rfl (by decide) (by decide) rfl (fun ls hl => ?_)
  refine lv_goto (tgt := 4) hx hb dX2_pushesOfAll_34 (by decide) ?_
  refine lv_iload_n hx hb dX2_pushesOfAll_4 rfl (lv_at hl 0 rfl) ?_
  refine lv_aload_n hx hb dX2_pushesOfAll_5 rfl (lv_at hl 3 rfl) ?_
  refine va_get (D := (dC, dI)) (ci := 2) (v := .ref fa) (C := RX2) (T := TX2) (N := 4) hx hb hts iX2 hown hK hP 0 rfl rfl 0 (by decide) (hts _ q152) (fun _ h9 => h9) rfl dX2_pushesOfAll_6 ?_
  refine va_alen (v := 4) hx hb hK hP 1 1 rfl rfl rfl dX2_pushesOfAll_9 ?_
  refine lv_icmp_ge (tgt := 37) hx hb dX2_pushesOfAll_10 (by decide) (fun c9 => absurd c9 (by decide)) (fun _ => ?_)
  refine lv_aload_n hx hb dX2_pushesOfAll_13 rfl (lv_at hl 3 rfl) ?_
  refine va_get (D := (dC, dI)) (ci := 2) (v := .ref fa) (C := RX2) (T := TX2) (N := 4) hx hb hts iX2 hown hK hP 0 rfl rfl 0 (by decide) (hts _ q152) (fun _ h9 => h9) rfl dX2_pushesOfAll_14 ?_
  refine lv_iload_n hx hb dX2_pushesOfAll_17 rfl (lv_at hl 0 rfl) ?_
  refine va_aldq hx hb hK hP 1 1 rfl rfl (gin_in (by decide)) dX2_pushesOfAll_18 ?_
  refine sb_topv (v' := .null) (congrArg va_rf (show _ = none from hr3)) ?_
  refine lv_astore_nN (lv' := [(3, .null), (2, .int 3), (1, .int v2), (0, .ref h)]) hx hb dX2_pushesOfAll_19 rfl hl (by decide) rfl (fun ls hl => ?_)
  refine lv_aload_nN hx hb dX2_pushesOfAll_20 rfl (lv_at hl 0 rfl) ?_
  refine lv_ifnullN (tgt := 31) hx hb dX2_pushesOfAll_21 (by decide) ?_
  refine lv_iinc (v := 4) (lv' := [(2, .int 4), (3, .null), (1, .int v2), (0, .ref h)]) hx hb dX2_pushesOfAll_31 hl (k := 1) rfl (by decide) (by decide) rfl (fun ls hl => ?_)
  refine lv_goto (tgt := 4) hx hb dX2_pushesOfAll_34 (by decide) ?_
  refine lv_iload_n hx hb dX2_pushesOfAll_4 rfl (lv_at hl 0 rfl) ?_
  refine lv_aload_n hx hb dX2_pushesOfAll_5 rfl (lv_at hl 3 rfl) ?_
  refine va_get (D := (dC, dI)) (ci := 2) (v := .ref fa) (C := RX2) (T := TX2) (N := 4) hx hb hts iX2 hown hK hP 0 rfl rfl 0 (by decide) (hts _ q152) (fun _ h9 => h9) rfl dX2_pushesOfAll_6 ?_
  refine va_alen (v := 4) hx hb hK hP 1 1 rfl rfl rfl dX2_pushesOfAll_9 ?_
  refine lv_icmp_ge (tgt := 37) hx hb dX2_pushesOfAll_10 (by decide) (fun _ => ?_) (fun c9 => absurd (by decide) c9)
  refine lv_iload_n hx hb dX2_pushesOfAll_37 rfl (lv_at hl 2 rfl) ?_
  obtain rfl := Option.some.inj hf
  exact W.iret (v := v2) hx hb hr (fun t ht hW => ⟨⟨_, (), rfl, rfl, by rw [ht]; exact hP, hD⟩, hS.F ht⟩) hS.2.2 dX2_pushesOfAll_38
noncomputable def f_X2_spilledByAll (Hb : HB) (F : FR) (F2 : FR) : Option (Int32) := bnd (0 + (fSp F)) fun (v1 : Int32) => bnd (v1 + (fSp F2)) fun (v2 : Int32) => some v2
theorem pc_X2_spilledByAll : yX2_spilledByAll.cls = RX2 ∧ yX2_spilledByAll.cls ≠ "java/lang/invoke/MethodHandle" ∧ yX2_spilledByAll.cls ≠ "java/lang/invoke/VarHandle" ∧ (parseMethodDescriptor yX2_spilledByAll.desc).map (fun d => d.parameters.length) = some 0 := by decide +kernel
abbrev rm_X2_spilledByAll : Room := { frames := 1, cells := 0, slots := 0, locals := 21 }
set_option maxHeartbeats 4000000 in
set_option maxRecDepth 100000 in
theorem c_X2_spilledByAll (l : Launch) (dC : Nat → ClassId) (dI : Nat → Nat → Nat) (cI cF cJ cD : ClassId) (h fa tr q0 q1 q2 q3 q4 q5 q6 q7 q8 r0 r1 r2 r3 r4 r5 r6 r7 r8 : Nat) (rw : Nat → Option Nat) (Hb : HB) (F : FR) (F2 : FR) (hr0 : rw (Int32.toNatClampNeg 0) = some q0) (hr1 : rw (Int32.toNatClampNeg 1) = some r0) (hr2 : rw (Int32.toNatClampNeg 2) = none) (hr3 : rw (Int32.toNatClampNeg 3) = none) (res : (Int32)) (hf : f_X2_spilledByAll Hb F F2 = some res) (sz : Nat) : Met l yX2_spilledByAll (ws_ yX2_spilledByAll cX2_spilledByAll 4 (some .int)) rm_X2_spilledByAll (sbPre (dC, dI) (TY cI cF cJ cD) (wHB cI cF cJ h fa tr rw Hb ++ (wFR cI cF cJ q0 q1 q2 q3 q4 q5 q6 q7 q8 F ++ (wFR cI cF cJ r0 r1 r2 r3 r4 r5 r6 r7 r8 F2))) E0 sz [.ref h]) (va_Qi (fun (r : Int32) (_ : Unit) => r = res) (sbEnd (dC, dI) (fun _ => wHB cI cF cJ h fa tr rw Hb ++ (wFR cI cF cJ q0 q1 q2 q3 q4 q5 q6 q7 q8 F ++ (wFR cI cF cJ r0 r1 r2 r3 r4 r5 r6 r7 r8 F2))) (va_A (wHB cI cF cJ h fa tr rw Hb ++ (wFR cI cF cJ q0 q1 q2 q3 q4 q5 q6 q7 q8 F ++ (wFR cI cF cJ r0 r1 r2 r3 r4 r5 r6 r7 r8 F2))) sz)) (va_A (wHB cI cF cJ h fa tr rw Hb ++ (wFR cI cF cJ q0 q1 q2 q3 q4 q5 q6 q7 q8 F ++ (wFR cI cF cJ r0 r1 r2 r3 r4 r5 r6 r7 r8 F2))) sz)) 0 0 (va_A (wHB cI cF cJ h fa tr rw Hb ++ (wFR cI cF cJ q0 q1 q2 q3 q4 q5 q6 q7 q8 F ++ (wFR cI cF cJ r0 r1 r2 r3 r4 r5 r6 r7 r8 F2))) sz) := by
  refine Met.ofW (cc := cX2_spilledByAll) (maxL := 4) (ret := (some .int)) (by decide) rfl ?_
  intro p e s m args below meth c s₁ B hml hv
  obtain ⟨rfl, hsz, hP, hK, hD0, hE⟩ := hv
  have hx := B.exec
  have hb := B.bytes
  have hr := B.returns
  have hts0 := atoms_spec (ws := ws_ yX2_spilledByAll cX2_spilledByAll 4 (some .int)) B.pre
  have hts := fun (w : Cond) (h : w ∈ LW) => hts0 w (List.mem_cons_of_mem _ h)
  have hown : s.vm.findClass RX2 = some m.cls := findClass_of_methodNamed B.named
  have hlocks := B.notSynchronized
  subst hsz
  have hD := hD0.self (sz := s.heap.size)
  generalize hAe : va_A (wHB cI cF cJ h fa tr rw Hb ++ (wFR cI cF cJ q0 q1 q2 q3 q4 q5 q6 q7 q8 F ++ (wFR cI cF cJ r0 r1 r2 r3 r4 r5 r6 r7 r8 F2))) s.heap.size = A at hD ⊢
  have hA : ∀ q : Nat, s.heap.size ≤ q → A q := fun q h => by rw [← hAe]; exact Or.inr h
  have hS : va_S A s.heap s.heap [] := va_S.rf
  have hkc := Nat.zero_le rm_X2_spilledByAll.cells
  have hks := Nat.zero_le rm_X2_spilledByAll.slots
  have hl := lv_entry ([.ref h]) (n := 4) (Nat.le_of_ble_eq_true rfl)
  rw [lg_entry_eq]
  generalize (lg_sl ([.ref h]) ++ List.replicate (4 - (lg_sl ([.ref h])).length) Slot.unset).toArray = ls at hl ⊢
  have hl : lv_has ls 4 [(0, .ref h)] := hl
  rw [f_X2_spilledByAll] at hf
  refine lv_iconst (v := 0) hx hb dX2_spilledByAll_0 (by decide) ?_
  refine lv_istore_n (lv' := [(1, .int 0), (0, .ref h)]) hx hb dX2_spilledByAll_1 rfl hl (by decide) rfl (fun ls hl => ?_)
  refine lv_iconst (v := 0) hx hb dX2_spilledByAll_2 (by decide) ?_
  refine lv_istore_n (lv' := [(2, .int 0), (1, .int 0), (0, .ref h)]) hx hb dX2_spilledByAll_3 rfl hl (by decide) rfl (fun ls hl => ?_)
  refine lv_iload_n hx hb dX2_spilledByAll_4 rfl (lv_at hl 0 rfl) ?_
  refine lv_aload_n hx hb dX2_spilledByAll_5 rfl (lv_at hl 2 rfl) ?_
  refine va_get (D := (dC, dI)) (ci := 2) (v := .ref fa) (C := RX2) (T := TX2) (N := 4) hx hb hts iX2 hown hK hP 0 rfl rfl 0 (by decide) (hts _ q152) (fun _ h9 => h9) rfl dX2_spilledByAll_6 ?_
  refine va_alen (v := 4) hx hb hK hP 1 1 rfl rfl rfl dX2_spilledByAll_9 ?_
  refine lv_icmp_ge (tgt := 37) hx hb dX2_spilledByAll_10 (by decide) (fun c9 => absurd c9 (by decide)) (fun _ => ?_)
  refine lv_aload_n hx hb dX2_spilledByAll_13 rfl (lv_at hl 2 rfl) ?_
  refine va_get (D := (dC, dI)) (ci := 2) (v := .ref fa) (C := RX2) (T := TX2) (N := 4) hx hb hts iX2 hown hK hP 0 rfl rfl 0 (by decide) (hts _ q152) (fun _ h9 => h9) rfl dX2_spilledByAll_14 ?_
  refine lv_iload_n hx hb dX2_spilledByAll_17 rfl (lv_at hl 0 rfl) ?_
  refine va_aldq hx hb hK hP 1 1 rfl rfl (gin_in (by decide)) dX2_spilledByAll_18 ?_
  refine sb_topv (v' := .ref q0) (congrArg va_rf (show _ = some q0 from hr0)) ?_
  refine lv_astore_n (lv' := [(3, .ref q0), (2, .int 0), (1, .int 0), (0, .ref h)]) hx hb dX2_spilledByAll_19 rfl hl (by decide) rfl (fun ls hl => ?_)
  refine lv_aload_n hx hb dX2_spilledByAll_20 rfl (lv_at hl 0 rfl) ?_
  refine lv_ifnull hx hb dX2_spilledByAll_21 ?_
  refine lv_iload_n hx hb dX2_spilledByAll_24 rfl (lv_at hl 2 rfl) ?_
  refine lv_aload_n hx hb dX2_spilledByAll_25 rfl (lv_at hl 0 rfl) ?_
  refine va_get (D := (dC, dI)) (ci := 1) (v := .int (fSp F)) (C := RX1) (T := TX1) (N := 13) hx hb hts iX1 hown hK hP 2 rfl rfl 10 (by decide) (hts _ q217) (fun _ h9 => h9) rfl dX2_spilledByAll_26 ?_
  refine lv_iadd hx hb dX2_spilledByAll_29 ?_
  refine lv_topi (fun v1 ev1 => ?_)
  have hf := bnd_all hf v1 ev1
  refine lv_istore_n (lv' := [(1, .int v1), (3, .ref q0), (2, .int 0), (0, .ref h)]) hx hb dX2_spilledByAll_30 rfl hl (by decide) rfl (fun ls hl => ?_)
  refine lv_iinc (v := 1) (lv' := [(2, .int 1), (1, .int v1), (3, .ref q0), (0, .ref h)]) hx hb dX2_spilledByAll_31 hl (k := 2) rfl (by decide) (by decide) rfl (fun ls hl => ?_)
  refine lv_goto (tgt := 4) hx hb dX2_spilledByAll_34 (by decide) ?_
  refine lv_iload_n hx hb dX2_spilledByAll_4 rfl (lv_at hl 0 rfl) ?_
  refine lv_aload_n hx hb dX2_spilledByAll_5 rfl (lv_at hl 3 rfl) ?_
  refine va_get (D := (dC, dI)) (ci := 2) (v := .ref fa) (C := RX2) (T := TX2) (N := 4) hx hb hts iX2 hown hK hP 0 rfl rfl 0 (by decide) (hts _ q152) (fun _ h9 => h9) rfl dX2_spilledByAll_6 ?_
  refine va_alen (v := 4) hx hb hK hP 1 1 rfl rfl rfl dX2_spilledByAll_9 ?_
  refine lv_icmp_ge (tgt := 37) hx hb dX2_spilledByAll_10 (by decide) (fun c9 => absurd c9 (by decide)) (fun _ => ?_)
  refine lv_aload_n hx hb dX2_spilledByAll_13 rfl (lv_at hl 3 rfl) ?_
  refine va_get (D := (dC, dI)) (ci := 2) (v := .ref fa) (C := RX2) (T := TX2) (N := 4) hx hb hts iX2 hown hK hP 0 rfl rfl 0 (by decide) (hts _ q152) (fun _ h9 => h9) rfl dX2_spilledByAll_14 ?_
  refine lv_iload_n hx hb dX2_spilledByAll_17 rfl (lv_at hl 0 rfl) ?_
  refine va_aldq hx hb hK hP 1 1 rfl rfl (gin_in (by decide)) dX2_spilledByAll_18 ?_
  refine sb_topv (v' := .ref r0) (congrArg va_rf (show _ = some r0 from hr1)) ?_
  refine lv_astore_n (lv' := [(3, .ref r0), (2, .int 1), (1, .int v1), (0, .ref h)]) hx hb dX2_spilledByAll_19 rfl hl (by decide) rfl (fun ls hl => ?_)
  refine lv_aload_n hx hb dX2_spilledByAll_20 rfl (lv_at hl 0 rfl) ?_
  refine lv_ifnull hx hb dX2_spilledByAll_21 ?_
  refine lv_iload_n hx hb dX2_spilledByAll_24 rfl (lv_at hl 2 rfl) ?_
  refine lv_aload_n hx hb dX2_spilledByAll_25 rfl (lv_at hl 0 rfl) ?_
  refine va_get (D := (dC, dI)) (ci := 1) (v := .int (fSp F2)) (C := RX1) (T := TX1) (N := 13) hx hb hts iX1 hown hK hP 11 rfl rfl 10 (by decide) (hts _ q217) (fun _ h9 => h9) rfl dX2_spilledByAll_26 ?_
  refine lv_iadd hx hb dX2_spilledByAll_29 ?_
  refine lv_topi (fun v2 ev2 => ?_)
  have hf := bnd_all hf v2 ev2
  refine lv_istore_n (lv' := [(1, .int v2), (3, .ref r0), (2, .int 1), (0, .ref h)]) hx hb dX2_spilledByAll_30 rfl hl (by decide) rfl (fun ls hl => ?_)
  refine lv_iinc (v := 2) (lv' := [(2, .int 2), (1, .int v2), (3, .ref r0), (0, .ref h)]) hx hb dX2_spilledByAll_31 hl (k := 2) rfl (by decide) (by decide) rfl (fun ls hl => ?_)
  refine lv_goto (tgt := 4) hx hb dX2_spilledByAll_34 (by decide) ?_
  refine lv_iload_n hx hb dX2_spilledByAll_4 rfl (lv_at hl 0 rfl) ?_
  refine lv_aload_n hx hb dX2_spilledByAll_5 rfl (lv_at hl 3 rfl) ?_
  refine va_get (D := (dC, dI)) (ci := 2) (v := .ref fa) (C := RX2) (T := TX2) (N := 4) hx hb hts iX2 hown hK hP 0 rfl rfl 0 (by decide) (hts _ q152) (fun _ h9 => h9) rfl dX2_spilledByAll_6 ?_
  refine va_alen (v := 4) hx hb hK hP 1 1 rfl rfl rfl dX2_spilledByAll_9 ?_
  refine lv_icmp_ge (tgt := 37) hx hb dX2_spilledByAll_10 (by decide) (fun c9 => absurd c9 (by decide)) (fun _ => ?_)
  refine lv_aload_n hx hb dX2_spilledByAll_13 rfl (lv_at hl 3 rfl) ?_
  refine va_get (D := (dC, dI)) (ci := 2) (v := .ref fa) (C := RX2) (T := TX2) (N := 4) hx hb hts iX2 hown hK hP 0 rfl rfl 0 (by decide) (hts _ q152) (fun _ h9 => h9) rfl dX2_spilledByAll_14 ?_
  refine lv_iload_n hx hb dX2_spilledByAll_17 rfl (lv_at hl 0 rfl) ?_
  refine va_aldq hx hb hK hP 1 1 rfl rfl (gin_in (by decide)) dX2_spilledByAll_18 ?_
  refine sb_topv (v' := .null) (congrArg va_rf (show _ = none from hr2)) ?_
  refine lv_astore_nN (lv' := [(3, .null), (2, .int 2), (1, .int v2), (0, .ref h)]) hx hb dX2_spilledByAll_19 rfl hl (by decide) rfl (fun ls hl => ?_)
  refine lv_aload_nN hx hb dX2_spilledByAll_20 rfl (lv_at hl 0 rfl) ?_
  refine lv_ifnullN (tgt := 31) hx hb dX2_spilledByAll_21 (by decide) ?_
  refine lv_iinc (v := 3) (lv' := [(2, .int 3), (3, .null), (1, .int v2), (0, .ref h)]) hx hb dX2_spilledByAll_31 hl (k := 1) rfl (by decide) (by decide) rfl (fun ls hl => ?_)
  refine lv_goto (tgt := 4) hx hb dX2_spilledByAll_34 (by decide) ?_
  refine lv_iload_n hx hb dX2_spilledByAll_4 rfl (lv_at hl 0 rfl) ?_
  refine lv_aload_n hx hb dX2_spilledByAll_5 rfl (lv_at hl 3 rfl) ?_
  refine va_get (D := (dC, dI)) (ci := 2) (v := .ref fa) (C := RX2) (T := TX2) (N := 4) hx hb hts iX2 hown hK hP 0 rfl rfl 0 (by decide) (hts _ q152) (fun _ h9 => h9) rfl dX2_spilledByAll_6 ?_
  refine va_alen (v := 4) hx hb hK hP 1 1 rfl rfl rfl dX2_spilledByAll_9 ?_
  refine lv_icmp_ge (tgt := 37) hx hb dX2_spilledByAll_10 (by decide) (fun c9 => absurd c9 (by decide)) (fun _ => ?_)
  refine lv_aload_n hx hb dX2_spilledByAll_13 rfl (lv_at hl 3 rfl) ?_
  refine va_get (D := (dC, dI)) (ci := 2) (v := .ref fa) (C := RX2) (T := TX2) (N := 4) hx hb hts iX2 hown hK hP 0 rfl rfl 0 (by decide) (hts _ q152) (fun _ h9 => h9) rfl dX2_spilledByAll_14 ?_
  refine lv_iload_n hx hb dX2_spilledByAll_17 rfl (lv_at hl 0 rfl) ?_
  refine va_aldq hx hb hK hP 1 1 rfl rfl (gin_in (by decide)) dX2_spilledByAll_18 ?_
  refine sb_topv (v' := .null) (congrArg va_rf (show _ = none from hr3)) ?_
  refine lv_astore_nN (lv' := [(3, .null), (2, .int 3), (1, .int v2), (0, .ref h)]) hx hb dX2_spilledByAll_19 rfl hl (by decide) rfl (fun ls hl => ?_)
  refine lv_aload_nN hx hb dX2_spilledByAll_20 rfl (lv_at hl 0 rfl) ?_
  refine lv_ifnullN (tgt := 31) hx hb dX2_spilledByAll_21 (by decide) ?_
  refine lv_iinc (v := 4) (lv' := [(2, .int 4), (3, .null), (1, .int v2), (0, .ref h)]) hx hb dX2_spilledByAll_31 hl (k := 1) rfl (by decide) (by decide) rfl (fun ls hl => ?_)
  refine lv_goto (tgt := 4) hx hb dX2_spilledByAll_34 (by decide) ?_
  refine lv_iload_n hx hb dX2_spilledByAll_4 rfl (lv_at hl 0 rfl) ?_
  refine lv_aload_n hx hb dX2_spilledByAll_5 rfl (lv_at hl 3 rfl) ?_
  refine va_get (D := (dC, dI)) (ci := 2) (v := .ref fa) (C := RX2) (T := TX2) (N := 4) hx hb hts iX2 hown hK hP 0 rfl rfl 0 (by decide) (hts _ q152) (fun _ h9 => h9) rfl dX2_spilledByAll_6 ?_
  refine va_alen (v := 4) hx hb hK hP 1 1 rfl rfl rfl dX2_spilledByAll_9 ?_
  refine lv_icmp_ge (tgt := 37) hx hb dX2_spilledByAll_10 (by decide) (fun _ => ?_) (fun c9 => absurd (by decide) c9)
  refine lv_iload_n hx hb dX2_spilledByAll_37 rfl (lv_at hl 2 rfl) ?_
  obtain rfl := Option.some.inj hf
  exact W.iret (v := v2) hx hb hr (fun t ht hW => ⟨⟨_, (), rfl, rfl, by rw [ht]; exact hP, hD⟩, hS.F ht⟩) hS.2.2 dX2_spilledByAll_38
noncomputable def f_X2_pairsThatShowTheSame (Hb : HB) (F : FR) (F2 : FR) : Option (Int32) := obd (f_X1_shownNumber F) fun x2 => obd (f_X1_shownNumber F2) fun x3 => bnd (lg_cmp x2 x3) fun (v4 : Int32) => if v4 = 0 then (some 1) else (some 0)
theorem pc_X2_pairsThatShowTheSame : yX2_pairsThatShowTheSame.cls = RX2 ∧ yX2_pairsThatShowTheSame.cls ≠ "java/lang/invoke/MethodHandle" ∧ yX2_pairsThatShowTheSame.cls ≠ "java/lang/invoke/VarHandle" ∧ (parseMethodDescriptor yX2_pairsThatShowTheSame.desc).map (fun d => d.parameters.length) = some 0 := by decide +kernel
abbrev rm_X2_pairsThatShowTheSame : Room := { frames := 4, cells := 0, slots := 0, locals := 86 }
set_option maxHeartbeats 4000000 in
set_option maxRecDepth 100000 in
theorem c_X2_pairsThatShowTheSame (l : Launch) (dC : Nat → ClassId) (dI : Nat → Nat → Nat) (cI cF cJ cD : ClassId) (h fa tr q0 q1 q2 q3 q4 q5 q6 q7 q8 r0 r1 r2 r3 r4 r5 r6 r7 r8 : Nat) (rw : Nat → Option Nat) (Hb : HB) (F : FR) (F2 : FR) (hr0 : rw (Int32.toNatClampNeg 0) = some q0) (hr1 : rw (Int32.toNatClampNeg 1) = some r0) (hr2 : rw (Int32.toNatClampNeg 2) = none) (hr3 : rw (Int32.toNatClampNeg 3) = none) (res : (Int32)) (hf : f_X2_pairsThatShowTheSame Hb F F2 = some res) (sz : Nat) : Met l yX2_pairsThatShowTheSame (ws_ yX2_pairsThatShowTheSame cX2_pairsThatShowTheSame 6 (some .int)) rm_X2_pairsThatShowTheSame (sbPre (dC, dI) (TY cI cF cJ cD) (wHB cI cF cJ h fa tr rw Hb ++ (wFR cI cF cJ q0 q1 q2 q3 q4 q5 q6 q7 q8 F ++ (wFR cI cF cJ r0 r1 r2 r3 r4 r5 r6 r7 r8 F2))) E0 sz [.ref h]) (va_Qi (fun (r : Int32) (_ : Unit) => r = res) (sbEnd (dC, dI) (fun _ => wHB cI cF cJ h fa tr rw Hb ++ (wFR cI cF cJ q0 q1 q2 q3 q4 q5 q6 q7 q8 F ++ (wFR cI cF cJ r0 r1 r2 r3 r4 r5 r6 r7 r8 F2))) (va_A (wHB cI cF cJ h fa tr rw Hb ++ (wFR cI cF cJ q0 q1 q2 q3 q4 q5 q6 q7 q8 F ++ (wFR cI cF cJ r0 r1 r2 r3 r4 r5 r6 r7 r8 F2))) sz)) (va_A (wHB cI cF cJ h fa tr rw Hb ++ (wFR cI cF cJ q0 q1 q2 q3 q4 q5 q6 q7 q8 F ++ (wFR cI cF cJ r0 r1 r2 r3 r4 r5 r6 r7 r8 F2))) sz)) 0 0 (va_A (wHB cI cF cJ h fa tr rw Hb ++ (wFR cI cF cJ q0 q1 q2 q3 q4 q5 q6 q7 q8 F ++ (wFR cI cF cJ r0 r1 r2 r3 r4 r5 r6 r7 r8 F2))) sz) := by
  refine Met.ofW (cc := cX2_pairsThatShowTheSame) (maxL := 6) (ret := (some .int)) (by decide) rfl ?_
  intro p e s m args below meth c s₁ B hml hv
  obtain ⟨rfl, hsz, hP, hK, hD0, hE⟩ := hv
  have hx := B.exec
  have hb := B.bytes
  have hr := B.returns
  have hts0 := atoms_spec (ws := ws_ yX2_pairsThatShowTheSame cX2_pairsThatShowTheSame 6 (some .int)) B.pre
  have hts := fun (w : Cond) (h : w ∈ LW) => hts0 w (List.mem_cons_of_mem _ h)
  have hown : s.vm.findClass RX2 = some m.cls := findClass_of_methodNamed B.named
  have hlocks := B.notSynchronized
  subst hsz
  have hD := hD0.self (sz := s.heap.size)
  generalize hAe : va_A (wHB cI cF cJ h fa tr rw Hb ++ (wFR cI cF cJ q0 q1 q2 q3 q4 q5 q6 q7 q8 F ++ (wFR cI cF cJ r0 r1 r2 r3 r4 r5 r6 r7 r8 F2))) s.heap.size = A at hD ⊢
  have hA : ∀ q : Nat, s.heap.size ≤ q → A q := fun q h => by rw [← hAe]; exact Or.inr h
  have hS : va_S A s.heap s.heap [] := va_S.rf
  have hkc := Nat.zero_le rm_X2_pairsThatShowTheSame.cells
  have hks := Nat.zero_le rm_X2_pairsThatShowTheSame.slots
  have hl := lv_entry ([.ref h]) (n := 6) (Nat.le_of_ble_eq_true rfl)
  rw [lg_entry_eq]
  generalize (lg_sl ([.ref h]) ++ List.replicate (6 - (lg_sl ([.ref h])).length) Slot.unset).toArray = ls at hl ⊢
  have hl : lv_has ls 6 [(0, .ref h)] := hl
  rw [f_X2_pairsThatShowTheSame] at hf
  refine lv_iconst (v := 0) hx hb dX2_pairsThatShowTheSame_0 (by decide) ?_
  refine lv_istore_n (lv' := [(1, .int 0), (0, .ref h)]) hx hb dX2_pairsThatShowTheSame_1 rfl hl (by decide) rfl (fun ls hl => ?_)
  refine lv_iconst (v := 0) hx hb dX2_pairsThatShowTheSame_2 (by decide) ?_
  refine lv_istore_n (lv' := [(2, .int 0), (1, .int 0), (0, .ref h)]) hx hb dX2_pairsThatShowTheSame_3 rfl hl (by decide) rfl (fun ls hl => ?_)
  refine lv_iload_n hx hb dX2_pairsThatShowTheSame_4 rfl (lv_at hl 0 rfl) ?_
  refine lv_aload_n hx hb dX2_pairsThatShowTheSame_5 rfl (lv_at hl 2 rfl) ?_
  refine va_get (D := (dC, dI)) (ci := 2) (v := .ref fa) (C := RX2) (T := TX2) (N := 4) hx hb hts iX2 hown hK hP 0 rfl rfl 0 (by decide) (hts _ q152) (fun _ h9 => h9) rfl dX2_pairsThatShowTheSame_6 ?_
  refine va_alen (v := 4) hx hb hK hP 1 1 rfl rfl rfl dX2_pairsThatShowTheSame_9 ?_
  refine lv_icmp_ge (tgt := 81) hx hb dX2_pairsThatShowTheSame_10 (by decide) (fun c9 => absurd c9 (by decide)) (fun _ => ?_)
  refine lv_iload_n hx hb dX2_pairsThatShowTheSame_13 rfl (lv_at hl 0 rfl) ?_
  refine lv_iconst (v := 1) hx hb dX2_pairsThatShowTheSame_14 (by decide) ?_
  refine lv_iadd hx hb dX2_pairsThatShowTheSame_15 ?_
  refine lv_topi (fun v1 ev1 => ?_)
  have ev1 : v1 = 1 := ev1.trans (by decide)
  subst ev1
  refine lv_istore_n (lv' := [(3, .int 1), (2, .int 0), (1, .int 0), (0, .ref h)]) hx hb dX2_pairsThatShowTheSame_16 rfl hl (by decide) rfl (fun ls hl => ?_)
  refine lv_iload_n hx hb dX2_pairsThatShowTheSame_17 rfl (lv_at hl 0 rfl) ?_
  refine lv_aload_n hx hb dX2_pairsThatShowTheSame_18 rfl (lv_at hl 3 rfl) ?_
  refine va_get (D := (dC, dI)) (ci := 2) (v := .ref fa) (C := RX2) (T := TX2) (N := 4) hx hb hts iX2 hown hK hP 0 rfl rfl 0 (by decide) (hts _ q152) (fun _ h9 => h9) rfl dX2_pairsThatShowTheSame_19 ?_
  refine va_alen (v := 4) hx hb hK hP 1 1 rfl rfl rfl dX2_pairsThatShowTheSame_22 ?_
  refine lv_icmp_ge (tgt := 75) hx hb dX2_pairsThatShowTheSame_23 (by decide) (fun c9 => absurd c9 (by decide)) (fun _ => ?_)
  refine lv_aload_n hx hb dX2_pairsThatShowTheSame_26 rfl (lv_at hl 3 rfl) ?_
  refine va_get (D := (dC, dI)) (ci := 2) (v := .ref fa) (C := RX2) (T := TX2) (N := 4) hx hb hts iX2 hown hK hP 0 rfl rfl 0 (by decide) (hts _ q152) (fun _ h9 => h9) rfl dX2_pairsThatShowTheSame_27 ?_
  refine lv_iload_n hx hb dX2_pairsThatShowTheSame_30 rfl (lv_at hl 1 rfl) ?_
  refine va_aldq hx hb hK hP 1 1 rfl rfl (gin_in (by decide)) dX2_pairsThatShowTheSame_31 ?_
  refine sb_topv (v' := .ref q0) (congrArg va_rf (show _ = some q0 from hr0)) ?_
  refine lv_astore (lv' := [(4, .ref q0), (3, .int 1), (2, .int 0), (1, .int 0), (0, .ref h)]) hx hb dX2_pairsThatShowTheSame_32 hl (by decide) rfl (fun ls hl => ?_)
  refine lv_aload_n hx hb dX2_pairsThatShowTheSame_34 rfl (lv_at hl 4 rfl) ?_
  refine va_get (D := (dC, dI)) (ci := 2) (v := .ref fa) (C := RX2) (T := TX2) (N := 4) hx hb hts iX2 hown hK hP 0 rfl rfl 0 (by decide) (hts _ q152) (fun _ h9 => h9) rfl dX2_pairsThatShowTheSame_35 ?_
  refine lv_iload_n hx hb dX2_pairsThatShowTheSame_38 rfl (lv_at hl 1 rfl) ?_
  refine va_aldq hx hb hK hP 1 1 rfl rfl (gin_in (by decide)) dX2_pairsThatShowTheSame_39 ?_
  refine sb_topv (v' := .ref r0) (congrArg va_rf (show _ = some r0 from hr1)) ?_
  refine lv_astore (lv' := [(5, .ref r0), (4, .ref q0), (3, .int 1), (2, .int 0), (1, .int 0), (0, .ref h)]) hx hb dX2_pairsThatShowTheSame_40 hl (by decide) rfl (fun ls hl => ?_)
  refine lv_aload hx hb dX2_pairsThatShowTheSame_42 (lv_at hl 1 rfl) ?_
  refine lv_ifnull hx hb dX2_pairsThatShowTheSame_44 ?_
  refine lv_aload hx hb dX2_pairsThatShowTheSame_47 (lv_at hl 0 rfl) ?_
  refine lv_ifnull hx hb dX2_pairsThatShowTheSame_49 ?_
  refine lv_aload hx hb dX2_pairsThatShowTheSame_52 (lv_at hl 1 rfl) ?_
  obtain ⟨x2, hx2, hf⟩ := obd_e hf
  refine sb_Vl (As := []) (rest := []) ⟨hx, hb, hml, hown, hts⟩ (fun sz => c_X1_shownNumber l dC dI cI cF cJ cD q0 q1 q2 q3 q4 q5 q6 q7 q8 F  x2 hx2 sz) (cwV 0 hts (g_V q212 q131 q132 q56 q52) rfl rfl rfl pc_X1_shownNumber ⟨Nat.le_of_ble_eq_true rfl, Nat.le_of_ble_eq_true rfl⟩) 0 1 rfl rfl hK hP hD hS hA [2, 3, 4, 5, 6, 7, 8, 9, 10] [0, 1, 11, 12, 13, 14, 15, 16, 17, 18, 19] rfl rfl (by decide) (by decide) (by decide) (fun _ _ _ _ h => h) (fun _ _ _ => trivial) rfl rfl hl.1 (Nat.le_of_ble_eq_true rfl) dX2_pairsThatShowTheSame_54 ⟨hkc, hks⟩ (fun r9 u H locs hr9 hP hD hS => ?_)
  have hr9 := Eq.symm hr9
  subst hr9
  have hP : va_P (dC, dI) vwCl (wHB cI cF cJ h fa tr rw Hb ++ (wFR cI cF cJ q0 q1 q2 q3 q4 q5 q6 q7 q8 F ++ (wFR cI cF cJ r0 r1 r2 r3 r4 r5 r6 r7 r8 F2))) H := hP.sub [0, 1, 11, 12, 13, 14, 15, 16, 17, 18, 19, 2, 3, 4, 5, 6, 7, 8, 9, 10] rfl
  have hD : va_D A (wHB cI cF cJ h fa tr rw Hb ++ (wFR cI cF cJ q0 q1 q2 q3 q4 q5 q6 q7 q8 F ++ (wFR cI cF cJ r0 r1 r2 r3 r4 r5 r6 r7 r8 F2))) := hD.sub [0, 1, 11, 12, 13, 14, 15, 16, 17, 18, 19, 2, 3, 4, 5, 6, 7, 8, 9, 10] (by decide) rfl
  refine lv_aload hx hb dX2_pairsThatShowTheSame_57 (lv_at hl 0 rfl) ?_
  obtain ⟨x3, hx3, hf⟩ := obd_e hf
  refine sb_Vl (As := []) (rest := [.long x2]) ⟨hx, hb, hml, hown, hts⟩ (fun sz => c_X1_shownNumber l dC dI cI cF cJ cD r0 r1 r2 r3 r4 r5 r6 r7 r8 F2  x3 hx3 sz) (cwV 0 hts (g_V q212 q131 q132 q56 q52) rfl rfl rfl pc_X1_shownNumber ⟨Nat.le_of_ble_eq_true rfl, Nat.le_of_ble_eq_true rfl⟩) 0 1 rfl rfl hK hP hD hS hA [11, 12, 13, 14, 15, 16, 17, 18, 19] [0, 1, 2, 3, 4, 5, 6, 7, 8, 9, 10] rfl rfl (by decide) (by decide) (by decide) (fun _ _ _ _ h => h) (fun _ _ _ => trivial) rfl rfl hl.1 (Nat.le_of_ble_eq_true rfl) dX2_pairsThatShowTheSame_59 ⟨hkc, hks⟩ (fun r9 u H locs hr9 hP hD hS => ?_)
  have hr9 := Eq.symm hr9
  subst hr9
  have hP : va_P (dC, dI) vwCl (wHB cI cF cJ h fa tr rw Hb ++ (wFR cI cF cJ q0 q1 q2 q3 q4 q5 q6 q7 q8 F ++ (wFR cI cF cJ r0 r1 r2 r3 r4 r5 r6 r7 r8 F2))) H := hP
  have hD : va_D A (wHB cI cF cJ h fa tr rw Hb ++ (wFR cI cF cJ q0 q1 q2 q3 q4 q5 q6 q7 q8 F ++ (wFR cI cF cJ r0 r1 r2 r3 r4 r5 r6 r7 r8 F2))) := hD
  refine W.lcmp hx hb dX2_pairsThatShowTheSame_62 ?_
  refine lv_topi (fun v4 ev4 => ?_)
  have hf := bnd_all hf v4 ev4
  refine lv_if_ne (tgt := 69) hx hb dX2_pairsThatShowTheSame_63 (by decide) (fun c5 => ?_) (fun c5 => ?_)
  · have hf := ite_f hf c5
    refine lv_iinc (v := 2) (lv' := [(3, .int 2), (5, .ref r0), (4, .ref q0), (2, .int 0), (1, .int 0), (0, .ref h)]) hx hb dX2_pairsThatShowTheSame_69 hl (k := 2) rfl (by decide) (by decide) rfl (fun ls hl => ?_)
    refine lv_goto (tgt := 17) hx hb dX2_pairsThatShowTheSame_72 (by decide) ?_
    refine lv_iload_n hx hb dX2_pairsThatShowTheSame_17 rfl (lv_at hl 0 rfl) ?_
    refine lv_aload_n hx hb dX2_pairsThatShowTheSame_18 rfl (lv_at hl 5 rfl) ?_
    refine va_get (D := (dC, dI)) (ci := 2) (v := .ref fa) (C := RX2) (T := TX2) (N := 4) hx hb hts iX2 hown hK hP 0 rfl rfl 0 (by decide) (hts _ q152) (fun _ h9 => h9) rfl dX2_pairsThatShowTheSame_19 ?_
    refine va_alen (v := 4) hx hb hK hP 1 1 rfl rfl rfl dX2_pairsThatShowTheSame_22 ?_
    refine lv_icmp_ge (tgt := 75) hx hb dX2_pairsThatShowTheSame_23 (by decide) (fun c9 => absurd c9 (by decide)) (fun _ => ?_)
    refine lv_aload_n hx hb dX2_pairsThatShowTheSame_26 rfl (lv_at hl 5 rfl) ?_
    refine va_get (D := (dC, dI)) (ci := 2) (v := .ref fa) (C := RX2) (T := TX2) (N := 4) hx hb hts iX2 hown hK hP 0 rfl rfl 0 (by decide) (hts _ q152) (fun _ h9 => h9) rfl dX2_pairsThatShowTheSame_27 ?_
    refine lv_iload_n hx hb dX2_pairsThatShowTheSame_30 rfl (lv_at hl 3 rfl) ?_
    refine va_aldq hx hb hK hP 1 1 rfl rfl (gin_in (by decide)) dX2_pairsThatShowTheSame_31 ?_
    refine sb_topv (v' := .ref q0) (congrArg va_rf (show _ = some q0 from hr0)) ?_
    refine lv_astore (lv' := [(4, .ref q0), (3, .int 2), (5, .ref r0), (2, .int 0), (1, .int 0), (0, .ref h)]) hx hb dX2_pairsThatShowTheSame_32 hl (by decide) rfl (fun ls hl => ?_)
    refine lv_aload_n hx hb dX2_pairsThatShowTheSame_34 rfl (lv_at hl 5 rfl) ?_
    refine va_get (D := (dC, dI)) (ci := 2) (v := .ref fa) (C := RX2) (T := TX2) (N := 4) hx hb hts iX2 hown hK hP 0 rfl rfl 0 (by decide) (hts _ q152) (fun _ h9 => h9) rfl dX2_pairsThatShowTheSame_35 ?_
    refine lv_iload_n hx hb dX2_pairsThatShowTheSame_38 rfl (lv_at hl 1 rfl) ?_
    refine va_aldq hx hb hK hP 1 1 rfl rfl (gin_in (by decide)) dX2_pairsThatShowTheSame_39 ?_
    refine sb_topv (v' := .null) (congrArg va_rf (show _ = none from hr2)) ?_
    refine lv_astoreN (lv' := [(5, .null), (4, .ref q0), (3, .int 2), (2, .int 0), (1, .int 0), (0, .ref h)]) hx hb dX2_pairsThatShowTheSame_40 hl (by decide) rfl (fun ls hl => ?_)
    refine lv_aload hx hb dX2_pairsThatShowTheSame_42 (lv_at hl 1 rfl) ?_
    refine lv_ifnull hx hb dX2_pairsThatShowTheSame_44 ?_
    refine lv_aloadN hx hb dX2_pairsThatShowTheSame_47 (lv_at hl 0 rfl) ?_
    refine lv_ifnullN (tgt := 69) hx hb dX2_pairsThatShowTheSame_49 (by decide) ?_
    refine lv_iinc (v := 3) (lv' := [(3, .int 3), (5, .null), (4, .ref q0), (2, .int 0), (1, .int 0), (0, .ref h)]) hx hb dX2_pairsThatShowTheSame_69 hl (k := 2) rfl (by decide) (by decide) rfl (fun ls hl => ?_)
    refine lv_goto (tgt := 17) hx hb dX2_pairsThatShowTheSame_72 (by decide) ?_
    refine lv_iload_n hx hb dX2_pairsThatShowTheSame_17 rfl (lv_at hl 0 rfl) ?_
    refine lv_aload_n hx hb dX2_pairsThatShowTheSame_18 rfl (lv_at hl 5 rfl) ?_
    refine va_get (D := (dC, dI)) (ci := 2) (v := .ref fa) (C := RX2) (T := TX2) (N := 4) hx hb hts iX2 hown hK hP 0 rfl rfl 0 (by decide) (hts _ q152) (fun _ h9 => h9) rfl dX2_pairsThatShowTheSame_19 ?_
    refine va_alen (v := 4) hx hb hK hP 1 1 rfl rfl rfl dX2_pairsThatShowTheSame_22 ?_
    refine lv_icmp_ge (tgt := 75) hx hb dX2_pairsThatShowTheSame_23 (by decide) (fun c9 => absurd c9 (by decide)) (fun _ => ?_)
    refine lv_aload_n hx hb dX2_pairsThatShowTheSame_26 rfl (lv_at hl 5 rfl) ?_
    refine va_get (D := (dC, dI)) (ci := 2) (v := .ref fa) (C := RX2) (T := TX2) (N := 4) hx hb hts iX2 hown hK hP 0 rfl rfl 0 (by decide) (hts _ q152) (fun _ h9 => h9) rfl dX2_pairsThatShowTheSame_27 ?_
    refine lv_iload_n hx hb dX2_pairsThatShowTheSame_30 rfl (lv_at hl 3 rfl) ?_
    refine va_aldq hx hb hK hP 1 1 rfl rfl (gin_in (by decide)) dX2_pairsThatShowTheSame_31 ?_
    refine sb_topv (v' := .ref q0) (congrArg va_rf (show _ = some q0 from hr0)) ?_
    refine lv_astore (lv' := [(4, .ref q0), (3, .int 3), (5, .null), (2, .int 0), (1, .int 0), (0, .ref h)]) hx hb dX2_pairsThatShowTheSame_32 hl (by decide) rfl (fun ls hl => ?_)
    refine lv_aload_n hx hb dX2_pairsThatShowTheSame_34 rfl (lv_at hl 5 rfl) ?_
    refine va_get (D := (dC, dI)) (ci := 2) (v := .ref fa) (C := RX2) (T := TX2) (N := 4) hx hb hts iX2 hown hK hP 0 rfl rfl 0 (by decide) (hts _ q152) (fun _ h9 => h9) rfl dX2_pairsThatShowTheSame_35 ?_
    refine lv_iload_n hx hb dX2_pairsThatShowTheSame_38 rfl (lv_at hl 1 rfl) ?_
    refine va_aldq hx hb hK hP 1 1 rfl rfl (gin_in (by decide)) dX2_pairsThatShowTheSame_39 ?_
    refine sb_topv (v' := .null) (congrArg va_rf (show _ = none from hr3)) ?_
    refine lv_astoreN (lv' := [(5, .null), (4, .ref q0), (3, .int 3), (2, .int 0), (1, .int 0), (0, .ref h)]) hx hb dX2_pairsThatShowTheSame_40 hl (by decide) rfl (fun ls hl => ?_)
    refine lv_aload hx hb dX2_pairsThatShowTheSame_42 (lv_at hl 1 rfl) ?_
    refine lv_ifnull hx hb dX2_pairsThatShowTheSame_44 ?_
    refine lv_aloadN hx hb dX2_pairsThatShowTheSame_47 (lv_at hl 0 rfl) ?_
    refine lv_ifnullN (tgt := 69) hx hb dX2_pairsThatShowTheSame_49 (by decide) ?_
    refine lv_iinc (v := 4) (lv' := [(3, .int 4), (5, .null), (4, .ref q0), (2, .int 0), (1, .int 0), (0, .ref h)]) hx hb dX2_pairsThatShowTheSame_69 hl (k := 2) rfl (by decide) (by decide) rfl (fun ls hl => ?_)
    refine lv_goto (tgt := 17) hx hb dX2_pairsThatShowTheSame_72 (by decide) ?_
    refine lv_iload_n hx hb dX2_pairsThatShowTheSame_17 rfl (lv_at hl 0 rfl) ?_
    refine lv_aload_n hx hb dX2_pairsThatShowTheSame_18 rfl (lv_at hl 5 rfl) ?_
    refine va_get (D := (dC, dI)) (ci := 2) (v := .ref fa) (C := RX2) (T := TX2) (N := 4) hx hb hts iX2 hown hK hP 0 rfl rfl 0 (by decide) (hts _ q152) (fun _ h9 => h9) rfl dX2_pairsThatShowTheSame_19 ?_
    refine va_alen (v := 4) hx hb hK hP 1 1 rfl rfl rfl dX2_pairsThatShowTheSame_22 ?_
    refine lv_icmp_ge (tgt := 75) hx hb dX2_pairsThatShowTheSame_23 (by decide) (fun _ => ?_) (fun c9 => absurd (by decide) c9)
    refine lv_iinc (v := 1) (lv' := [(2, .int 1), (3, .int 4), (5, .null), (4, .ref q0), (1, .int 0), (0, .ref h)]) hx hb dX2_pairsThatShowTheSame_75 hl (k := 3) rfl (by decide) (by decide) rfl (fun ls hl => ?_)
    refine lv_goto (tgt := 4) hx hb dX2_pairsThatShowTheSame_78 (by decide) ?_
    refine lv_iload_n hx hb dX2_pairsThatShowTheSame_4 rfl (lv_at hl 0 rfl) ?_
    refine lv_aload_n hx hb dX2_pairsThatShowTheSame_5 rfl (lv_at hl 5 rfl) ?_
    refine va_get (D := (dC, dI)) (ci := 2) (v := .ref fa) (C := RX2) (T := TX2) (N := 4) hx hb hts iX2 hown hK hP 0 rfl rfl 0 (by decide) (hts _ q152) (fun _ h9 => h9) rfl dX2_pairsThatShowTheSame_6 ?_
    refine va_alen (v := 4) hx hb hK hP 1 1 rfl rfl rfl dX2_pairsThatShowTheSame_9 ?_
    refine lv_icmp_ge (tgt := 81) hx hb dX2_pairsThatShowTheSame_10 (by decide) (fun c9 => absurd c9 (by decide)) (fun _ => ?_)
    refine lv_iload_n hx hb dX2_pairsThatShowTheSame_13 rfl (lv_at hl 0 rfl) ?_
    refine lv_iconst (v := 1) hx hb dX2_pairsThatShowTheSame_14 (by decide) ?_
    refine lv_iadd hx hb dX2_pairsThatShowTheSame_15 ?_
    refine lv_topi (fun v6 ev6 => ?_)
    have ev6 : v6 = 2 := ev6.trans (by decide)
    subst ev6
    refine lv_istore_n (lv' := [(3, .int 2), (2, .int 1), (5, .null), (4, .ref q0), (1, .int 0), (0, .ref h)]) hx hb dX2_pairsThatShowTheSame_16 rfl hl (by decide) rfl (fun ls hl => ?_)
    refine lv_iload_n hx hb dX2_pairsThatShowTheSame_17 rfl (lv_at hl 0 rfl) ?_
    refine lv_aload_n hx hb dX2_pairsThatShowTheSame_18 rfl (lv_at hl 5 rfl) ?_
    refine va_get (D := (dC, dI)) (ci := 2) (v := .ref fa) (C := RX2) (T := TX2) (N := 4) hx hb hts iX2 hown hK hP 0 rfl rfl 0 (by decide) (hts _ q152) (fun _ h9 => h9) rfl dX2_pairsThatShowTheSame_19 ?_
    refine va_alen (v := 4) hx hb hK hP 1 1 rfl rfl rfl dX2_pairsThatShowTheSame_22 ?_
    refine lv_icmp_ge (tgt := 75) hx hb dX2_pairsThatShowTheSame_23 (by decide) (fun c9 => absurd c9 (by decide)) (fun _ => ?_)
    refine lv_aload_n hx hb dX2_pairsThatShowTheSame_26 rfl (lv_at hl 5 rfl) ?_
    refine va_get (D := (dC, dI)) (ci := 2) (v := .ref fa) (C := RX2) (T := TX2) (N := 4) hx hb hts iX2 hown hK hP 0 rfl rfl 0 (by decide) (hts _ q152) (fun _ h9 => h9) rfl dX2_pairsThatShowTheSame_27 ?_
    refine lv_iload_n hx hb dX2_pairsThatShowTheSame_30 rfl (lv_at hl 1 rfl) ?_
    refine va_aldq hx hb hK hP 1 1 rfl rfl (gin_in (by decide)) dX2_pairsThatShowTheSame_31 ?_
    refine sb_topv (v' := .ref r0) (congrArg va_rf (show _ = some r0 from hr1)) ?_
    refine lv_astore (lv' := [(4, .ref r0), (3, .int 2), (2, .int 1), (5, .null), (1, .int 0), (0, .ref h)]) hx hb dX2_pairsThatShowTheSame_32 hl (by decide) rfl (fun ls hl => ?_)
    refine lv_aload_n hx hb dX2_pairsThatShowTheSame_34 rfl (lv_at hl 5 rfl) ?_
    refine va_get (D := (dC, dI)) (ci := 2) (v := .ref fa) (C := RX2) (T := TX2) (N := 4) hx hb hts iX2 hown hK hP 0 rfl rfl 0 (by decide) (hts _ q152) (fun _ h9 => h9) rfl dX2_pairsThatShowTheSame_35 ?_
    refine lv_iload_n hx hb dX2_pairsThatShowTheSame_38 rfl (lv_at hl 1 rfl) ?_
    refine va_aldq hx hb hK hP 1 1 rfl rfl (gin_in (by decide)) dX2_pairsThatShowTheSame_39 ?_
    refine sb_topv (v' := .null) (congrArg va_rf (show _ = none from hr2)) ?_
    refine lv_astoreN (lv' := [(5, .null), (4, .ref r0), (3, .int 2), (2, .int 1), (1, .int 0), (0, .ref h)]) hx hb dX2_pairsThatShowTheSame_40 hl (by decide) rfl (fun ls hl => ?_)
    refine lv_aload hx hb dX2_pairsThatShowTheSame_42 (lv_at hl 1 rfl) ?_
    refine lv_ifnull hx hb dX2_pairsThatShowTheSame_44 ?_
    refine lv_aloadN hx hb dX2_pairsThatShowTheSame_47 (lv_at hl 0 rfl) ?_
    refine lv_ifnullN (tgt := 69) hx hb dX2_pairsThatShowTheSame_49 (by decide) ?_
    refine lv_iinc (v := 3) (lv' := [(3, .int 3), (5, .null), (4, .ref r0), (2, .int 1), (1, .int 0), (0, .ref h)]) hx hb dX2_pairsThatShowTheSame_69 hl (k := 2) rfl (by decide) (by decide) rfl (fun ls hl => ?_)
    refine lv_goto (tgt := 17) hx hb dX2_pairsThatShowTheSame_72 (by decide) ?_
    refine lv_iload_n hx hb dX2_pairsThatShowTheSame_17 rfl (lv_at hl 0 rfl) ?_
    refine lv_aload_n hx hb dX2_pairsThatShowTheSame_18 rfl (lv_at hl 5 rfl) ?_
    refine va_get (D := (dC, dI)) (ci := 2) (v := .ref fa) (C := RX2) (T := TX2) (N := 4) hx hb hts iX2 hown hK hP 0 rfl rfl 0 (by decide) (hts _ q152) (fun _ h9 => h9) rfl dX2_pairsThatShowTheSame_19 ?_
    refine va_alen (v := 4) hx hb hK hP 1 1 rfl rfl rfl dX2_pairsThatShowTheSame_22 ?_
    refine lv_icmp_ge (tgt := 75) hx hb dX2_pairsThatShowTheSame_23 (by decide) (fun c9 => absurd c9 (by decide)) (fun _ => ?_)
    refine lv_aload_n hx hb dX2_pairsThatShowTheSame_26 rfl (lv_at hl 5 rfl) ?_
    refine va_get (D := (dC, dI)) (ci := 2) (v := .ref fa) (C := RX2) (T := TX2) (N := 4) hx hb hts iX2 hown hK hP 0 rfl rfl 0 (by decide) (hts _ q152) (fun _ h9 => h9) rfl dX2_pairsThatShowTheSame_27 ?_
    refine lv_iload_n hx hb dX2_pairsThatShowTheSame_30 rfl (lv_at hl 3 rfl) ?_
    refine va_aldq hx hb hK hP 1 1 rfl rfl (gin_in (by decide)) dX2_pairsThatShowTheSame_31 ?_
    refine sb_topv (v' := .ref r0) (congrArg va_rf (show _ = some r0 from hr1)) ?_
    refine lv_astore (lv' := [(4, .ref r0), (3, .int 3), (5, .null), (2, .int 1), (1, .int 0), (0, .ref h)]) hx hb dX2_pairsThatShowTheSame_32 hl (by decide) rfl (fun ls hl => ?_)
    refine lv_aload_n hx hb dX2_pairsThatShowTheSame_34 rfl (lv_at hl 5 rfl) ?_
    refine va_get (D := (dC, dI)) (ci := 2) (v := .ref fa) (C := RX2) (T := TX2) (N := 4) hx hb hts iX2 hown hK hP 0 rfl rfl 0 (by decide) (hts _ q152) (fun _ h9 => h9) rfl dX2_pairsThatShowTheSame_35 ?_
    refine lv_iload_n hx hb dX2_pairsThatShowTheSame_38 rfl (lv_at hl 1 rfl) ?_
    refine va_aldq hx hb hK hP 1 1 rfl rfl (gin_in (by decide)) dX2_pairsThatShowTheSame_39 ?_
    refine sb_topv (v' := .null) (congrArg va_rf (show _ = none from hr3)) ?_
    refine lv_astoreN (lv' := [(5, .null), (4, .ref r0), (3, .int 3), (2, .int 1), (1, .int 0), (0, .ref h)]) hx hb dX2_pairsThatShowTheSame_40 hl (by decide) rfl (fun ls hl => ?_)
    refine lv_aload hx hb dX2_pairsThatShowTheSame_42 (lv_at hl 1 rfl) ?_
    refine lv_ifnull hx hb dX2_pairsThatShowTheSame_44 ?_
    refine lv_aloadN hx hb dX2_pairsThatShowTheSame_47 (lv_at hl 0 rfl) ?_
    refine lv_ifnullN (tgt := 69) hx hb dX2_pairsThatShowTheSame_49 (by decide) ?_
    refine lv_iinc (v := 4) (lv' := [(3, .int 4), (5, .null), (4, .ref r0), (2, .int 1), (1, .int 0), (0, .ref h)]) hx hb dX2_pairsThatShowTheSame_69 hl (k := 2) rfl (by decide) (by decide) rfl (fun ls hl => ?_)
    refine lv_goto (tgt := 17) hx hb dX2_pairsThatShowTheSame_72 (by decide) ?_
    refine lv_iload_n hx hb dX2_pairsThatShowTheSame_17 rfl (lv_at hl 0 rfl) ?_
    refine lv_aload_n hx hb dX2_pairsThatShowTheSame_18 rfl (lv_at hl 5 rfl) ?_
    refine va_get (D := (dC, dI)) (ci := 2) (v := .ref fa) (C := RX2) (T := TX2) (N := 4) hx hb hts iX2 hown hK hP 0 rfl rfl 0 (by decide) (hts _ q152) (fun _ h9 => h9) rfl dX2_pairsThatShowTheSame_19 ?_
    refine va_alen (v := 4) hx hb hK hP 1 1 rfl rfl rfl dX2_pairsThatShowTheSame_22 ?_
    refine lv_icmp_ge (tgt := 75) hx hb dX2_pairsThatShowTheSame_23 (by decide) (fun _ => ?_) (fun c9 => absurd (by decide) c9)
    refine lv_iinc (v := 2) (lv' := [(2, .int 2), (3, .int 4), (5, .null), (4, .ref r0), (1, .int 0), (0, .ref h)]) hx hb dX2_pairsThatShowTheSame_75 hl (k := 3) rfl (by decide) (by decide) rfl (fun ls hl => ?_)
    refine lv_goto (tgt := 4) hx hb dX2_pairsThatShowTheSame_78 (by decide) ?_
    refine lv_iload_n hx hb dX2_pairsThatShowTheSame_4 rfl (lv_at hl 0 rfl) ?_
    refine lv_aload_n hx hb dX2_pairsThatShowTheSame_5 rfl (lv_at hl 5 rfl) ?_
    refine va_get (D := (dC, dI)) (ci := 2) (v := .ref fa) (C := RX2) (T := TX2) (N := 4) hx hb hts iX2 hown hK hP 0 rfl rfl 0 (by decide) (hts _ q152) (fun _ h9 => h9) rfl dX2_pairsThatShowTheSame_6 ?_
    refine va_alen (v := 4) hx hb hK hP 1 1 rfl rfl rfl dX2_pairsThatShowTheSame_9 ?_
    refine lv_icmp_ge (tgt := 81) hx hb dX2_pairsThatShowTheSame_10 (by decide) (fun c9 => absurd c9 (by decide)) (fun _ => ?_)
    refine lv_iload_n hx hb dX2_pairsThatShowTheSame_13 rfl (lv_at hl 0 rfl) ?_
    refine lv_iconst (v := 1) hx hb dX2_pairsThatShowTheSame_14 (by decide) ?_
    refine lv_iadd hx hb dX2_pairsThatShowTheSame_15 ?_
    refine lv_topi (fun v7 ev7 => ?_)
    have ev7 : v7 = 3 := ev7.trans (by decide)
    subst ev7
    refine lv_istore_n (lv' := [(3, .int 3), (2, .int 2), (5, .null), (4, .ref r0), (1, .int 0), (0, .ref h)]) hx hb dX2_pairsThatShowTheSame_16 rfl hl (by decide) rfl (fun ls hl => ?_)
    refine lv_iload_n hx hb dX2_pairsThatShowTheSame_17 rfl (lv_at hl 0 rfl) ?_
    refine lv_aload_n hx hb dX2_pairsThatShowTheSame_18 rfl (lv_at hl 5 rfl) ?_
    refine va_get (D := (dC, dI)) (ci := 2) (v := .ref fa) (C := RX2) (T := TX2) (N := 4) hx hb hts iX2 hown hK hP 0 rfl rfl 0 (by decide) (hts _ q152) (fun _ h9 => h9) rfl dX2_pairsThatShowTheSame_19 ?_
    refine va_alen (v := 4) hx hb hK hP 1 1 rfl rfl rfl dX2_pairsThatShowTheSame_22 ?_
    refine lv_icmp_ge (tgt := 75) hx hb dX2_pairsThatShowTheSame_23 (by decide) (fun c9 => absurd c9 (by decide)) (fun _ => ?_)
    refine lv_aload_n hx hb dX2_pairsThatShowTheSame_26 rfl (lv_at hl 5 rfl) ?_
    refine va_get (D := (dC, dI)) (ci := 2) (v := .ref fa) (C := RX2) (T := TX2) (N := 4) hx hb hts iX2 hown hK hP 0 rfl rfl 0 (by decide) (hts _ q152) (fun _ h9 => h9) rfl dX2_pairsThatShowTheSame_27 ?_
    refine lv_iload_n hx hb dX2_pairsThatShowTheSame_30 rfl (lv_at hl 1 rfl) ?_
    refine va_aldq hx hb hK hP 1 1 rfl rfl (gin_in (by decide)) dX2_pairsThatShowTheSame_31 ?_
    refine sb_topv (v' := .null) (congrArg va_rf (show _ = none from hr2)) ?_
    refine lv_astoreN (lv' := [(4, .null), (3, .int 3), (2, .int 2), (5, .null), (1, .int 0), (0, .ref h)]) hx hb dX2_pairsThatShowTheSame_32 hl (by decide) rfl (fun ls hl => ?_)
    refine lv_aload_n hx hb dX2_pairsThatShowTheSame_34 rfl (lv_at hl 5 rfl) ?_
    refine va_get (D := (dC, dI)) (ci := 2) (v := .ref fa) (C := RX2) (T := TX2) (N := 4) hx hb hts iX2 hown hK hP 0 rfl rfl 0 (by decide) (hts _ q152) (fun _ h9 => h9) rfl dX2_pairsThatShowTheSame_35 ?_
    refine lv_iload_n hx hb dX2_pairsThatShowTheSame_38 rfl (lv_at hl 1 rfl) ?_
    refine va_aldq hx hb hK hP 1 1 rfl rfl (gin_in (by decide)) dX2_pairsThatShowTheSame_39 ?_
    refine sb_topv (v' := .null) (congrArg va_rf (show _ = none from hr3)) ?_
    refine lv_astoreN (lv' := [(5, .null), (4, .null), (3, .int 3), (2, .int 2), (1, .int 0), (0, .ref h)]) hx hb dX2_pairsThatShowTheSame_40 hl (by decide) rfl (fun ls hl => ?_)
    refine lv_aloadN hx hb dX2_pairsThatShowTheSame_42 (lv_at hl 1 rfl) ?_
    refine lv_ifnullN (tgt := 69) hx hb dX2_pairsThatShowTheSame_44 (by decide) ?_
    refine lv_iinc (v := 4) (lv' := [(3, .int 4), (5, .null), (4, .null), (2, .int 2), (1, .int 0), (0, .ref h)]) hx hb dX2_pairsThatShowTheSame_69 hl (k := 2) rfl (by decide) (by decide) rfl (fun ls hl => ?_)
    refine lv_goto (tgt := 17) hx hb dX2_pairsThatShowTheSame_72 (by decide) ?_
    refine lv_iload_n hx hb dX2_pairsThatShowTheSame_17 rfl (lv_at hl 0 rfl) ?_
    refine lv_aload_n hx hb dX2_pairsThatShowTheSame_18 rfl (lv_at hl 5 rfl) ?_
    refine va_get (D := (dC, dI)) (ci := 2) (v := .ref fa) (C := RX2) (T := TX2) (N := 4) hx hb hts iX2 hown hK hP 0 rfl rfl 0 (by decide) (hts _ q152) (fun _ h9 => h9) rfl dX2_pairsThatShowTheSame_19 ?_
    refine va_alen (v := 4) hx hb hK hP 1 1 rfl rfl rfl dX2_pairsThatShowTheSame_22 ?_
    refine lv_icmp_ge (tgt := 75) hx hb dX2_pairsThatShowTheSame_23 (by decide) (fun _ => ?_) (fun c9 => absurd (by decide) c9)
    refine lv_iinc (v := 3) (lv' := [(2, .int 3), (3, .int 4), (5, .null), (4, .null), (1, .int 0), (0, .ref h)]) hx hb dX2_pairsThatShowTheSame_75 hl (k := 3) rfl (by decide) (by decide) rfl (fun ls hl => ?_)
    refine lv_goto (tgt := 4) hx hb dX2_pairsThatShowTheSame_78 (by decide) ?_
    refine lv_iload_n hx hb dX2_pairsThatShowTheSame_4 rfl (lv_at hl 0 rfl) ?_
    refine lv_aload_n hx hb dX2_pairsThatShowTheSame_5 rfl (lv_at hl 5 rfl) ?_
    refine va_get (D := (dC, dI)) (ci := 2) (v := .ref fa) (C := RX2) (T := TX2) (N := 4) hx hb hts iX2 hown hK hP 0 rfl rfl 0 (by decide) (hts _ q152) (fun _ h9 => h9) rfl dX2_pairsThatShowTheSame_6 ?_
    refine va_alen (v := 4) hx hb hK hP 1 1 rfl rfl rfl dX2_pairsThatShowTheSame_9 ?_
    refine lv_icmp_ge (tgt := 81) hx hb dX2_pairsThatShowTheSame_10 (by decide) (fun c9 => absurd c9 (by decide)) (fun _ => ?_)
    refine lv_iload_n hx hb dX2_pairsThatShowTheSame_13 rfl (lv_at hl 0 rfl) ?_
    refine lv_iconst (v := 1) hx hb dX2_pairsThatShowTheSame_14 (by decide) ?_
    refine lv_iadd hx hb dX2_pairsThatShowTheSame_15 ?_
    refine lv_topi (fun v8 ev8 => ?_)
    have ev8 : v8 = 4 := ev8.trans (by decide)
    subst ev8
    refine lv_istore_n (lv' := [(3, .int 4), (2, .int 3), (5, .null), (4, .null), (1, .int 0), (0, .ref h)]) hx hb dX2_pairsThatShowTheSame_16 rfl hl (by decide) rfl (fun ls hl => ?_)
    refine lv_iload_n hx hb dX2_pairsThatShowTheSame_17 rfl (lv_at hl 0 rfl) ?_
    refine lv_aload_n hx hb dX2_pairsThatShowTheSame_18 rfl (lv_at hl 5 rfl) ?_
    refine va_get (D := (dC, dI)) (ci := 2) (v := .ref fa) (C := RX2) (T := TX2) (N := 4) hx hb hts iX2 hown hK hP 0 rfl rfl 0 (by decide) (hts _ q152) (fun _ h9 => h9) rfl dX2_pairsThatShowTheSame_19 ?_
    refine va_alen (v := 4) hx hb hK hP 1 1 rfl rfl rfl dX2_pairsThatShowTheSame_22 ?_
    refine lv_icmp_ge (tgt := 75) hx hb dX2_pairsThatShowTheSame_23 (by decide) (fun _ => ?_) (fun c9 => absurd (by decide) c9)
    refine lv_iinc (v := 4) (lv' := [(2, .int 4), (3, .int 4), (5, .null), (4, .null), (1, .int 0), (0, .ref h)]) hx hb dX2_pairsThatShowTheSame_75 hl (k := 1) rfl (by decide) (by decide) rfl (fun ls hl => ?_)
    refine lv_goto (tgt := 4) hx hb dX2_pairsThatShowTheSame_78 (by decide) ?_
    refine lv_iload_n hx hb dX2_pairsThatShowTheSame_4 rfl (lv_at hl 0 rfl) ?_
    refine lv_aload_n hx hb dX2_pairsThatShowTheSame_5 rfl (lv_at hl 5 rfl) ?_
    refine va_get (D := (dC, dI)) (ci := 2) (v := .ref fa) (C := RX2) (T := TX2) (N := 4) hx hb hts iX2 hown hK hP 0 rfl rfl 0 (by decide) (hts _ q152) (fun _ h9 => h9) rfl dX2_pairsThatShowTheSame_6 ?_
    refine va_alen (v := 4) hx hb hK hP 1 1 rfl rfl rfl dX2_pairsThatShowTheSame_9 ?_
    refine lv_icmp_ge (tgt := 81) hx hb dX2_pairsThatShowTheSame_10 (by decide) (fun _ => ?_) (fun c9 => absurd (by decide) c9)
    refine lv_iload_n hx hb dX2_pairsThatShowTheSame_81 rfl (lv_at hl 4 rfl) ?_
    obtain rfl := Option.some.inj hf
    exact W.iret (v := 0) hx hb hr (fun t ht hW => ⟨⟨_, (), rfl, rfl, by rw [ht]; exact hP, hD⟩, hS.F ht⟩) hS.2.2 dX2_pairsThatShowTheSame_82
  · have hf := ite_t hf c5
    refine lv_iinc (v := 1) (lv' := [(1, .int 1), (5, .ref r0), (4, .ref q0), (3, .int 1), (2, .int 0), (0, .ref h)]) hx hb dX2_pairsThatShowTheSame_66 hl (k := 4) rfl (by decide) (by decide) rfl (fun ls hl => ?_)
    refine lv_iinc (v := 2) (lv' := [(3, .int 2), (1, .int 1), (5, .ref r0), (4, .ref q0), (2, .int 0), (0, .ref h)]) hx hb dX2_pairsThatShowTheSame_69 hl (k := 3) rfl (by decide) (by decide) rfl (fun ls hl => ?_)
    refine lv_goto (tgt := 17) hx hb dX2_pairsThatShowTheSame_72 (by decide) ?_
    refine lv_iload_n hx hb dX2_pairsThatShowTheSame_17 rfl (lv_at hl 0 rfl) ?_
    refine lv_aload_n hx hb dX2_pairsThatShowTheSame_18 rfl (lv_at hl 5 rfl) ?_
    refine va_get (D := (dC, dI)) (ci := 2) (v := .ref fa) (C := RX2) (T := TX2) (N := 4) hx hb hts iX2 hown hK hP 0 rfl rfl 0 (by decide) (hts _ q152) (fun _ h9 => h9) rfl dX2_pairsThatShowTheSame_19 ?_
    refine va_alen (v := 4) hx hb hK hP 1 1 rfl rfl rfl dX2_pairsThatShowTheSame_22 ?_
    refine lv_icmp_ge (tgt := 75) hx hb dX2_pairsThatShowTheSame_23 (by decide) (fun c9 => absurd c9 (by decide)) (fun _ => ?_)
    refine lv_aload_n hx hb dX2_pairsThatShowTheSame_26 rfl (lv_at hl 5 rfl) ?_
    refine va_get (D := (dC, dI)) (ci := 2) (v := .ref fa) (C := RX2) (T := TX2) (N := 4) hx hb hts iX2 hown hK hP 0 rfl rfl 0 (by decide) (hts _ q152) (fun _ h9 => h9) rfl dX2_pairsThatShowTheSame_27 ?_
    refine lv_iload_n hx hb dX2_pairsThatShowTheSame_30 rfl (lv_at hl 4 rfl) ?_
    refine va_aldq hx hb hK hP 1 1 rfl rfl (gin_in (by decide)) dX2_pairsThatShowTheSame_31 ?_
    refine sb_topv (v' := .ref q0) (congrArg va_rf (show _ = some q0 from hr0)) ?_
    refine lv_astore (lv' := [(4, .ref q0), (3, .int 2), (1, .int 1), (5, .ref r0), (2, .int 0), (0, .ref h)]) hx hb dX2_pairsThatShowTheSame_32 hl (by decide) rfl (fun ls hl => ?_)
    refine lv_aload_n hx hb dX2_pairsThatShowTheSame_34 rfl (lv_at hl 5 rfl) ?_
    refine va_get (D := (dC, dI)) (ci := 2) (v := .ref fa) (C := RX2) (T := TX2) (N := 4) hx hb hts iX2 hown hK hP 0 rfl rfl 0 (by decide) (hts _ q152) (fun _ h9 => h9) rfl dX2_pairsThatShowTheSame_35 ?_
    refine lv_iload_n hx hb dX2_pairsThatShowTheSame_38 rfl (lv_at hl 1 rfl) ?_
    refine va_aldq hx hb hK hP 1 1 rfl rfl (gin_in (by decide)) dX2_pairsThatShowTheSame_39 ?_
    refine sb_topv (v' := .null) (congrArg va_rf (show _ = none from hr2)) ?_
    refine lv_astoreN (lv' := [(5, .null), (4, .ref q0), (3, .int 2), (1, .int 1), (2, .int 0), (0, .ref h)]) hx hb dX2_pairsThatShowTheSame_40 hl (by decide) rfl (fun ls hl => ?_)
    refine lv_aload hx hb dX2_pairsThatShowTheSame_42 (lv_at hl 1 rfl) ?_
    refine lv_ifnull hx hb dX2_pairsThatShowTheSame_44 ?_
    refine lv_aloadN hx hb dX2_pairsThatShowTheSame_47 (lv_at hl 0 rfl) ?_
    refine lv_ifnullN (tgt := 69) hx hb dX2_pairsThatShowTheSame_49 (by decide) ?_
    refine lv_iinc (v := 3) (lv' := [(3, .int 3), (5, .null), (4, .ref q0), (1, .int 1), (2, .int 0), (0, .ref h)]) hx hb dX2_pairsThatShowTheSame_69 hl (k := 2) rfl (by decide) (by decide) rfl (fun ls hl => ?_)
    refine lv_goto (tgt := 17) hx hb dX2_pairsThatShowTheSame_72 (by decide) ?_
    refine lv_iload_n hx hb dX2_pairsThatShowTheSame_17 rfl (lv_at hl 0 rfl) ?_
    refine lv_aload_n hx hb dX2_pairsThatShowTheSame_18 rfl (lv_at hl 5 rfl) ?_
    refine va_get (D := (dC, dI)) (ci := 2) (v := .ref fa) (C := RX2) (T := TX2) (N := 4) hx hb hts iX2 hown hK hP 0 rfl rfl 0 (by decide) (hts _ q152) (fun _ h9 => h9) rfl dX2_pairsThatShowTheSame_19 ?_
    refine va_alen (v := 4) hx hb hK hP 1 1 rfl rfl rfl dX2_pairsThatShowTheSame_22 ?_
    refine lv_icmp_ge (tgt := 75) hx hb dX2_pairsThatShowTheSame_23 (by decide) (fun c9 => absurd c9 (by decide)) (fun _ => ?_)
    refine lv_aload_n hx hb dX2_pairsThatShowTheSame_26 rfl (lv_at hl 5 rfl) ?_
    refine va_get (D := (dC, dI)) (ci := 2) (v := .ref fa) (C := RX2) (T := TX2) (N := 4) hx hb hts iX2 hown hK hP 0 rfl rfl 0 (by decide) (hts _ q152) (fun _ h9 => h9) rfl dX2_pairsThatShowTheSame_27 ?_
    refine lv_iload_n hx hb dX2_pairsThatShowTheSame_30 rfl (lv_at hl 4 rfl) ?_
    refine va_aldq hx hb hK hP 1 1 rfl rfl (gin_in (by decide)) dX2_pairsThatShowTheSame_31 ?_
    refine sb_topv (v' := .ref q0) (congrArg va_rf (show _ = some q0 from hr0)) ?_
    refine lv_astore (lv' := [(4, .ref q0), (3, .int 3), (5, .null), (1, .int 1), (2, .int 0), (0, .ref h)]) hx hb dX2_pairsThatShowTheSame_32 hl (by decide) rfl (fun ls hl => ?_)
    refine lv_aload_n hx hb dX2_pairsThatShowTheSame_34 rfl (lv_at hl 5 rfl) ?_
    refine va_get (D := (dC, dI)) (ci := 2) (v := .ref fa) (C := RX2) (T := TX2) (N := 4) hx hb hts iX2 hown hK hP 0 rfl rfl 0 (by decide) (hts _ q152) (fun _ h9 => h9) rfl dX2_pairsThatShowTheSame_35 ?_
    refine lv_iload_n hx hb dX2_pairsThatShowTheSame_38 rfl (lv_at hl 1 rfl) ?_
    refine va_aldq hx hb hK hP 1 1 rfl rfl (gin_in (by decide)) dX2_pairsThatShowTheSame_39 ?_
    refine sb_topv (v' := .null) (congrArg va_rf (show _ = none from hr3)) ?_
    refine lv_astoreN (lv' := [(5, .null), (4, .ref q0), (3, .int 3), (1, .int 1), (2, .int 0), (0, .ref h)]) hx hb dX2_pairsThatShowTheSame_40 hl (by decide) rfl (fun ls hl => ?_)
    refine lv_aload hx hb dX2_pairsThatShowTheSame_42 (lv_at hl 1 rfl) ?_
    refine lv_ifnull hx hb dX2_pairsThatShowTheSame_44 ?_
    refine lv_aloadN hx hb dX2_pairsThatShowTheSame_47 (lv_at hl 0 rfl) ?_
    refine lv_ifnullN (tgt := 69) hx hb dX2_pairsThatShowTheSame_49 (by decide) ?_
    refine lv_iinc (v := 4) (lv' := [(3, .int 4), (5, .null), (4, .ref q0), (1, .int 1), (2, .int 0), (0, .ref h)]) hx hb dX2_pairsThatShowTheSame_69 hl (k := 2) rfl (by decide) (by decide) rfl (fun ls hl => ?_)
    refine lv_goto (tgt := 17) hx hb dX2_pairsThatShowTheSame_72 (by decide) ?_
    refine lv_iload_n hx hb dX2_pairsThatShowTheSame_17 rfl (lv_at hl 0 rfl) ?_
    refine lv_aload_n hx hb dX2_pairsThatShowTheSame_18 rfl (lv_at hl 5 rfl) ?_
    refine va_get (D := (dC, dI)) (ci := 2) (v := .ref fa) (C := RX2) (T := TX2) (N := 4) hx hb hts iX2 hown hK hP 0 rfl rfl 0 (by decide) (hts _ q152) (fun _ h9 => h9) rfl dX2_pairsThatShowTheSame_19 ?_
    refine va_alen (v := 4) hx hb hK hP 1 1 rfl rfl rfl dX2_pairsThatShowTheSame_22 ?_
    refine lv_icmp_ge (tgt := 75) hx hb dX2_pairsThatShowTheSame_23 (by decide) (fun _ => ?_) (fun c9 => absurd (by decide) c9)
    refine lv_iinc (v := 1) (lv' := [(2, .int 1), (3, .int 4), (5, .null), (4, .ref q0), (1, .int 1), (0, .ref h)]) hx hb dX2_pairsThatShowTheSame_75 hl (k := 4) rfl (by decide) (by decide) rfl (fun ls hl => ?_)
    refine lv_goto (tgt := 4) hx hb dX2_pairsThatShowTheSame_78 (by decide) ?_
    refine lv_iload_n hx hb dX2_pairsThatShowTheSame_4 rfl (lv_at hl 0 rfl) ?_
    refine lv_aload_n hx hb dX2_pairsThatShowTheSame_5 rfl (lv_at hl 5 rfl) ?_
    refine va_get (D := (dC, dI)) (ci := 2) (v := .ref fa) (C := RX2) (T := TX2) (N := 4) hx hb hts iX2 hown hK hP 0 rfl rfl 0 (by decide) (hts _ q152) (fun _ h9 => h9) rfl dX2_pairsThatShowTheSame_6 ?_
    refine va_alen (v := 4) hx hb hK hP 1 1 rfl rfl rfl dX2_pairsThatShowTheSame_9 ?_
    refine lv_icmp_ge (tgt := 81) hx hb dX2_pairsThatShowTheSame_10 (by decide) (fun c9 => absurd c9 (by decide)) (fun _ => ?_)
    refine lv_iload_n hx hb dX2_pairsThatShowTheSame_13 rfl (lv_at hl 0 rfl) ?_
    refine lv_iconst (v := 1) hx hb dX2_pairsThatShowTheSame_14 (by decide) ?_
    refine lv_iadd hx hb dX2_pairsThatShowTheSame_15 ?_
    refine lv_topi (fun v9 ev9 => ?_)
    have ev9 : v9 = 2 := ev9.trans (by decide)
    subst ev9
    refine lv_istore_n (lv' := [(3, .int 2), (2, .int 1), (5, .null), (4, .ref q0), (1, .int 1), (0, .ref h)]) hx hb dX2_pairsThatShowTheSame_16 rfl hl (by decide) rfl (fun ls hl => ?_)
    refine lv_iload_n hx hb dX2_pairsThatShowTheSame_17 rfl (lv_at hl 0 rfl) ?_
    refine lv_aload_n hx hb dX2_pairsThatShowTheSame_18 rfl (lv_at hl 5 rfl) ?_
    refine va_get (D := (dC, dI)) (ci := 2) (v := .ref fa) (C := RX2) (T := TX2) (N := 4) hx hb hts iX2 hown hK hP 0 rfl rfl 0 (by decide) (hts _ q152) (fun _ h9 => h9) rfl dX2_pairsThatShowTheSame_19 ?_
    refine va_alen (v := 4) hx hb hK hP 1 1 rfl rfl rfl dX2_pairsThatShowTheSame_22 ?_
    refine lv_icmp_ge (tgt := 75) hx hb dX2_pairsThatShowTheSame_23 (by decide) (fun c9 => absurd c9 (by decide)) (fun _ => ?_)
    refine lv_aload_n hx hb dX2_pairsThatShowTheSame_26 rfl (lv_at hl 5 rfl) ?_
    refine va_get (D := (dC, dI)) (ci := 2) (v := .ref fa) (C := RX2) (T := TX2) (N := 4) hx hb hts iX2 hown hK hP 0 rfl rfl 0 (by decide) (hts _ q152) (fun _ h9 => h9) rfl dX2_pairsThatShowTheSame_27 ?_
    refine lv_iload_n hx hb dX2_pairsThatShowTheSame_30 rfl (lv_at hl 1 rfl) ?_
    refine va_aldq hx hb hK hP 1 1 rfl rfl (gin_in (by decide)) dX2_pairsThatShowTheSame_31 ?_
    refine sb_topv (v' := .ref r0) (congrArg va_rf (show _ = some r0 from hr1)) ?_
    refine lv_astore (lv' := [(4, .ref r0), (3, .int 2), (2, .int 1), (5, .null), (1, .int 1), (0, .ref h)]) hx hb dX2_pairsThatShowTheSame_32 hl (by decide) rfl (fun ls hl => ?_)
    refine lv_aload_n hx hb dX2_pairsThatShowTheSame_34 rfl (lv_at hl 5 rfl) ?_
    refine va_get (D := (dC, dI)) (ci := 2) (v := .ref fa) (C := RX2) (T := TX2) (N := 4) hx hb hts iX2 hown hK hP 0 rfl rfl 0 (by decide) (hts _ q152) (fun _ h9 => h9) rfl dX2_pairsThatShowTheSame_35 ?_
    refine lv_iload_n hx hb dX2_pairsThatShowTheSame_38 rfl (lv_at hl 1 rfl) ?_
    refine va_aldq hx hb hK hP 1 1 rfl rfl (gin_in (by decide)) dX2_pairsThatShowTheSame_39 ?_
    refine sb_topv (v' := .null) (congrArg va_rf (show _ = none from hr2)) ?_
    refine lv_astoreN (lv' := [(5, .null), (4, .ref r0), (3, .int 2), (2, .int 1), (1, .int 1), (0, .ref h)]) hx hb dX2_pairsThatShowTheSame_40 hl (by decide) rfl (fun ls hl => ?_)
    refine lv_aload hx hb dX2_pairsThatShowTheSame_42 (lv_at hl 1 rfl) ?_
    refine lv_ifnull hx hb dX2_pairsThatShowTheSame_44 ?_
    refine lv_aloadN hx hb dX2_pairsThatShowTheSame_47 (lv_at hl 0 rfl) ?_
    refine lv_ifnullN (tgt := 69) hx hb dX2_pairsThatShowTheSame_49 (by decide) ?_
    refine lv_iinc (v := 3) (lv' := [(3, .int 3), (5, .null), (4, .ref r0), (2, .int 1), (1, .int 1), (0, .ref h)]) hx hb dX2_pairsThatShowTheSame_69 hl (k := 2) rfl (by decide) (by decide) rfl (fun ls hl => ?_)
    refine lv_goto (tgt := 17) hx hb dX2_pairsThatShowTheSame_72 (by decide) ?_
    refine lv_iload_n hx hb dX2_pairsThatShowTheSame_17 rfl (lv_at hl 0 rfl) ?_
    refine lv_aload_n hx hb dX2_pairsThatShowTheSame_18 rfl (lv_at hl 5 rfl) ?_
    refine va_get (D := (dC, dI)) (ci := 2) (v := .ref fa) (C := RX2) (T := TX2) (N := 4) hx hb hts iX2 hown hK hP 0 rfl rfl 0 (by decide) (hts _ q152) (fun _ h9 => h9) rfl dX2_pairsThatShowTheSame_19 ?_
    refine va_alen (v := 4) hx hb hK hP 1 1 rfl rfl rfl dX2_pairsThatShowTheSame_22 ?_
    refine lv_icmp_ge (tgt := 75) hx hb dX2_pairsThatShowTheSame_23 (by decide) (fun c9 => absurd c9 (by decide)) (fun _ => ?_)
    refine lv_aload_n hx hb dX2_pairsThatShowTheSame_26 rfl (lv_at hl 5 rfl) ?_
    refine va_get (D := (dC, dI)) (ci := 2) (v := .ref fa) (C := RX2) (T := TX2) (N := 4) hx hb hts iX2 hown hK hP 0 rfl rfl 0 (by decide) (hts _ q152) (fun _ h9 => h9) rfl dX2_pairsThatShowTheSame_27 ?_
    refine lv_iload_n hx hb dX2_pairsThatShowTheSame_30 rfl (lv_at hl 3 rfl) ?_
    refine va_aldq hx hb hK hP 1 1 rfl rfl (gin_in (by decide)) dX2_pairsThatShowTheSame_31 ?_
    refine sb_topv (v' := .ref r0) (congrArg va_rf (show _ = some r0 from hr1)) ?_
    refine lv_astore (lv' := [(4, .ref r0), (3, .int 3), (5, .null), (2, .int 1), (1, .int 1), (0, .ref h)]) hx hb dX2_pairsThatShowTheSame_32 hl (by decide) rfl (fun ls hl => ?_)
    refine lv_aload_n hx hb dX2_pairsThatShowTheSame_34 rfl (lv_at hl 5 rfl) ?_
    refine va_get (D := (dC, dI)) (ci := 2) (v := .ref fa) (C := RX2) (T := TX2) (N := 4) hx hb hts iX2 hown hK hP 0 rfl rfl 0 (by decide) (hts _ q152) (fun _ h9 => h9) rfl dX2_pairsThatShowTheSame_35 ?_
    refine lv_iload_n hx hb dX2_pairsThatShowTheSame_38 rfl (lv_at hl 1 rfl) ?_
    refine va_aldq hx hb hK hP 1 1 rfl rfl (gin_in (by decide)) dX2_pairsThatShowTheSame_39 ?_
    refine sb_topv (v' := .null) (congrArg va_rf (show _ = none from hr3)) ?_
    refine lv_astoreN (lv' := [(5, .null), (4, .ref r0), (3, .int 3), (2, .int 1), (1, .int 1), (0, .ref h)]) hx hb dX2_pairsThatShowTheSame_40 hl (by decide) rfl (fun ls hl => ?_)
    refine lv_aload hx hb dX2_pairsThatShowTheSame_42 (lv_at hl 1 rfl) ?_
    refine lv_ifnull hx hb dX2_pairsThatShowTheSame_44 ?_
    refine lv_aloadN hx hb dX2_pairsThatShowTheSame_47 (lv_at hl 0 rfl) ?_
    refine lv_ifnullN (tgt := 69) hx hb dX2_pairsThatShowTheSame_49 (by decide) ?_
    refine lv_iinc (v := 4) (lv' := [(3, .int 4), (5, .null), (4, .ref r0), (2, .int 1), (1, .int 1), (0, .ref h)]) hx hb dX2_pairsThatShowTheSame_69 hl (k := 2) rfl (by decide) (by decide) rfl (fun ls hl => ?_)
    refine lv_goto (tgt := 17) hx hb dX2_pairsThatShowTheSame_72 (by decide) ?_
    refine lv_iload_n hx hb dX2_pairsThatShowTheSame_17 rfl (lv_at hl 0 rfl) ?_
    refine lv_aload_n hx hb dX2_pairsThatShowTheSame_18 rfl (lv_at hl 5 rfl) ?_
    refine va_get (D := (dC, dI)) (ci := 2) (v := .ref fa) (C := RX2) (T := TX2) (N := 4) hx hb hts iX2 hown hK hP 0 rfl rfl 0 (by decide) (hts _ q152) (fun _ h9 => h9) rfl dX2_pairsThatShowTheSame_19 ?_
    refine va_alen (v := 4) hx hb hK hP 1 1 rfl rfl rfl dX2_pairsThatShowTheSame_22 ?_
    refine lv_icmp_ge (tgt := 75) hx hb dX2_pairsThatShowTheSame_23 (by decide) (fun _ => ?_) (fun c9 => absurd (by decide) c9)
    refine lv_iinc (v := 2) (lv' := [(2, .int 2), (3, .int 4), (5, .null), (4, .ref r0), (1, .int 1), (0, .ref h)]) hx hb dX2_pairsThatShowTheSame_75 hl (k := 3) rfl (by decide) (by decide) rfl (fun ls hl => ?_)
    refine lv_goto (tgt := 4) hx hb dX2_pairsThatShowTheSame_78 (by decide) ?_
    refine lv_iload_n hx hb dX2_pairsThatShowTheSame_4 rfl (lv_at hl 0 rfl) ?_
    refine lv_aload_n hx hb dX2_pairsThatShowTheSame_5 rfl (lv_at hl 5 rfl) ?_
    refine va_get (D := (dC, dI)) (ci := 2) (v := .ref fa) (C := RX2) (T := TX2) (N := 4) hx hb hts iX2 hown hK hP 0 rfl rfl 0 (by decide) (hts _ q152) (fun _ h9 => h9) rfl dX2_pairsThatShowTheSame_6 ?_
    refine va_alen (v := 4) hx hb hK hP 1 1 rfl rfl rfl dX2_pairsThatShowTheSame_9 ?_
    refine lv_icmp_ge (tgt := 81) hx hb dX2_pairsThatShowTheSame_10 (by decide) (fun c9 => absurd c9 (by decide)) (fun _ => ?_)
    refine lv_iload_n hx hb dX2_pairsThatShowTheSame_13 rfl (lv_at hl 0 rfl) ?_
    refine lv_iconst (v := 1) hx hb dX2_pairsThatShowTheSame_14 (by decide) ?_
    refine lv_iadd hx hb dX2_pairsThatShowTheSame_15 ?_
    refine lv_topi (fun v10 ev10 => ?_)
    have ev10 : v10 = 3 := ev10.trans (by decide)
    subst ev10
    refine lv_istore_n (lv' := [(3, .int 3), (2, .int 2), (5, .null), (4, .ref r0), (1, .int 1), (0, .ref h)]) hx hb dX2_pairsThatShowTheSame_16 rfl hl (by decide) rfl (fun ls hl => ?_)
    refine lv_iload_n hx hb dX2_pairsThatShowTheSame_17 rfl (lv_at hl 0 rfl) ?_
    refine lv_aload_n hx hb dX2_pairsThatShowTheSame_18 rfl (lv_at hl 5 rfl) ?_
    refine va_get (D := (dC, dI)) (ci := 2) (v := .ref fa) (C := RX2) (T := TX2) (N := 4) hx hb hts iX2 hown hK hP 0 rfl rfl 0 (by decide) (hts _ q152) (fun _ h9 => h9) rfl dX2_pairsThatShowTheSame_19 ?_
    refine va_alen (v := 4) hx hb hK hP 1 1 rfl rfl rfl dX2_pairsThatShowTheSame_22 ?_
    refine lv_icmp_ge (tgt := 75) hx hb dX2_pairsThatShowTheSame_23 (by decide) (fun c9 => absurd c9 (by decide)) (fun _ => ?_)
    refine lv_aload_n hx hb dX2_pairsThatShowTheSame_26 rfl (lv_at hl 5 rfl) ?_
    refine va_get (D := (dC, dI)) (ci := 2) (v := .ref fa) (C := RX2) (T := TX2) (N := 4) hx hb hts iX2 hown hK hP 0 rfl rfl 0 (by decide) (hts _ q152) (fun _ h9 => h9) rfl dX2_pairsThatShowTheSame_27 ?_
    refine lv_iload_n hx hb dX2_pairsThatShowTheSame_30 rfl (lv_at hl 1 rfl) ?_
    refine va_aldq hx hb hK hP 1 1 rfl rfl (gin_in (by decide)) dX2_pairsThatShowTheSame_31 ?_
    refine sb_topv (v' := .null) (congrArg va_rf (show _ = none from hr2)) ?_
    refine lv_astoreN (lv' := [(4, .null), (3, .int 3), (2, .int 2), (5, .null), (1, .int 1), (0, .ref h)]) hx hb dX2_pairsThatShowTheSame_32 hl (by decide) rfl (fun ls hl => ?_)
    refine lv_aload_n hx hb dX2_pairsThatShowTheSame_34 rfl (lv_at hl 5 rfl) ?_
    refine va_get (D := (dC, dI)) (ci := 2) (v := .ref fa) (C := RX2) (T := TX2) (N := 4) hx hb hts iX2 hown hK hP 0 rfl rfl 0 (by decide) (hts _ q152) (fun _ h9 => h9) rfl dX2_pairsThatShowTheSame_35 ?_
    refine lv_iload_n hx hb dX2_pairsThatShowTheSame_38 rfl (lv_at hl 1 rfl) ?_
    refine va_aldq hx hb hK hP 1 1 rfl rfl (gin_in (by decide)) dX2_pairsThatShowTheSame_39 ?_
    refine sb_topv (v' := .null) (congrArg va_rf (show _ = none from hr3)) ?_
    refine lv_astoreN (lv' := [(5, .null), (4, .null), (3, .int 3), (2, .int 2), (1, .int 1), (0, .ref h)]) hx hb dX2_pairsThatShowTheSame_40 hl (by decide) rfl (fun ls hl => ?_)
    refine lv_aloadN hx hb dX2_pairsThatShowTheSame_42 (lv_at hl 1 rfl) ?_
    refine lv_ifnullN (tgt := 69) hx hb dX2_pairsThatShowTheSame_44 (by decide) ?_
    refine lv_iinc (v := 4) (lv' := [(3, .int 4), (5, .null), (4, .null), (2, .int 2), (1, .int 1), (0, .ref h)]) hx hb dX2_pairsThatShowTheSame_69 hl (k := 2) rfl (by decide) (by decide) rfl (fun ls hl => ?_)
    refine lv_goto (tgt := 17) hx hb dX2_pairsThatShowTheSame_72 (by decide) ?_
    refine lv_iload_n hx hb dX2_pairsThatShowTheSame_17 rfl (lv_at hl 0 rfl) ?_
    refine lv_aload_n hx hb dX2_pairsThatShowTheSame_18 rfl (lv_at hl 5 rfl) ?_
    refine va_get (D := (dC, dI)) (ci := 2) (v := .ref fa) (C := RX2) (T := TX2) (N := 4) hx hb hts iX2 hown hK hP 0 rfl rfl 0 (by decide) (hts _ q152) (fun _ h9 => h9) rfl dX2_pairsThatShowTheSame_19 ?_
    refine va_alen (v := 4) hx hb hK hP 1 1 rfl rfl rfl dX2_pairsThatShowTheSame_22 ?_
    refine lv_icmp_ge (tgt := 75) hx hb dX2_pairsThatShowTheSame_23 (by decide) (fun _ => ?_) (fun c9 => absurd (by decide) c9)
    refine lv_iinc (v := 3) (lv' := [(2, .int 3), (3, .int 4), (5, .null), (4, .null), (1, .int 1), (0, .ref h)]) hx hb dX2_pairsThatShowTheSame_75 hl (k := 3) rfl (by decide) (by decide) rfl (fun ls hl => ?_)
    refine lv_goto (tgt := 4) hx hb dX2_pairsThatShowTheSame_78 (by decide) ?_
    refine lv_iload_n hx hb dX2_pairsThatShowTheSame_4 rfl (lv_at hl 0 rfl) ?_
    refine lv_aload_n hx hb dX2_pairsThatShowTheSame_5 rfl (lv_at hl 5 rfl) ?_
    refine va_get (D := (dC, dI)) (ci := 2) (v := .ref fa) (C := RX2) (T := TX2) (N := 4) hx hb hts iX2 hown hK hP 0 rfl rfl 0 (by decide) (hts _ q152) (fun _ h9 => h9) rfl dX2_pairsThatShowTheSame_6 ?_
    refine va_alen (v := 4) hx hb hK hP 1 1 rfl rfl rfl dX2_pairsThatShowTheSame_9 ?_
    refine lv_icmp_ge (tgt := 81) hx hb dX2_pairsThatShowTheSame_10 (by decide) (fun c9 => absurd c9 (by decide)) (fun _ => ?_)
    refine lv_iload_n hx hb dX2_pairsThatShowTheSame_13 rfl (lv_at hl 0 rfl) ?_
    refine lv_iconst (v := 1) hx hb dX2_pairsThatShowTheSame_14 (by decide) ?_
    refine lv_iadd hx hb dX2_pairsThatShowTheSame_15 ?_
    refine lv_topi (fun v11 ev11 => ?_)
    have ev11 : v11 = 4 := ev11.trans (by decide)
    subst ev11
    refine lv_istore_n (lv' := [(3, .int 4), (2, .int 3), (5, .null), (4, .null), (1, .int 1), (0, .ref h)]) hx hb dX2_pairsThatShowTheSame_16 rfl hl (by decide) rfl (fun ls hl => ?_)
    refine lv_iload_n hx hb dX2_pairsThatShowTheSame_17 rfl (lv_at hl 0 rfl) ?_
    refine lv_aload_n hx hb dX2_pairsThatShowTheSame_18 rfl (lv_at hl 5 rfl) ?_
    refine va_get (D := (dC, dI)) (ci := 2) (v := .ref fa) (C := RX2) (T := TX2) (N := 4) hx hb hts iX2 hown hK hP 0 rfl rfl 0 (by decide) (hts _ q152) (fun _ h9 => h9) rfl dX2_pairsThatShowTheSame_19 ?_
    refine va_alen (v := 4) hx hb hK hP 1 1 rfl rfl rfl dX2_pairsThatShowTheSame_22 ?_
    refine lv_icmp_ge (tgt := 75) hx hb dX2_pairsThatShowTheSame_23 (by decide) (fun _ => ?_) (fun c9 => absurd (by decide) c9)
    refine lv_iinc (v := 4) (lv' := [(2, .int 4), (3, .int 4), (5, .null), (4, .null), (1, .int 1), (0, .ref h)]) hx hb dX2_pairsThatShowTheSame_75 hl (k := 1) rfl (by decide) (by decide) rfl (fun ls hl => ?_)
    refine lv_goto (tgt := 4) hx hb dX2_pairsThatShowTheSame_78 (by decide) ?_
    refine lv_iload_n hx hb dX2_pairsThatShowTheSame_4 rfl (lv_at hl 0 rfl) ?_
    refine lv_aload_n hx hb dX2_pairsThatShowTheSame_5 rfl (lv_at hl 5 rfl) ?_
    refine va_get (D := (dC, dI)) (ci := 2) (v := .ref fa) (C := RX2) (T := TX2) (N := 4) hx hb hts iX2 hown hK hP 0 rfl rfl 0 (by decide) (hts _ q152) (fun _ h9 => h9) rfl dX2_pairsThatShowTheSame_6 ?_
    refine va_alen (v := 4) hx hb hK hP 1 1 rfl rfl rfl dX2_pairsThatShowTheSame_9 ?_
    refine lv_icmp_ge (tgt := 81) hx hb dX2_pairsThatShowTheSame_10 (by decide) (fun _ => ?_) (fun c9 => absurd (by decide) c9)
    refine lv_iload_n hx hb dX2_pairsThatShowTheSame_81 rfl (lv_at hl 4 rfl) ?_
    obtain rfl := Option.some.inj hf
    exact W.iret (v := 1) hx hb hr (fun t ht hW => ⟨⟨_, (), rfl, rfl, by rw [ht]; exact hP, hD⟩, hS.F ht⟩) hS.2.2 dX2_pairsThatShowTheSame_82
noncomputable def f_X2_factOfHall (Hb : HB) (F : FR) (F2 : FR) (p0 : Int32) : Option (Int32) := if p0 = 0 then (some (hFc Hb)) else (if p0 = 1 then (some (hRf Hb)) else (if p0 = 2 then (obd (f_X2_pushesOfAll Hb F F2) fun x4 => some x4) else (if p0 = 3 then (obd (f_X2_spilledByAll Hb F F2) fun x6 => some x6) else (obd (f_X2_pairsThatShowTheSame Hb F F2) fun x7 => some x7))))
theorem pc_X2_factOfHall : yX2_factOfHall.cls = RX2 ∧ yX2_factOfHall.cls ≠ "java/lang/invoke/MethodHandle" ∧ yX2_factOfHall.cls ≠ "java/lang/invoke/VarHandle" ∧ (parseMethodDescriptor yX2_factOfHall.desc).map (fun d => d.parameters.length) = some 1 := by decide +kernel
abbrev rm_X2_factOfHall : Room := { frames := 5, cells := 0, slots := 0, locals := 111 }
set_option maxHeartbeats 4000000 in
set_option maxRecDepth 100000 in
theorem c_X2_factOfHall (l : Launch) (dC : Nat → ClassId) (dI : Nat → Nat → Nat) (cI cF cJ cD : ClassId) (h fa tr q0 q1 q2 q3 q4 q5 q6 q7 q8 r0 r1 r2 r3 r4 r5 r6 r7 r8 : Nat) (rw : Nat → Option Nat) (Hb : HB) (F : FR) (F2 : FR) (p0 : Int32) (hr0 : rw (Int32.toNatClampNeg 0) = some q0) (hr1 : rw (Int32.toNatClampNeg 1) = some r0) (hr2 : rw (Int32.toNatClampNeg 2) = none) (hr3 : rw (Int32.toNatClampNeg 3) = none) (res : (Int32)) (hf : f_X2_factOfHall Hb F F2 p0 = some res) (sz : Nat) : Met l yX2_factOfHall (ws_ yX2_factOfHall cX2_factOfHall 2 (some .int)) rm_X2_factOfHall (sbPre (dC, dI) (TY cI cF cJ cD) (wHB cI cF cJ h fa tr rw Hb ++ (wFR cI cF cJ q0 q1 q2 q3 q4 q5 q6 q7 q8 F ++ (wFR cI cF cJ r0 r1 r2 r3 r4 r5 r6 r7 r8 F2))) E0 sz [.ref h, .int p0]) (va_Qi (fun (r : Int32) (_ : Unit) => r = res) (sbEnd (dC, dI) (fun _ => wHB cI cF cJ h fa tr rw Hb ++ (wFR cI cF cJ q0 q1 q2 q3 q4 q5 q6 q7 q8 F ++ (wFR cI cF cJ r0 r1 r2 r3 r4 r5 r6 r7 r8 F2))) (va_A (wHB cI cF cJ h fa tr rw Hb ++ (wFR cI cF cJ q0 q1 q2 q3 q4 q5 q6 q7 q8 F ++ (wFR cI cF cJ r0 r1 r2 r3 r4 r5 r6 r7 r8 F2))) sz)) (va_A (wHB cI cF cJ h fa tr rw Hb ++ (wFR cI cF cJ q0 q1 q2 q3 q4 q5 q6 q7 q8 F ++ (wFR cI cF cJ r0 r1 r2 r3 r4 r5 r6 r7 r8 F2))) sz)) 0 0 (va_A (wHB cI cF cJ h fa tr rw Hb ++ (wFR cI cF cJ q0 q1 q2 q3 q4 q5 q6 q7 q8 F ++ (wFR cI cF cJ r0 r1 r2 r3 r4 r5 r6 r7 r8 F2))) sz) := by
  refine Met.ofW (cc := cX2_factOfHall) (maxL := 2) (ret := (some .int)) (by decide) rfl ?_
  intro p e s m args below meth c s₁ B hml hv
  obtain ⟨rfl, hsz, hP, hK, hD0, hE⟩ := hv
  have hx := B.exec
  have hb := B.bytes
  have hr := B.returns
  have hts0 := atoms_spec (ws := ws_ yX2_factOfHall cX2_factOfHall 2 (some .int)) B.pre
  have hts := fun (w : Cond) (h : w ∈ LW) => hts0 w (List.mem_cons_of_mem _ h)
  have hown : s.vm.findClass RX2 = some m.cls := findClass_of_methodNamed B.named
  have hlocks := B.notSynchronized
  subst hsz
  have hD := hD0.self (sz := s.heap.size)
  generalize hAe : va_A (wHB cI cF cJ h fa tr rw Hb ++ (wFR cI cF cJ q0 q1 q2 q3 q4 q5 q6 q7 q8 F ++ (wFR cI cF cJ r0 r1 r2 r3 r4 r5 r6 r7 r8 F2))) s.heap.size = A at hD ⊢
  have hA : ∀ q : Nat, s.heap.size ≤ q → A q := fun q h => by rw [← hAe]; exact Or.inr h
  have hS : va_S A s.heap s.heap [] := va_S.rf
  have hkc := Nat.zero_le rm_X2_factOfHall.cells
  have hks := Nat.zero_le rm_X2_factOfHall.slots
  have hl := lv_entry ([.ref h, .int p0]) (n := 2) (Nat.le_of_ble_eq_true rfl)
  rw [lg_entry_eq]
  generalize (lg_sl ([.ref h, .int p0]) ++ List.replicate (2 - (lg_sl ([.ref h, .int p0])).length) Slot.unset).toArray = ls at hl ⊢
  have hl : lv_has ls 2 [(0, .ref h), (1, .int p0)] := hl
  rw [f_X2_factOfHall] at hf
  refine lv_iload_n hx hb dX2_factOfHall_0 rfl (lv_at hl 1 rfl) ?_
  by_cases c1 : p0 = 0
  · have hf := ite_t hf c1
    refine lv_tableIn (off := 31) (tgt := 32) hx hb dX2_factOfHall_1 (by rw [c1]; decide) (by rw [c1]; decide) (by rw [c1]; rfl) (by decide) ?_
    refine lv_aload_n hx hb dX2_factOfHall_32 rfl (lv_at hl 0 rfl) ?_
    refine va_get (D := (dC, dI)) (ci := 2) (v := .int (hFc Hb)) (C := RX2) (T := TX2) (N := 4) hx hb hts iX2 hown hK hP 0 rfl rfl 2 (by decide) (hts _ q163) (fun _ h9 => h9) rfl dX2_factOfHall_33 ?_
    obtain rfl := Option.some.inj hf
    exact W.iret (v := (hFc Hb)) hx hb hr (fun t ht hW => ⟨⟨_, (), rfl, rfl, by rw [ht]; exact hP, hD⟩, hS.F ht⟩) hS.2.2 dX2_factOfHall_36
  have hf := ite_f hf c1
  by_cases c2 : p0 = 1
  · have hf := ite_t hf c2
    refine lv_tableIn (off := 36) (tgt := 37) hx hb dX2_factOfHall_1 (by rw [c2]; decide) (by rw [c2]; decide) (by rw [c2]; rfl) (by decide) ?_
    refine lv_aload_n hx hb dX2_factOfHall_37 rfl (lv_at hl 0 rfl) ?_
    refine va_get (D := (dC, dI)) (ci := 2) (v := .int (hRf Hb)) (C := RX2) (T := TX2) (N := 4) hx hb hts iX2 hown hK hP 0 rfl rfl 3 (by decide) (hts _ q265) (fun _ h9 => h9) rfl dX2_factOfHall_38 ?_
    obtain rfl := Option.some.inj hf
    exact W.iret (v := (hRf Hb)) hx hb hr (fun t ht hW => ⟨⟨_, (), rfl, rfl, by rw [ht]; exact hP, hD⟩, hS.F ht⟩) hS.2.2 dX2_factOfHall_41
  have hf := ite_f hf c2
  by_cases c3 : p0 = 2
  · have hf := ite_t hf c3
    refine lv_tableIn (off := 41) (tgt := 42) hx hb dX2_factOfHall_1 (by rw [c3]; decide) (by rw [c3]; decide) (by rw [c3]; rfl) (by decide) ?_
    refine lv_aload_n hx hb dX2_factOfHall_42 rfl (lv_at hl 0 rfl) ?_
    obtain ⟨x4, hx4, hf⟩ := obd_e hf
    refine sb_Vi (As := []) (rest := []) ⟨hx, hb, hml, hown, hts⟩ (fun sz => c_X2_pushesOfAll l dC dI cI cF cJ cD h fa tr q0 q1 q2 q3 q4 q5 q6 q7 q8 r0 r1 r2 r3 r4 r5 r6 r7 r8 rw Hb F F2 hr0 hr1 hr2 hr3 x4 hx4 sz) (cwV 0 hts (g_V q266 q267 q268 q172 q262) rfl rfl rfl pc_X2_pushesOfAll ⟨Nat.le_of_ble_eq_true rfl, Nat.le_of_ble_eq_true rfl⟩) 0 2 rfl rfl hK hP hD hS hA [0, 1, 2, 3, 4, 5, 6, 7, 8, 9, 10, 11, 12, 13, 14, 15, 16, 17, 18, 19] [] rfl rfl (by decide) (by decide) (by decide) (fun _ _ _ _ h => h) (fun _ _ _ => trivial) rfl rfl hl.1 (Nat.le_of_ble_eq_true rfl) dX2_factOfHall_43 ⟨hkc, hks⟩ (fun r9 u H locs hr9 hP hD hS => ?_)
    have hr9 := Eq.symm hr9
    subst hr9
    have hP : va_P (dC, dI) vwCl (wHB cI cF cJ h fa tr rw Hb ++ (wFR cI cF cJ q0 q1 q2 q3 q4 q5 q6 q7 q8 F ++ (wFR cI cF cJ r0 r1 r2 r3 r4 r5 r6 r7 r8 F2))) H := hP
    have hD : va_D A (wHB cI cF cJ h fa tr rw Hb ++ (wFR cI cF cJ q0 q1 q2 q3 q4 q5 q6 q7 q8 F ++ (wFR cI cF cJ r0 r1 r2 r3 r4 r5 r6 r7 r8 F2))) := hD
    obtain rfl := Option.some.inj hf
    exact W.iret (v := x4) hx hb hr (fun t ht hW => ⟨⟨_, (), rfl, rfl, by rw [ht]; exact hP, hD⟩, hS.F ht⟩) hS.2.2 dX2_factOfHall_46
  have hf := ite_f hf c3
  by_cases c5 : p0 = 3
  · have hf := ite_t hf c5
    refine lv_tableIn (off := 46) (tgt := 47) hx hb dX2_factOfHall_1 (by rw [c5]; decide) (by rw [c5]; decide) (by rw [c5]; rfl) (by decide) ?_
    refine lv_aload_n hx hb dX2_factOfHall_47 rfl (lv_at hl 0 rfl) ?_
    obtain ⟨x6, hx6, hf⟩ := obd_e hf
    refine sb_Vi (As := []) (rest := []) ⟨hx, hb, hml, hown, hts⟩ (fun sz => c_X2_spilledByAll l dC dI cI cF cJ cD h fa tr q0 q1 q2 q3 q4 q5 q6 q7 q8 r0 r1 r2 r3 r4 r5 r6 r7 r8 rw Hb F F2 hr0 hr1 hr2 hr3 x6 hx6 sz) (cwV 0 hts (g_V q269 q270 q271 q172 q263) rfl rfl rfl pc_X2_spilledByAll ⟨Nat.le_of_ble_eq_true rfl, Nat.le_of_ble_eq_true rfl⟩) 0 2 rfl rfl hK hP hD hS hA [0, 1, 2, 3, 4, 5, 6, 7, 8, 9, 10, 11, 12, 13, 14, 15, 16, 17, 18, 19] [] rfl rfl (by decide) (by decide) (by decide) (fun _ _ _ _ h => h) (fun _ _ _ => trivial) rfl rfl hl.1 (Nat.le_of_ble_eq_true rfl) dX2_factOfHall_48 ⟨hkc, hks⟩ (fun r9 u H locs hr9 hP hD hS => ?_)
    have hr9 := Eq.symm hr9
    subst hr9
    have hP : va_P (dC, dI) vwCl (wHB cI cF cJ h fa tr rw Hb ++ (wFR cI cF cJ q0 q1 q2 q3 q4 q5 q6 q7 q8 F ++ (wFR cI cF cJ r0 r1 r2 r3 r4 r5 r6 r7 r8 F2))) H := hP
    have hD : va_D A (wHB cI cF cJ h fa tr rw Hb ++ (wFR cI cF cJ q0 q1 q2 q3 q4 q5 q6 q7 q8 F ++ (wFR cI cF cJ r0 r1 r2 r3 r4 r5 r6 r7 r8 F2))) := hD
    obtain rfl := Option.some.inj hf
    exact W.iret (v := x6) hx hb hr (fun t ht hW => ⟨⟨_, (), rfl, rfl, by rw [ht]; exact hP, hD⟩, hS.F ht⟩) hS.2.2 dX2_factOfHall_51
  have hf := ite_f hf c5
  have nc1 := lv_neT c1 (a := 0) (by decide)
  have nc2 := lv_neT c2 (a := 1) (by decide)
  have nc3 := lv_neT c3 (a := 2) (by decide)
  have nc5 := lv_neT c5 (a := 3) (by decide)
  refine lv_tableOut (tgt := 52) hx hb dX2_factOfHall_1 (by omega) (by decide) ?_
  refine lv_aload_n hx hb dX2_factOfHall_52 rfl (lv_at hl 0 rfl) ?_
  obtain ⟨x7, hx7, hf⟩ := obd_e hf
  refine sb_Vi (As := []) (rest := []) ⟨hx, hb, hml, hown, hts⟩ (fun sz => c_X2_pairsThatShowTheSame l dC dI cI cF cJ cD h fa tr q0 q1 q2 q3 q4 q5 q6 q7 q8 r0 r1 r2 r3 r4 r5 r6 r7 r8 rw Hb F F2 hr0 hr1 hr2 hr3 x7 hx7 sz) (cwV 0 hts (g_V q272 q273 q274 q172 q264) rfl rfl rfl pc_X2_pairsThatShowTheSame ⟨Nat.le_of_ble_eq_true rfl, Nat.le_of_ble_eq_true rfl⟩) 0 2 rfl rfl hK hP hD hS hA [0, 1, 2, 3, 4, 5, 6, 7, 8, 9, 10, 11, 12, 13, 14, 15, 16, 17, 18, 19] [] rfl rfl (by decide) (by decide) (by decide) (fun _ _ _ _ h => h) (fun _ _ _ => trivial) rfl rfl hl.1 (Nat.le_of_ble_eq_true rfl) dX2_factOfHall_53 ⟨hkc, hks⟩ (fun r9 u H locs hr9 hP hD hS => ?_)
  have hr9 := Eq.symm hr9
  subst hr9
  have hP : va_P (dC, dI) vwCl (wHB cI cF cJ h fa tr rw Hb ++ (wFR cI cF cJ q0 q1 q2 q3 q4 q5 q6 q7 q8 F ++ (wFR cI cF cJ r0 r1 r2 r3 r4 r5 r6 r7 r8 F2))) H := hP
  have hD : va_D A (wHB cI cF cJ h fa tr rw Hb ++ (wFR cI cF cJ q0 q1 q2 q3 q4 q5 q6 q7 q8 F ++ (wFR cI cF cJ r0 r1 r2 r3 r4 r5 r6 r7 r8 F2))) := hD
  obtain rfl := Option.some.inj hf
  exact W.iret (v := x7) hx hb hr (fun t ht hW => ⟨⟨_, (), rfl, rfl, by rw [ht]; exact hP, hD⟩, hS.F ht⟩) hS.2.2 dX2_factOfHall_56
noncomputable def f_X2_many (Hb : HB) (F : FR) (F2 : FR) (p0 : Int32) : Option (Int32) := obd (f_X2_refuseUnlessBelow p0 5) fun x1 => obd (f_X2_factOfHall Hb F F2 p0) fun x2 => some x2
theorem pc_X2_many : yX2_many.cls = RX2 ∧ yX2_many.cls ≠ "java/lang/invoke/MethodHandle" ∧ yX2_many.cls ≠ "java/lang/invoke/VarHandle" ∧ (parseMethodDescriptor yX2_many.desc).map (fun d => d.parameters.length) = some 1 := by decide +kernel
abbrev rm_X2_many : Room := { frames := 6, cells := 0, slots := 0, locals := 132 }
set_option maxHeartbeats 4000000 in
set_option maxRecDepth 100000 in
theorem c_X2_many (l : Launch) (dC : Nat → ClassId) (dI : Nat → Nat → Nat) (cI cF cJ cD : ClassId) (h fa tr q0 q1 q2 q3 q4 q5 q6 q7 q8 r0 r1 r2 r3 r4 r5 r6 r7 r8 : Nat) (rw : Nat → Option Nat) (Hb : HB) (F : FR) (F2 : FR) (p0 : Int32) (hr0 : rw (Int32.toNatClampNeg 0) = some q0) (hr1 : rw (Int32.toNatClampNeg 1) = some r0) (hr2 : rw (Int32.toNatClampNeg 2) = none) (hr3 : rw (Int32.toNatClampNeg 3) = none) (res : (Int32)) (hf : f_X2_many Hb F F2 p0 = some res) (sz : Nat) : Met l yX2_many (ws_ yX2_many cX2_many 2 (some .int)) rm_X2_many (sbPre (dC, dI) (TY cI cF cJ cD) (wHB cI cF cJ h fa tr rw Hb ++ (wFR cI cF cJ q0 q1 q2 q3 q4 q5 q6 q7 q8 F ++ (wFR cI cF cJ r0 r1 r2 r3 r4 r5 r6 r7 r8 F2))) E0 sz [.ref h, .int p0]) (va_Qi (fun (r : Int32) (_ : Unit) => r = res) (sbEnd (dC, dI) (fun _ => wHB cI cF cJ h fa tr rw Hb ++ (wFR cI cF cJ q0 q1 q2 q3 q4 q5 q6 q7 q8 F ++ (wFR cI cF cJ r0 r1 r2 r3 r4 r5 r6 r7 r8 F2))) (va_A (wHB cI cF cJ h fa tr rw Hb ++ (wFR cI cF cJ q0 q1 q2 q3 q4 q5 q6 q7 q8 F ++ (wFR cI cF cJ r0 r1 r2 r3 r4 r5 r6 r7 r8 F2))) sz)) (va_A (wHB cI cF cJ h fa tr rw Hb ++ (wFR cI cF cJ q0 q1 q2 q3 q4 q5 q6 q7 q8 F ++ (wFR cI cF cJ r0 r1 r2 r3 r4 r5 r6 r7 r8 F2))) sz)) 0 0 (va_A (wHB cI cF cJ h fa tr rw Hb ++ (wFR cI cF cJ q0 q1 q2 q3 q4 q5 q6 q7 q8 F ++ (wFR cI cF cJ r0 r1 r2 r3 r4 r5 r6 r7 r8 F2))) sz) := by
  refine Met.ofW (cc := cX2_many) (maxL := 2) (ret := (some .int)) (by decide) rfl ?_
  intro p e s m args below meth c s₁ B hml hv
  obtain ⟨rfl, hsz, hP, hK, hD0, hE⟩ := hv
  have hx := B.exec
  have hb := B.bytes
  have hr := B.returns
  have hts0 := atoms_spec (ws := ws_ yX2_many cX2_many 2 (some .int)) B.pre
  have hts := fun (w : Cond) (h : w ∈ LW) => hts0 w (List.mem_cons_of_mem _ h)
  have hown : s.vm.findClass RX2 = some m.cls := findClass_of_methodNamed B.named
  have hlocks := B.notSynchronized
  subst hsz
  have hD := hD0.self (sz := s.heap.size)
  generalize hAe : va_A (wHB cI cF cJ h fa tr rw Hb ++ (wFR cI cF cJ q0 q1 q2 q3 q4 q5 q6 q7 q8 F ++ (wFR cI cF cJ r0 r1 r2 r3 r4 r5 r6 r7 r8 F2))) s.heap.size = A at hD ⊢
  have hA : ∀ q : Nat, s.heap.size ≤ q → A q := fun q h => by rw [← hAe]; exact Or.inr h
  have hS : va_S A s.heap s.heap [] := va_S.rf
  have hkc := Nat.zero_le rm_X2_many.cells
  have hks := Nat.zero_le rm_X2_many.slots
  have hl := lv_entry ([.ref h, .int p0]) (n := 2) (Nat.le_of_ble_eq_true rfl)
  rw [lg_entry_eq]
  generalize (lg_sl ([.ref h, .int p0]) ++ List.replicate (2 - (lg_sl ([.ref h, .int p0])).length) Slot.unset).toArray = ls at hl ⊢
  have hl : lv_has ls 2 [(0, .ref h), (1, .int p0)] := hl
  rw [f_X2_many] at hf
  refine lv_iload_n hx hb dX2_many_0 rfl (lv_at hl 1 rfl) ?_
  refine lv_iconst (v := 5) hx hb dX2_many_1 (by decide) ?_
  obtain ⟨x1, hx1, hf⟩ := obd_e hf
  refine sb_Sv (As := [.int p0, .int 5]) (rest := []) ⟨hx, hb, hml, hown, hts⟩ (fun sz => c_X2_refuseUnlessBelow l dC dI cI cF cJ cD  p0 5  x1 hx1 sz) (va_cwS 2 hts (g_S q254 q255 q172 q253) rfl rfl rfl ps_X2_refuseUnlessBelow ⟨Nat.le_of_ble_eq_true rfl, Nat.le_of_ble_eq_true rfl⟩)  hK hP hD hS hA [] [0, 1, 2, 3, 4, 5, 6, 7, 8, 9, 10, 11, 12, 13, 14, 15, 16, 17, 18, 19] rfl rfl (by decide) (by decide) (by decide) (fun _ _ _ _ h => h) (fun _ _ _ => trivial) rfl rfl hl.1 (Nat.le_of_ble_eq_true rfl) dX2_many_2 ⟨hkc, hks⟩ (fun u H locs hr9 hP hD hS => ?_)
  have hP : va_P (dC, dI) vwCl (wHB cI cF cJ h fa tr rw Hb ++ (wFR cI cF cJ q0 q1 q2 q3 q4 q5 q6 q7 q8 F ++ (wFR cI cF cJ r0 r1 r2 r3 r4 r5 r6 r7 r8 F2))) H := hP
  have hD : va_D A (wHB cI cF cJ h fa tr rw Hb ++ (wFR cI cF cJ q0 q1 q2 q3 q4 q5 q6 q7 q8 F ++ (wFR cI cF cJ r0 r1 r2 r3 r4 r5 r6 r7 r8 F2))) := hD
  refine lv_aload_n hx hb dX2_many_5 rfl (lv_at hl 0 rfl) ?_
  refine lv_iload_n hx hb dX2_many_6 rfl (lv_at hl 1 rfl) ?_
  obtain ⟨x2, hx2, hf⟩ := obd_e hf
  refine sb_Vi (As := [.int p0]) (rest := []) ⟨hx, hb, hml, hown, hts⟩ (fun sz => c_X2_factOfHall l dC dI cI cF cJ cD h fa tr q0 q1 q2 q3 q4 q5 q6 q7 q8 r0 r1 r2 r3 r4 r5 r6 r7 r8 rw Hb F F2 p0 hr0 hr1 hr2 hr3 x2 hx2 sz) (cwV 1 hts (g_V q276 q277 q278 q172 q275) rfl rfl rfl pc_X2_factOfHall ⟨Nat.le_of_ble_eq_true rfl, Nat.le_of_ble_eq_true rfl⟩) 0 2 rfl rfl hK hP hD hS hA [0, 1, 2, 3, 4, 5, 6, 7, 8, 9, 10, 11, 12, 13, 14, 15, 16, 17, 18, 19] [] rfl rfl (by decide) (by decide) (by decide) (fun _ _ _ _ h => h) (fun _ _ _ => trivial) rfl rfl hl.1 (Nat.le_of_ble_eq_true rfl) dX2_many_7 ⟨hkc, hks⟩ (fun r9 u H locs hr9 hP hD hS => ?_)
  have hr9 := Eq.symm hr9
  subst hr9
  have hP : va_P (dC, dI) vwCl (wHB cI cF cJ h fa tr rw Hb ++ (wFR cI cF cJ q0 q1 q2 q3 q4 q5 q6 q7 q8 F ++ (wFR cI cF cJ r0 r1 r2 r3 r4 r5 r6 r7 r8 F2))) H := hP
  have hD : va_D A (wHB cI cF cJ h fa tr rw Hb ++ (wFR cI cF cJ q0 q1 q2 q3 q4 q5 q6 q7 q8 F ++ (wFR cI cF cJ r0 r1 r2 r3 r4 r5 r6 r7 r8 F2))) := hD
  obtain rfl := Option.some.inj hf
  exact W.iret (v := x2) hx hb hr (fun t ht hW => ⟨⟨_, (), rfl, rfl, by rw [ht]; exact hP, hD⟩, hS.F ht⟩) hS.2.2 dX2_many_10
noncomputable def f_X2_mixed (p0 : Int64) (p1 : Int64) : Option (Int64) := bnd (p0 * 31) fun (v1 : Int64) => bnd (v1 + p1) fun (v2 : Int64) => some v2
theorem ps_X2_mixed : yX2_mixed.cls ≠ "java/lang/invoke/MethodHandle" ∧ yX2_mixed.cls ≠ "java/lang/invoke/VarHandle" ∧ (parseMethodDescriptor yX2_mixed.desc).map (fun d => d.parameters.length) = some 2 := by decide +kernel
abbrev rm_X2_mixed : Room := { frames := 1, cells := 0, slots := 0, locals := 21 }
set_option maxHeartbeats 4000000 in
set_option maxRecDepth 100000 in
theorem c_X2_mixed (l : Launch) (dC : Nat → ClassId) (dI : Nat → Nat → Nat) (cI cF cJ cD : ClassId) (p0 : Int64) (p1 : Int64) (res : (Int64)) (hf : f_X2_mixed p0 p1 = some res) (sz : Nat) : Met l yX2_mixed (ws_ yX2_mixed cX2_mixed 4 (some .long)) rm_X2_mixed (sbPre (dC, dI) (TY cI cF cJ cD) (([] : va_W)) E0 sz [.long p0, .long p1]) (va_Ql (fun (r : Int64) (_ : Unit) => r = res) (sbEnd (dC, dI) (fun _ => ([] : va_W)) (va_A (([] : va_W)) sz)) (va_A (([] : va_W)) sz)) 0 0 (va_A (([] : va_W)) sz) := by
  refine Met.ofW (cc := cX2_mixed) (maxL := 4) (ret := (some .long)) (by decide) rfl ?_
  intro p e s m args below meth c s₁ B hml hv
  obtain ⟨rfl, hsz, hP, hK, hD0, hE⟩ := hv
  have hx := B.exec
  have hb := B.bytes
  have hr := B.returns
  have hts0 := atoms_spec (ws := ws_ yX2_mixed cX2_mixed 4 (some .long)) B.pre
  have hts := fun (w : Cond) (h : w ∈ LW) => hts0 w (List.mem_cons_of_mem _ h)
  have hown : s.vm.findClass RX2 = some m.cls := findClass_of_methodNamed B.named
  have hlocks := B.notSynchronized
  subst hsz
  have hD := hD0.self (sz := s.heap.size)
  generalize hAe : va_A (([] : va_W)) s.heap.size = A at hD ⊢
  have hA : ∀ q : Nat, s.heap.size ≤ q → A q := fun q h => by rw [← hAe]; exact Or.inr h
  have hS : va_S A s.heap s.heap [] := va_S.rf
  have hkc := Nat.zero_le rm_X2_mixed.cells
  have hks := Nat.zero_le rm_X2_mixed.slots
  have hl := lv_entry ([.long p0, .long p1]) (n := 4) (Nat.le_of_ble_eq_true rfl)
  rw [lg_entry_eq]
  generalize (lg_sl ([.long p0, .long p1]) ++ List.replicate (4 - (lg_sl ([.long p0, .long p1])).length) Slot.unset).toArray = ls at hl ⊢
  have hl : lv_has ls 4 [(0, .long p0), (2, .long p1)] := hl
  rw [f_X2_mixed] at hf
  refine lv_lload_n hx hb dX2_mixed_0 rfl (lv_at hl 0 rfl) ?_
  refine lv_ldc2 hx hb hown (hts _ q307) dX2_mixed_1 ?_
  refine lv_lmul hx hb dX2_mixed_4 ?_
  refine lv_topl (fun v1 ev1 => ?_)
  have hf := bnd_all hf v1 ev1
  refine lv_lload_n hx hb dX2_mixed_5 rfl (lv_at hl 1 rfl) ?_
  refine lv_ladd hx hb dX2_mixed_6 ?_
  refine lv_topl (fun v2 ev2 => ?_)
  have hf := bnd_all hf v2 ev2
  obtain rfl := Option.some.inj hf
  exact W.lret (v := v2) hx hb hr (fun t ht hW => ⟨⟨_, (), rfl, rfl, by rw [ht]; exact hP, hD⟩, hS.F ht⟩) hS.2.2 dX2_mixed_7
noncomputable def l_X2_mixedWithFrame_6 (R0 : HB) (R1 : FR) (k : Int64 → Int32 → FR → Option (Int64 × FR)) : Nat → Int64 → Int32 → FR → Option (Int64 × FR)
  | 0, _, _, _ => none
  | n + 1, a1, a2, F3 => if (13 : Int32) ≤ a2 then (k a1 a2 F3) else (obd (f_X1_factOfFrame R1 a2) fun x5 => bnd (x5.toInt64) fun (v6 : Int64) => obd (f_X2_mixed a1 v6) fun x7 => bnd (a2 + 1) fun (v8 : Int32) => l_X2_mixedWithFrame_6 R0 R1 k n x7 v8 F3)
noncomputable def l_X2_mixedWithFrame_87 (R0 : HB) (R1 : FR) (k : Int64 → Int32 → FR → Option (Int64 × FR)) : Nat → Int64 → Int32 → FR → Option (Int64 × FR)
  | 0, _, _, _ => none
  | n + 1, a36, a37, F38 => if (4 : Int32) ≤ a37 then (k a36 a37 F38) else (obd (f_X2_countByAdding R0 R1 F38 7 a37) fun x40 => bnd (x40.1.toInt64) fun (v41 : Int64) => obd (f_X2_mixed a36 v41) fun x42 => bnd (a37 + 1) fun (v43 : Int32) => l_X2_mixedWithFrame_87 R0 R1 k n x42 v43 x40.2)
noncomputable def l_X2_mixedWithFrame_150 (c6 : Int32) (R0 : HB) (R1 : FR) (k : Int64 → Int32 → FR → Option (Int64 × FR)) : Nat → Int64 → Int32 → FR → Option (Int64 × FR)
  | 0, _, _, _ => none
  | n + 1, a67, a68, F69 => if (6 : Int32) ≤ a68 then (k a67 a68 F69) else (obd (f_X1_factOfRod R1 c6 a68) fun x71 => bnd (x71.toInt64) fun (v72 : Int64) => obd (f_X2_mixed a67 v72) fun x73 => bnd (a68 + 1) fun (v74 : Int32) => l_X2_mixedWithFrame_150 c6 R0 R1 k n x73 v74 F69)
noncomputable def l_X2_mixedWithFrame_138 (R0 : HB) (R1 : FR) (k : Int64 → Int32 → FR → Option (Int64 × FR)) : Nat → Int64 → Int32 → FR → Option (Int64 × FR)
  | 0, _, _, _ => none
  | n + 1, a63, a64, F65 => if (fRd R1) ≤ a64 then (k a63 a64 F65) else (l_X2_mixedWithFrame_150 a64 R0 R1 (fun (a86 : Int64) (a87 : Int32) (F88 : FR) => obd (f_X2_hardestDigit R0 R1 F88 a64) fun x89 => bnd (x89.1.toInt64) fun (v90 : Int64) => obd (f_X2_mixed a86 v90) fun x91 => bnd (a64 + 1) fun (v92 : Int32) => l_X2_mixedWithFrame_138 R0 R1 k n x91 v92 x89.2) 16 a63 0 F65)
noncomputable def f_X2_mixedWithFrame (Hb : HB) (F : FR) (Tr : FR) (p0 : Int64) : Option (Int64 × FR) := l_X2_mixedWithFrame_6 Hb F (fun (a20 : Int64) (a21 : Int32) (F22 : FR) => obd (f_X1_shownNumber F) fun x23 => obd (f_X2_mixed a20 x23) fun x24 => gd (nn64 (FP.f2d (fSe F))) <| bnd (FP.f2d (fSe F)) fun (v26 : UInt64) => gd (nn64 (FP.dmul 4625196817309499392 v26)) <| bnd (FP.dmul 4625196817309499392 v26) fun (v28 : UInt64) => bnd (FP.d2l v28) fun (v29 : Int64) => obd (f_X2_mixed x24 v29) fun x30 => obd (f_X1_waysToShow F) fun x31 => obd (f_X2_mixed x30 x31) fun x32 => obd (f_X1_fewestBeadsToShow F) fun x33 => bnd (x33.toInt64) fun (v34 : Int64) => obd (f_X2_mixed x32 v34) fun x35 => l_X2_mixedWithFrame_87 Hb F (fun (a55 : Int64) (a56 : Int32) (F57 : FR) => obd (f_X2_secondsByAdding Hb F F57 7) fun x58 => gd (nn64 (FP.dmul 4625196817309499392 x58.1)) <| bnd (FP.dmul 4625196817309499392 x58.1) fun (v60 : UInt64) => bnd (FP.d2l v60) fun (v61 : Int64) => obd (f_X2_mixed a55 v61) fun x62 => l_X2_mixedWithFrame_138 Hb F (fun (a118 : Int64) (a119 : Int32) (F120 : FR) => some (a118, F120)) 16 x62 0 x58.2) 16 x35 0 F22) 16 p0 0 Tr
theorem pc_X2_mixedWithFrame : yX2_mixedWithFrame.cls = RX2 ∧ yX2_mixedWithFrame.cls ≠ "java/lang/invoke/MethodHandle" ∧ yX2_mixedWithFrame.cls ≠ "java/lang/invoke/VarHandle" ∧ (parseMethodDescriptor yX2_mixedWithFrame.desc).map (fun d => d.parameters.length) = some 2 := by decide +kernel
abbrev rm_X2_mixedWithFrame : Room := { frames := 6, cells := 0, slots := 0, locals := 151 }
set_option maxHeartbeats 4000000 in
set_option maxRecDepth 100000 in
theorem c_X2_mixedWithFrame (l : Launch) (dC : Nat → ClassId) (dI : Nat → Nat → Nat) (cI cF cJ cD : ClassId) (h fa tr q0 q1 q2 q3 q4 q5 q6 q7 q8 t1 t2 t3 t4 t5 t6 t7 t8 : Nat) (rw : Nat → Option Nat) (Hb : HB) (F : FR) (Tr : FR) (p0 : Int64) (res : (Int64 × FR)) (hf : f_X2_mixedWithFrame Hb F Tr p0 = some res) (sz : Nat) : Met l yX2_mixedWithFrame (ws_ yX2_mixedWithFrame cX2_mixedWithFrame 8 (some .long)) rm_X2_mixedWithFrame (sbPre (dC, dI) (TY cI cF cJ cD) (wHB cI cF cJ h fa tr rw Hb ++ (wFR cI cF cJ q0 q1 q2 q3 q4 q5 q6 q7 q8 F ++ (wFR cI cF cJ tr t1 t2 t3 t4 t5 t6 t7 t8 Tr))) E0 sz [.ref h, .long p0, .ref q0]) (va_Ql (fun (r : Int64) (_ : Unit) => r = res.1) (sbEnd (dC, dI) (fun _ => wHB cI cF cJ h fa tr rw Hb ++ (wFR cI cF cJ q0 q1 q2 q3 q4 q5 q6 q7 q8 F ++ (wFR cI cF cJ tr t1 t2 t3 t4 t5 t6 t7 t8 res.2))) (va_A (wHB cI cF cJ h fa tr rw Hb ++ (wFR cI cF cJ q0 q1 q2 q3 q4 q5 q6 q7 q8 F ++ (wFR cI cF cJ tr t1 t2 t3 t4 t5 t6 t7 t8 Tr))) sz)) (va_A (wHB cI cF cJ h fa tr rw Hb ++ (wFR cI cF cJ q0 q1 q2 q3 q4 q5 q6 q7 q8 F ++ (wFR cI cF cJ tr t1 t2 t3 t4 t5 t6 t7 t8 Tr))) sz)) 0 0 (va_A (wHB cI cF cJ h fa tr rw Hb ++ (wFR cI cF cJ q0 q1 q2 q3 q4 q5 q6 q7 q8 F ++ (wFR cI cF cJ tr t1 t2 t3 t4 t5 t6 t7 t8 Tr))) sz) := by
  refine Met.ofW (cc := cX2_mixedWithFrame) (maxL := 8) (ret := (some .long)) (by decide) rfl ?_
  intro p e s m args below meth c s₁ B hml hv
  obtain ⟨rfl, hsz, hP, hK, hD0, hE⟩ := hv
  have hx := B.exec
  have hb := B.bytes
  have hr := B.returns
  have hts0 := atoms_spec (ws := ws_ yX2_mixedWithFrame cX2_mixedWithFrame 8 (some .long)) B.pre
  have hts := fun (w : Cond) (h : w ∈ LW) => hts0 w (List.mem_cons_of_mem _ h)
  have hown : s.vm.findClass RX2 = some m.cls := findClass_of_methodNamed B.named
  have hlocks := B.notSynchronized
  subst hsz
  have hD := hD0.self (sz := s.heap.size)
  generalize hAe : va_A (wHB cI cF cJ h fa tr rw Hb ++ (wFR cI cF cJ q0 q1 q2 q3 q4 q5 q6 q7 q8 F ++ (wFR cI cF cJ tr t1 t2 t3 t4 t5 t6 t7 t8 Tr))) s.heap.size = A at hD ⊢
  have hA : ∀ q : Nat, s.heap.size ≤ q → A q := fun q h => by rw [← hAe]; exact Or.inr h
  have hS : va_S A s.heap s.heap [] := va_S.rf
  have hkc := Nat.zero_le rm_X2_mixedWithFrame.cells
  have hks := Nat.zero_le rm_X2_mixedWithFrame.slots
  have hl := lv_entry ([.ref h, .long p0, .ref q0]) (n := 8) (Nat.le_of_ble_eq_true rfl)
  rw [lg_entry_eq]
  generalize (lg_sl ([.ref h, .long p0, .ref q0]) ++ List.replicate (8 - (lg_sl ([.ref h, .long p0, .ref q0])).length) Slot.unset).toArray = ls at hl ⊢
  have hl : lv_has ls 8 [(0, .ref h), (1, .long p0), (3, .ref q0)] := hl
  rw [f_X2_mixedWithFrame] at hf
  refine lv_lload_n hx hb dX2_mixedWithFrame_0 rfl (lv_at hl 1 rfl) ?_
  refine lv_lstore (lv' := [(4, .long p0), (0, .ref h), (1, .long p0), (3, .ref q0)]) hx hb dX2_mixedWithFrame_1 hl (by decide) rfl (fun ls hl => ?_)
  refine lv_iconst (v := 0) hx hb dX2_mixedWithFrame_3 (by decide) ?_
  refine lv_istore (lv' := [(6, .int 0), (4, .long p0), (0, .ref h), (1, .long p0), (3, .ref q0)]) hx hb dX2_mixedWithFrame_4 hl (by decide) rfl (fun ls hl => ?_)
  have L6 : ∀ (k : Int64 → Int32 → FR → Option (Int64 × FR)), (∀ (a9 : Int64) (a10 : Int32) (F11 : FR) (H : Heap) (locs : List Loc) (ls : Array Slot), va_P (dC, dI) vwCl (wHB cI cF cJ h fa tr rw Hb ++ (wFR cI cF cJ q0 q1 q2 q3 q4 q5 q6 q7 q8 F ++ (wFR cI cF cJ tr t1 t2 t3 t4 t5 t6 t7 t8 F11))) H → va_D A (wHB cI cF cJ h fa tr rw Hb ++ (wFR cI cF cJ q0 q1 q2 q3 q4 q5 q6 q7 q8 F ++ (wFR cI cF cJ tr t1 t2 t3 t4 t5 t6 t7 t8 F11))) → va_S A s.heap H locs → lv_has ls 8 [(4, .long a9), (0, .ref h), (3, .ref q0)] → k a9 a10 F11 = some res → W p l e (headSpec (ws_ yX2_mixedWithFrame cX2_mixedWithFrame 8 (some .long)) rm_X2_mixedWithFrame).room s m ([.ref h, .long p0, .ref q0].toArray) below meth c H locs 0 0 (MQ below (va_Ql (fun (r : Int64) (_ : Unit) => r = res.1) (sbEnd (dC, dI) (fun _ => wHB cI cF cJ h fa tr rw Hb ++ (wFR cI cF cJ q0 q1 q2 q3 q4 q5 q6 q7 q8 F ++ (wFR cI cF cJ tr t1 t2 t3 t4 t5 t6 t7 t8 res.2))) (A)) (A)) ([.ref h, .long p0, .ref q0].toArray) s 0 0 A) (F0 m 33 ls [])) → ∀ (n : Nat) (a9 : Int64) (a10 : Int32) (F11 : FR) (H : Heap) (locs : List Loc) (ls : Array Slot), va_P (dC, dI) vwCl (wHB cI cF cJ h fa tr rw Hb ++ (wFR cI cF cJ q0 q1 q2 q3 q4 q5 q6 q7 q8 F ++ (wFR cI cF cJ tr t1 t2 t3 t4 t5 t6 t7 t8 F11))) H → va_D A (wHB cI cF cJ h fa tr rw Hb ++ (wFR cI cF cJ q0 q1 q2 q3 q4 q5 q6 q7 q8 F ++ (wFR cI cF cJ tr t1 t2 t3 t4 t5 t6 t7 t8 F11))) → va_S A s.heap H locs → lv_has ls 8 [(4, .long a9), (6, .int a10), (0, .ref h), (3, .ref q0)] → l_X2_mixedWithFrame_6 Hb F k n a9 a10 F11 = some res → W p l e (headSpec (ws_ yX2_mixedWithFrame cX2_mixedWithFrame 8 (some .long)) rm_X2_mixedWithFrame).room s m ([.ref h, .long p0, .ref q0].toArray) below meth c H locs 0 0 (MQ below (va_Ql (fun (r : Int64) (_ : Unit) => r = res.1) (sbEnd (dC, dI) (fun _ => wHB cI cF cJ h fa tr rw Hb ++ (wFR cI cF cJ q0 q1 q2 q3 q4 q5 q6 q7 q8 F ++ (wFR cI cF cJ tr t1 t2 t3 t4 t5 t6 t7 t8 res.2))) (A)) (A)) ([.ref h, .long p0, .ref q0].toArray) s 0 0 A) (F0 m 6 ls []) := by
    intro k hk n
    induction n with
    | zero =>
      intro a12 a13 F14 H locs ls hP hD hS hl hf
      rw [l_X2_mixedWithFrame_6] at hf
      cases hf
    | succ n ih =>
      intro a12 a13 F14 H locs ls hP hD hS hl hf
      rw [l_X2_mixedWithFrame_6] at hf
      refine lv_iload hx hb dX2_mixedWithFrame_6 (lv_at hl 1 rfl) ?_
      refine lv_bipush (v := 13) hx hb dX2_mixedWithFrame_8 (by decide) ?_
      refine lv_icmp_ge (tgt := 33) hx hb dX2_mixedWithFrame_10 (by decide) (fun c15 => ?_) (fun c15 => ?_)
      · have hf := ite_t hf c15
        exact hk a12 a13 F14 _ _ _ hP hD hS (lv_sub hl [0, 2, 3] rfl) hf
      · have hf := ite_f hf c15
        refine lv_lload hx hb dX2_mixedWithFrame_13 (lv_at hl 0 rfl) ?_
        refine lv_aload_n hx hb dX2_mixedWithFrame_15 rfl (lv_at hl 3 rfl) ?_
        refine lv_iload hx hb dX2_mixedWithFrame_16 (lv_at hl 1 rfl) ?_
        obtain ⟨x16, hx16, hf⟩ := obd_e hf
        refine sb_Vi (As := [.int a13]) (rest := [.long a12]) ⟨hx, hb, hml, hown, hts⟩ (fun sz => c_X1_factOfFrame l dC dI cI cF cJ cD q0 q1 q2 q3 q4 q5 q6 q7 q8 F a13  x16 hx16 sz) (cwV 1 hts (g_V q256 q257 q258 q56 q136) rfl rfl rfl pc_X1_factOfFrame ⟨Nat.le_of_ble_eq_true rfl, Nat.le_of_ble_eq_true rfl⟩) 0 1 rfl rfl hK hP hD hS hA [2, 3, 4, 5, 6, 7, 8, 9, 10] [0, 1, 11, 12, 13, 14, 15, 16, 17, 18, 19] rfl rfl (by decide) (by decide) (by decide) (fun _ _ _ _ h => h) (fun _ _ _ => trivial) rfl rfl hl.1 (Nat.le_of_ble_eq_true rfl) dX2_mixedWithFrame_18 ⟨hkc, hks⟩ (fun r9 u H locs hr9 hP hD hS => ?_)
        have hr9 := Eq.symm hr9
        subst hr9
        have hP : va_P (dC, dI) vwCl (wHB cI cF cJ h fa tr rw Hb ++ (wFR cI cF cJ q0 q1 q2 q3 q4 q5 q6 q7 q8 F ++ (wFR cI cF cJ tr t1 t2 t3 t4 t5 t6 t7 t8 F14))) H := hP.sub [0, 1, 11, 12, 13, 14, 15, 16, 17, 18, 19, 2, 3, 4, 5, 6, 7, 8, 9, 10] rfl
        have hD : va_D A (wHB cI cF cJ h fa tr rw Hb ++ (wFR cI cF cJ q0 q1 q2 q3 q4 q5 q6 q7 q8 F ++ (wFR cI cF cJ tr t1 t2 t3 t4 t5 t6 t7 t8 F14))) := hD.sub [0, 1, 11, 12, 13, 14, 15, 16, 17, 18, 19, 2, 3, 4, 5, 6, 7, 8, 9, 10] (by decide) rfl
        refine lv_i2l hx hb dX2_mixedWithFrame_21 rfl ?_
        refine lv_topl (fun v17 ev17 => ?_)
        have hf := bnd_all hf v17 ev17
        obtain ⟨x18, hx18, hf⟩ := obd_e hf
        refine sb_Sl (As := [.long a12, .long v17]) (rest := []) ⟨hx, hb, hml, hown, hts⟩ (fun sz => c_X2_mixed l dC dI cI cF cJ cD  a12 v17  x18 hx18 sz) (va_cwS 2 hts (g_S q310 q311 q172 q306) rfl rfl rfl ps_X2_mixed ⟨Nat.le_of_ble_eq_true rfl, Nat.le_of_ble_eq_true rfl⟩)  hK hP hD hS hA [] [0, 1, 2, 3, 4, 5, 6, 7, 8, 9, 10, 11, 12, 13, 14, 15, 16, 17, 18, 19] rfl rfl (by decide) (by decide) (by decide) (fun _ _ _ _ h => h) (fun _ _ _ => trivial) rfl rfl hl.1 (Nat.le_of_ble_eq_true rfl) dX2_mixedWithFrame_22 ⟨hkc, hks⟩ (fun r9 u H locs hr9 hP hD hS => ?_)
        have hr9 := Eq.symm hr9
        subst hr9
        have hP : va_P (dC, dI) vwCl (wHB cI cF cJ h fa tr rw Hb ++ (wFR cI cF cJ q0 q1 q2 q3 q4 q5 q6 q7 q8 F ++ (wFR cI cF cJ tr t1 t2 t3 t4 t5 t6 t7 t8 F14))) H := hP
        have hD : va_D A (wHB cI cF cJ h fa tr rw Hb ++ (wFR cI cF cJ q0 q1 q2 q3 q4 q5 q6 q7 q8 F ++ (wFR cI cF cJ tr t1 t2 t3 t4 t5 t6 t7 t8 F14))) := hD
        refine lv_lstore (lv' := [(4, .long x18), (6, .int a13), (0, .ref h), (3, .ref q0)]) hx hb dX2_mixedWithFrame_25 hl (by decide) rfl (fun ls hl => ?_)
        obtain ⟨v19, ev19⟩ : ∃ y : Int32, y = a13 + 1 := ⟨_, rfl⟩
        have hf := bnd_all hf v19 ev19
        refine lv_iinc (v := v19) (lv' := [(6, .int v19), (4, .long x18), (0, .ref h), (3, .ref q0)]) hx hb dX2_mixedWithFrame_27 hl (k := 1) rfl (by rw [ev19]; rfl) (by decide) rfl (fun ls hl => ?_)
        refine lv_goto (tgt := 6) hx hb dX2_mixedWithFrame_30 (by decide) ?_
        exact ih x18 v19 F14 _ _ _ hP hD hS (lv_sub hl [1, 0, 2, 3] rfl) hf
  refine L6 _ (fun a20 a21 F22 H locs ls hP hD hS hl hf => ?_) 16 p0 0 Tr _ _ _ hP hD hS (lv_sub hl [1, 0, 2, 4] rfl) hf
  refine lv_lload hx hb dX2_mixedWithFrame_33 (lv_at hl 0 rfl) ?_
  refine lv_aload_n hx hb dX2_mixedWithFrame_35 rfl (lv_at hl 2 rfl) ?_
  obtain ⟨x23, hx23, hf⟩ := obd_e hf
  refine sb_Vl (As := []) (rest := [.long a20]) ⟨hx, hb, hml, hown, hts⟩ (fun sz => c_X1_shownNumber l dC dI cI cF cJ cD q0 q1 q2 q3 q4 q5 q6 q7 q8 F  x23 hx23 sz) (cwV 0 hts (g_V q212 q131 q132 q56 q52) rfl rfl rfl pc_X1_shownNumber ⟨Nat.le_of_ble_eq_true rfl, Nat.le_of_ble_eq_true rfl⟩) 0 1 rfl rfl hK hP hD hS hA [2, 3, 4, 5, 6, 7, 8, 9, 10] [0, 1, 11, 12, 13, 14, 15, 16, 17, 18, 19] rfl rfl (by decide) (by decide) (by decide) (fun _ _ _ _ h => h) (fun _ _ _ => trivial) rfl rfl hl.1 (Nat.le_of_ble_eq_true rfl) dX2_mixedWithFrame_36 ⟨hkc, hks⟩ (fun r9 u H locs hr9 hP hD hS => ?_)
  have hr9 := Eq.symm hr9
  subst hr9
  have hP : va_P (dC, dI) vwCl (wHB cI cF cJ h fa tr rw Hb ++ (wFR cI cF cJ q0 q1 q2 q3 q4 q5 q6 q7 q8 F ++ (wFR cI cF cJ tr t1 t2 t3 t4 t5 t6 t7 t8 F22))) H := hP.sub [0, 1, 11, 12, 13, 14, 15, 16, 17, 18, 19, 2, 3, 4, 5, 6, 7, 8, 9, 10] rfl
  have hD : va_D A (wHB cI cF cJ h fa tr rw Hb ++ (wFR cI cF cJ q0 q1 q2 q3 q4 q5 q6 q7 q8 F ++ (wFR cI cF cJ tr t1 t2 t3 t4 t5 t6 t7 t8 F22))) := hD.sub [0, 1, 11, 12, 13, 14, 15, 16, 17, 18, 19, 2, 3, 4, 5, 6, 7, 8, 9, 10] (by decide) rfl
  obtain ⟨x24, hx24, hf⟩ := obd_e hf
  refine sb_Sl (As := [.long a20, .long x23]) (rest := []) ⟨hx, hb, hml, hown, hts⟩ (fun sz => c_X2_mixed l dC dI cI cF cJ cD  a20 x23  x24 hx24 sz) (va_cwS 2 hts (g_S q310 q311 q172 q306) rfl rfl rfl ps_X2_mixed ⟨Nat.le_of_ble_eq_true rfl, Nat.le_of_ble_eq_true rfl⟩)  hK hP hD hS hA [] [0, 1, 2, 3, 4, 5, 6, 7, 8, 9, 10, 11, 12, 13, 14, 15, 16, 17, 18, 19] rfl rfl (by decide) (by decide) (by decide) (fun _ _ _ _ h => h) (fun _ _ _ => trivial) rfl rfl hl.1 (Nat.le_of_ble_eq_true rfl) dX2_mixedWithFrame_39 ⟨hkc, hks⟩ (fun r9 u H locs hr9 hP hD hS => ?_)
  have hr9 := Eq.symm hr9
  subst hr9
  have hP : va_P (dC, dI) vwCl (wHB cI cF cJ h fa tr rw Hb ++ (wFR cI cF cJ q0 q1 q2 q3 q4 q5 q6 q7 q8 F ++ (wFR cI cF cJ tr t1 t2 t3 t4 t5 t6 t7 t8 F22))) H := hP
  have hD : va_D A (wHB cI cF cJ h fa tr rw Hb ++ (wFR cI cF cJ q0 q1 q2 q3 q4 q5 q6 q7 q8 F ++ (wFR cI cF cJ tr t1 t2 t3 t4 t5 t6 t7 t8 F22))) := hD
  refine lv_lstore (lv' := [(4, .long x24), (0, .ref h), (3, .ref q0)]) hx hb dX2_mixedWithFrame_42 hl (by decide) rfl (fun ls hl => ?_)
  refine lv_lload hx hb dX2_mixedWithFrame_44 (lv_at hl 0 rfl) ?_
  refine lv_ldc2d hx hb hown (hts _ q308) dX2_mixedWithFrame_46 ?_
  refine lv_aload_n hx hb dX2_mixedWithFrame_49 rfl (lv_at hl 2 rfl) ?_
  refine va_get (D := (dC, dI)) (ci := 1) (v := .float (fSe F)) (C := RX1) (T := TX1) (N := 13) hx hb hts iX1 hown hK hP 2 rfl rfl 5 (by decide) (hts _ q261) (fun _ h9 => h9) rfl dX2_mixedWithFrame_50 ?_
  obtain ⟨g25, hf⟩ := gd_e hf
  refine lv_f2d hx hb dX2_mixedWithFrame_53 (nn64_e g25) ?_
  refine lv_topd (fun v26 ev26 => ?_)
  have hf := bnd_all hf v26 ev26
  obtain ⟨g27, hf⟩ := gd_e hf
  refine lv_dmul hx hb dX2_mixedWithFrame_54 (nn64_e g27) ?_
  refine lv_topd (fun v28 ev28 => ?_)
  have hf := bnd_all hf v28 ev28
  refine lv_d2l hx hb dX2_mixedWithFrame_55 ?_
  refine lv_topl (fun v29 ev29 => ?_)
  have hf := bnd_all hf v29 ev29
  obtain ⟨x30, hx30, hf⟩ := obd_e hf
  refine sb_Sl (As := [.long x24, .long v29]) (rest := []) ⟨hx, hb, hml, hown, hts⟩ (fun sz => c_X2_mixed l dC dI cI cF cJ cD  x24 v29  x30 hx30 sz) (va_cwS 2 hts (g_S q310 q311 q172 q306) rfl rfl rfl ps_X2_mixed ⟨Nat.le_of_ble_eq_true rfl, Nat.le_of_ble_eq_true rfl⟩)  hK hP hD hS hA [] [0, 1, 2, 3, 4, 5, 6, 7, 8, 9, 10, 11, 12, 13, 14, 15, 16, 17, 18, 19] rfl rfl (by decide) (by decide) (by decide) (fun _ _ _ _ h => h) (fun _ _ _ => trivial) rfl rfl hl.1 (Nat.le_of_ble_eq_true rfl) dX2_mixedWithFrame_56 ⟨hkc, hks⟩ (fun r9 u H locs hr9 hP hD hS => ?_)
  have hr9 := Eq.symm hr9
  subst hr9
  have hP : va_P (dC, dI) vwCl (wHB cI cF cJ h fa tr rw Hb ++ (wFR cI cF cJ q0 q1 q2 q3 q4 q5 q6 q7 q8 F ++ (wFR cI cF cJ tr t1 t2 t3 t4 t5 t6 t7 t8 F22))) H := hP
  have hD : va_D A (wHB cI cF cJ h fa tr rw Hb ++ (wFR cI cF cJ q0 q1 q2 q3 q4 q5 q6 q7 q8 F ++ (wFR cI cF cJ tr t1 t2 t3 t4 t5 t6 t7 t8 F22))) := hD
  refine lv_lstore (lv' := [(4, .long x30), (0, .ref h), (3, .ref q0)]) hx hb dX2_mixedWithFrame_59 hl (by decide) rfl (fun ls hl => ?_)
  refine lv_lload hx hb dX2_mixedWithFrame_61 (lv_at hl 0 rfl) ?_
  refine lv_aload_n hx hb dX2_mixedWithFrame_63 rfl (lv_at hl 2 rfl) ?_
  obtain ⟨x31, hx31, hf⟩ := obd_e hf
  refine sb_Vl (As := []) (rest := [.long x30]) ⟨hx, hb, hml, hown, hts⟩ (fun sz => c_X1_waysToShow l dC dI cI cF cJ cD q0 q1 q2 q3 q4 q5 q6 q7 q8 F  x31 hx31 sz) (cwV 0 hts (g_V q312 q313 q314 q56 q138) rfl rfl rfl pc_X1_waysToShow ⟨Nat.le_of_ble_eq_true rfl, Nat.le_of_ble_eq_true rfl⟩) 0 1 rfl rfl hK hP hD hS hA [2, 3, 4, 5, 6, 7, 8, 9, 10] [0, 1, 11, 12, 13, 14, 15, 16, 17, 18, 19] rfl rfl (by decide) (by decide) (by decide) (fun _ _ _ _ h => h) (fun _ _ _ => trivial) rfl rfl hl.1 (Nat.le_of_ble_eq_true rfl) dX2_mixedWithFrame_64 ⟨hkc, hks⟩ (fun r9 u H locs hr9 hP hD hS => ?_)
  have hr9 := Eq.symm hr9
  subst hr9
  have hP : va_P (dC, dI) vwCl (wHB cI cF cJ h fa tr rw Hb ++ (wFR cI cF cJ q0 q1 q2 q3 q4 q5 q6 q7 q8 F ++ (wFR cI cF cJ tr t1 t2 t3 t4 t5 t6 t7 t8 F22))) H := hP.sub [0, 1, 11, 12, 13, 14, 15, 16, 17, 18, 19, 2, 3, 4, 5, 6, 7, 8, 9, 10] rfl
  have hD : va_D A (wHB cI cF cJ h fa tr rw Hb ++ (wFR cI cF cJ q0 q1 q2 q3 q4 q5 q6 q7 q8 F ++ (wFR cI cF cJ tr t1 t2 t3 t4 t5 t6 t7 t8 F22))) := hD.sub [0, 1, 11, 12, 13, 14, 15, 16, 17, 18, 19, 2, 3, 4, 5, 6, 7, 8, 9, 10] (by decide) rfl
  obtain ⟨x32, hx32, hf⟩ := obd_e hf
  refine sb_Sl (As := [.long x30, .long x31]) (rest := []) ⟨hx, hb, hml, hown, hts⟩ (fun sz => c_X2_mixed l dC dI cI cF cJ cD  x30 x31  x32 hx32 sz) (va_cwS 2 hts (g_S q310 q311 q172 q306) rfl rfl rfl ps_X2_mixed ⟨Nat.le_of_ble_eq_true rfl, Nat.le_of_ble_eq_true rfl⟩)  hK hP hD hS hA [] [0, 1, 2, 3, 4, 5, 6, 7, 8, 9, 10, 11, 12, 13, 14, 15, 16, 17, 18, 19] rfl rfl (by decide) (by decide) (by decide) (fun _ _ _ _ h => h) (fun _ _ _ => trivial) rfl rfl hl.1 (Nat.le_of_ble_eq_true rfl) dX2_mixedWithFrame_67 ⟨hkc, hks⟩ (fun r9 u H locs hr9 hP hD hS => ?_)
  have hr9 := Eq.symm hr9
  subst hr9
  have hP : va_P (dC, dI) vwCl (wHB cI cF cJ h fa tr rw Hb ++ (wFR cI cF cJ q0 q1 q2 q3 q4 q5 q6 q7 q8 F ++ (wFR cI cF cJ tr t1 t2 t3 t4 t5 t6 t7 t8 F22))) H := hP
  have hD : va_D A (wHB cI cF cJ h fa tr rw Hb ++ (wFR cI cF cJ q0 q1 q2 q3 q4 q5 q6 q7 q8 F ++ (wFR cI cF cJ tr t1 t2 t3 t4 t5 t6 t7 t8 F22))) := hD
  refine lv_lstore (lv' := [(4, .long x32), (0, .ref h), (3, .ref q0)]) hx hb dX2_mixedWithFrame_70 hl (by decide) rfl (fun ls hl => ?_)
  refine lv_lload hx hb dX2_mixedWithFrame_72 (lv_at hl 0 rfl) ?_
  refine lv_aload_n hx hb dX2_mixedWithFrame_74 rfl (lv_at hl 2 rfl) ?_
  obtain ⟨x33, hx33, hf⟩ := obd_e hf
  refine sb_Vi (As := []) (rest := [.long x32]) ⟨hx, hb, hml, hown, hts⟩ (fun sz => c_X1_fewestBeadsToShow l dC dI cI cF cJ cD q0 q1 q2 q3 q4 q5 q6 q7 q8 F  x33 hx33 sz) (cwV 0 hts (g_V q315 q316 q317 q56 q149) rfl rfl rfl pc_X1_fewestBeadsToShow ⟨Nat.le_of_ble_eq_true rfl, Nat.le_of_ble_eq_true rfl⟩) 0 1 rfl rfl hK hP hD hS hA [2, 3, 4, 5, 6, 7, 8, 9, 10] [0, 1, 11, 12, 13, 14, 15, 16, 17, 18, 19] rfl rfl (by decide) (by decide) (by decide) (fun _ _ _ _ h => h) (fun _ _ _ => trivial) rfl rfl hl.1 (Nat.le_of_ble_eq_true rfl) dX2_mixedWithFrame_75 ⟨hkc, hks⟩ (fun r9 u H locs hr9 hP hD hS => ?_)
  have hr9 := Eq.symm hr9
  subst hr9
  have hP : va_P (dC, dI) vwCl (wHB cI cF cJ h fa tr rw Hb ++ (wFR cI cF cJ q0 q1 q2 q3 q4 q5 q6 q7 q8 F ++ (wFR cI cF cJ tr t1 t2 t3 t4 t5 t6 t7 t8 F22))) H := hP.sub [0, 1, 11, 12, 13, 14, 15, 16, 17, 18, 19, 2, 3, 4, 5, 6, 7, 8, 9, 10] rfl
  have hD : va_D A (wHB cI cF cJ h fa tr rw Hb ++ (wFR cI cF cJ q0 q1 q2 q3 q4 q5 q6 q7 q8 F ++ (wFR cI cF cJ tr t1 t2 t3 t4 t5 t6 t7 t8 F22))) := hD.sub [0, 1, 11, 12, 13, 14, 15, 16, 17, 18, 19, 2, 3, 4, 5, 6, 7, 8, 9, 10] (by decide) rfl
  refine lv_i2l hx hb dX2_mixedWithFrame_78 rfl ?_
  refine lv_topl (fun v34 ev34 => ?_)
  have hf := bnd_all hf v34 ev34
  obtain ⟨x35, hx35, hf⟩ := obd_e hf
  refine sb_Sl (As := [.long x32, .long v34]) (rest := []) ⟨hx, hb, hml, hown, hts⟩ (fun sz => c_X2_mixed l dC dI cI cF cJ cD  x32 v34  x35 hx35 sz) (va_cwS 2 hts (g_S q310 q311 q172 q306) rfl rfl rfl ps_X2_mixed ⟨Nat.le_of_ble_eq_true rfl, Nat.le_of_ble_eq_true rfl⟩)  hK hP hD hS hA [] [0, 1, 2, 3, 4, 5, 6, 7, 8, 9, 10, 11, 12, 13, 14, 15, 16, 17, 18, 19] rfl rfl (by decide) (by decide) (by decide) (fun _ _ _ _ h => h) (fun _ _ _ => trivial) rfl rfl hl.1 (Nat.le_of_ble_eq_true rfl) dX2_mixedWithFrame_79 ⟨hkc, hks⟩ (fun r9 u H locs hr9 hP hD hS => ?_)
  have hr9 := Eq.symm hr9
  subst hr9
  have hP : va_P (dC, dI) vwCl (wHB cI cF cJ h fa tr rw Hb ++ (wFR cI cF cJ q0 q1 q2 q3 q4 q5 q6 q7 q8 F ++ (wFR cI cF cJ tr t1 t2 t3 t4 t5 t6 t7 t8 F22))) H := hP
  have hD : va_D A (wHB cI cF cJ h fa tr rw Hb ++ (wFR cI cF cJ q0 q1 q2 q3 q4 q5 q6 q7 q8 F ++ (wFR cI cF cJ tr t1 t2 t3 t4 t5 t6 t7 t8 F22))) := hD
  refine lv_lstore (lv' := [(4, .long x35), (0, .ref h), (3, .ref q0)]) hx hb dX2_mixedWithFrame_82 hl (by decide) rfl (fun ls hl => ?_)
  refine lv_iconst (v := 0) hx hb dX2_mixedWithFrame_84 (by decide) ?_
  refine lv_istore (lv' := [(6, .int 0), (4, .long x35), (0, .ref h), (3, .ref q0)]) hx hb dX2_mixedWithFrame_85 hl (by decide) rfl (fun ls hl => ?_)
  have L87 : ∀ (k : Int64 → Int32 → FR → Option (Int64 × FR)), (∀ (a44 : Int64) (a45 : Int32) (F46 : FR) (H : Heap) (locs : List Loc) (ls : Array Slot), va_P (dC, dI) vwCl (wHB cI cF cJ h fa tr rw Hb ++ (wFR cI cF cJ q0 q1 q2 q3 q4 q5 q6 q7 q8 F ++ (wFR cI cF cJ tr t1 t2 t3 t4 t5 t6 t7 t8 F46))) H → va_D A (wHB cI cF cJ h fa tr rw Hb ++ (wFR cI cF cJ q0 q1 q2 q3 q4 q5 q6 q7 q8 F ++ (wFR cI cF cJ tr t1 t2 t3 t4 t5 t6 t7 t8 F46))) → va_S A s.heap H locs → lv_has ls 8 [(4, .long a44), (0, .ref h), (3, .ref q0)] → k a44 a45 F46 = some res → W p l e (headSpec (ws_ yX2_mixedWithFrame cX2_mixedWithFrame 8 (some .long)) rm_X2_mixedWithFrame).room s m ([.ref h, .long p0, .ref q0].toArray) below meth c H locs 0 0 (MQ below (va_Ql (fun (r : Int64) (_ : Unit) => r = res.1) (sbEnd (dC, dI) (fun _ => wHB cI cF cJ h fa tr rw Hb ++ (wFR cI cF cJ q0 q1 q2 q3 q4 q5 q6 q7 q8 F ++ (wFR cI cF cJ tr t1 t2 t3 t4 t5 t6 t7 t8 res.2))) (A)) (A)) ([.ref h, .long p0, .ref q0].toArray) s 0 0 A) (F0 m 116 ls [])) → ∀ (n : Nat) (a44 : Int64) (a45 : Int32) (F46 : FR) (H : Heap) (locs : List Loc) (ls : Array Slot), va_P (dC, dI) vwCl (wHB cI cF cJ h fa tr rw Hb ++ (wFR cI cF cJ q0 q1 q2 q3 q4 q5 q6 q7 q8 F ++ (wFR cI cF cJ tr t1 t2 t3 t4 t5 t6 t7 t8 F46))) H → va_D A (wHB cI cF cJ h fa tr rw Hb ++ (wFR cI cF cJ q0 q1 q2 q3 q4 q5 q6 q7 q8 F ++ (wFR cI cF cJ tr t1 t2 t3 t4 t5 t6 t7 t8 F46))) → va_S A s.heap H locs → lv_has ls 8 [(4, .long a44), (6, .int a45), (0, .ref h), (3, .ref q0)] → l_X2_mixedWithFrame_87 Hb F k n a44 a45 F46 = some res → W p l e (headSpec (ws_ yX2_mixedWithFrame cX2_mixedWithFrame 8 (some .long)) rm_X2_mixedWithFrame).room s m ([.ref h, .long p0, .ref q0].toArray) below meth c H locs 0 0 (MQ below (va_Ql (fun (r : Int64) (_ : Unit) => r = res.1) (sbEnd (dC, dI) (fun _ => wHB cI cF cJ h fa tr rw Hb ++ (wFR cI cF cJ q0 q1 q2 q3 q4 q5 q6 q7 q8 F ++ (wFR cI cF cJ tr t1 t2 t3 t4 t5 t6 t7 t8 res.2))) (A)) (A)) ([.ref h, .long p0, .ref q0].toArray) s 0 0 A) (F0 m 87 ls []) := by
    intro k hk n
    induction n with
    | zero =>
      intro a47 a48 F49 H locs ls hP hD hS hl hf
      rw [l_X2_mixedWithFrame_87] at hf
      cases hf
    | succ n ih =>
      intro a47 a48 F49 H locs ls hP hD hS hl hf
      rw [l_X2_mixedWithFrame_87] at hf
      refine lv_iload hx hb dX2_mixedWithFrame_87 (lv_at hl 1 rfl) ?_
      refine lv_iconst (v := 4) hx hb dX2_mixedWithFrame_89 (by decide) ?_
      refine lv_icmp_ge (tgt := 116) hx hb dX2_mixedWithFrame_90 (by decide) (fun c50 => ?_) (fun c50 => ?_)
      · have hf := ite_t hf c50
        exact hk a47 a48 F49 _ _ _ hP hD hS (lv_sub hl [0, 2, 3] rfl) hf
      · have hf := ite_f hf c50
        refine lv_lload hx hb dX2_mixedWithFrame_93 (lv_at hl 0 rfl) ?_
        refine lv_aload_n hx hb dX2_mixedWithFrame_95 rfl (lv_at hl 2 rfl) ?_
        refine lv_aload_n hx hb dX2_mixedWithFrame_96 rfl (lv_at hl 3 rfl) ?_
        refine lv_bipush (v := 7) hx hb dX2_mixedWithFrame_97 (by decide) ?_
        refine lv_iload hx hb dX2_mixedWithFrame_99 (lv_at hl 1 rfl) ?_
        obtain ⟨x51, hx51, hf⟩ := obd_e hf
        refine sb_Vi (As := [.ref q0, .int 7, .int a48]) (rest := [.long a47]) ⟨hx, hb, hml, hown, hts⟩ (fun sz => c_X2_countByAdding l dC dI cI cF cJ cD h fa tr q0 q1 q2 q3 q4 q5 q6 q7 q8 t1 t2 t3 t4 t5 t6 t7 t8 rw Hb F F49 7 a48  x51 hx51 sz) (cwV 3 hts (g_V q285 q286 q287 q172 q284) rfl rfl rfl pc_X2_countByAdding ⟨Nat.le_of_ble_eq_true rfl, Nat.le_of_ble_eq_true rfl⟩) 0 2 rfl rfl hK hP hD hS hA [0, 1, 2, 3, 4, 5, 6, 7, 8, 9, 10, 11, 12, 13, 14, 15, 16, 17, 18, 19] [] rfl rfl (by decide) (by decide) (by decide) (fun _ _ _ _ h => h) (fun _ _ _ => trivial) rfl rfl hl.1 (Nat.le_of_ble_eq_true rfl) dX2_mixedWithFrame_101 ⟨hkc, hks⟩ (fun r9 u H locs hr9 hP hD hS => ?_)
        have hr9 := Eq.symm hr9
        subst hr9
        have hP : va_P (dC, dI) vwCl (wHB cI cF cJ h fa tr rw Hb ++ (wFR cI cF cJ q0 q1 q2 q3 q4 q5 q6 q7 q8 F ++ (wFR cI cF cJ tr t1 t2 t3 t4 t5 t6 t7 t8 x51.2))) H := hP
        have hD : va_D A (wHB cI cF cJ h fa tr rw Hb ++ (wFR cI cF cJ q0 q1 q2 q3 q4 q5 q6 q7 q8 F ++ (wFR cI cF cJ tr t1 t2 t3 t4 t5 t6 t7 t8 x51.2))) := hD
        refine lv_i2l hx hb dX2_mixedWithFrame_104 rfl ?_
        refine lv_topl (fun v52 ev52 => ?_)
        have hf := bnd_all hf v52 ev52
        obtain ⟨x53, hx53, hf⟩ := obd_e hf
        refine sb_Sl (As := [.long a47, .long v52]) (rest := []) ⟨hx, hb, hml, hown, hts⟩ (fun sz => c_X2_mixed l dC dI cI cF cJ cD  a47 v52  x53 hx53 sz) (va_cwS 2 hts (g_S q310 q311 q172 q306) rfl rfl rfl ps_X2_mixed ⟨Nat.le_of_ble_eq_true rfl, Nat.le_of_ble_eq_true rfl⟩)  hK hP hD hS hA [] [0, 1, 2, 3, 4, 5, 6, 7, 8, 9, 10, 11, 12, 13, 14, 15, 16, 17, 18, 19] rfl rfl (by decide) (by decide) (by decide) (fun _ _ _ _ h => h) (fun _ _ _ => trivial) rfl rfl hl.1 (Nat.le_of_ble_eq_true rfl) dX2_mixedWithFrame_105 ⟨hkc, hks⟩ (fun r9 u H locs hr9 hP hD hS => ?_)
        have hr9 := Eq.symm hr9
        subst hr9
        have hP : va_P (dC, dI) vwCl (wHB cI cF cJ h fa tr rw Hb ++ (wFR cI cF cJ q0 q1 q2 q3 q4 q5 q6 q7 q8 F ++ (wFR cI cF cJ tr t1 t2 t3 t4 t5 t6 t7 t8 x51.2))) H := hP
        have hD : va_D A (wHB cI cF cJ h fa tr rw Hb ++ (wFR cI cF cJ q0 q1 q2 q3 q4 q5 q6 q7 q8 F ++ (wFR cI cF cJ tr t1 t2 t3 t4 t5 t6 t7 t8 x51.2))) := hD
        refine lv_lstore (lv' := [(4, .long x53), (6, .int a48), (0, .ref h), (3, .ref q0)]) hx hb dX2_mixedWithFrame_108 hl (by decide) rfl (fun ls hl => ?_)
        obtain ⟨v54, ev54⟩ : ∃ y : Int32, y = a48 + 1 := ⟨_, rfl⟩
        have hf := bnd_all hf v54 ev54
        refine lv_iinc (v := v54) (lv' := [(6, .int v54), (4, .long x53), (0, .ref h), (3, .ref q0)]) hx hb dX2_mixedWithFrame_110 hl (k := 1) rfl (by rw [ev54]; rfl) (by decide) rfl (fun ls hl => ?_)
        refine lv_goto (tgt := 87) hx hb dX2_mixedWithFrame_113 (by decide) ?_
        exact ih x53 v54 x51.2 _ _ _ hP hD hS (lv_sub hl [1, 0, 2, 3] rfl) hf
  refine L87 _ (fun a55 a56 F57 H locs ls hP hD hS hl hf => ?_) 16 x35 0 F22 _ _ _ hP hD hS (lv_sub hl [1, 0, 2, 3] rfl) hf
  refine lv_lload hx hb dX2_mixedWithFrame_116 (lv_at hl 0 rfl) ?_
  refine lv_ldc2d hx hb hown (hts _ q308) dX2_mixedWithFrame_118 ?_
  refine lv_aload_n hx hb dX2_mixedWithFrame_121 rfl (lv_at hl 1 rfl) ?_
  refine lv_aload_n hx hb dX2_mixedWithFrame_122 rfl (lv_at hl 2 rfl) ?_
  refine lv_bipush (v := 7) hx hb dX2_mixedWithFrame_123 (by decide) ?_
  obtain ⟨x58, hx58, hf⟩ := obd_e hf
  refine sb_Vd (As := [.ref q0, .int 7]) (rest := [.double 4625196817309499392, .long a55]) ⟨hx, hb, hml, hown, hts⟩ (fun sz => c_X2_secondsByAdding l dC dI cI cF cJ cD h fa tr q0 q1 q2 q3 q4 q5 q6 q7 q8 t1 t2 t3 t4 t5 t6 t7 t8 rw Hb F F57 7  x58 hx58 sz) (cwV 2 hts (g_V q290 q291 q292 q172 q289) rfl rfl rfl pc_X2_secondsByAdding ⟨Nat.le_of_ble_eq_true rfl, Nat.le_of_ble_eq_true rfl⟩) 0 2 rfl rfl hK hP hD hS hA [0, 1, 2, 3, 4, 5, 6, 7, 8, 9, 10, 11, 12, 13, 14, 15, 16, 17, 18, 19] [] rfl rfl (by decide) (by decide) (by decide) (fun _ _ _ _ h => h) (fun _ _ _ => trivial) rfl rfl hl.1 (Nat.le_of_ble_eq_true rfl) dX2_mixedWithFrame_125 ⟨hkc, hks⟩ (fun r9 u H locs hr9 hP hD hS => ?_)
  have hr9 := Eq.symm hr9
  subst hr9
  have hP : va_P (dC, dI) vwCl (wHB cI cF cJ h fa tr rw Hb ++ (wFR cI cF cJ q0 q1 q2 q3 q4 q5 q6 q7 q8 F ++ (wFR cI cF cJ tr t1 t2 t3 t4 t5 t6 t7 t8 x58.2))) H := hP
  have hD : va_D A (wHB cI cF cJ h fa tr rw Hb ++ (wFR cI cF cJ q0 q1 q2 q3 q4 q5 q6 q7 q8 F ++ (wFR cI cF cJ tr t1 t2 t3 t4 t5 t6 t7 t8 x58.2))) := hD
  obtain ⟨g59, hf⟩ := gd_e hf
  refine lv_dmul hx hb dX2_mixedWithFrame_128 (nn64_e g59) ?_
  refine lv_topd (fun v60 ev60 => ?_)
  have hf := bnd_all hf v60 ev60
  refine lv_d2l hx hb dX2_mixedWithFrame_129 ?_
  refine lv_topl (fun v61 ev61 => ?_)
  have hf := bnd_all hf v61 ev61
  obtain ⟨x62, hx62, hf⟩ := obd_e hf
  refine sb_Sl (As := [.long a55, .long v61]) (rest := []) ⟨hx, hb, hml, hown, hts⟩ (fun sz => c_X2_mixed l dC dI cI cF cJ cD  a55 v61  x62 hx62 sz) (va_cwS 2 hts (g_S q310 q311 q172 q306) rfl rfl rfl ps_X2_mixed ⟨Nat.le_of_ble_eq_true rfl, Nat.le_of_ble_eq_true rfl⟩)  hK hP hD hS hA [] [0, 1, 2, 3, 4, 5, 6, 7, 8, 9, 10, 11, 12, 13, 14, 15, 16, 17, 18, 19] rfl rfl (by decide) (by decide) (by decide) (fun _ _ _ _ h => h) (fun _ _ _ => trivial) rfl rfl hl.1 (Nat.le_of_ble_eq_true rfl) dX2_mixedWithFrame_130 ⟨hkc, hks⟩ (fun r9 u H locs hr9 hP hD hS => ?_)
  have hr9 := Eq.symm hr9
  subst hr9
  have hP : va_P (dC, dI) vwCl (wHB cI cF cJ h fa tr rw Hb ++ (wFR cI cF cJ q0 q1 q2 q3 q4 q5 q6 q7 q8 F ++ (wFR cI cF cJ tr t1 t2 t3 t4 t5 t6 t7 t8 x58.2))) H := hP
  have hD : va_D A (wHB cI cF cJ h fa tr rw Hb ++ (wFR cI cF cJ q0 q1 q2 q3 q4 q5 q6 q7 q8 F ++ (wFR cI cF cJ tr t1 t2 t3 t4 t5 t6 t7 t8 x58.2))) := hD
  refine lv_lstore (lv' := [(4, .long x62), (0, .ref h), (3, .ref q0)]) hx hb dX2_mixedWithFrame_133 hl (by decide) rfl (fun ls hl => ?_)
  refine lv_iconst (v := 0) hx hb dX2_mixedWithFrame_135 (by decide) ?_
  refine lv_istore (lv' := [(6, .int 0), (4, .long x62), (0, .ref h), (3, .ref q0)]) hx hb dX2_mixedWithFrame_136 hl (by decide) rfl (fun ls hl => ?_)
  have L138 : ∀ (k : Int64 → Int32 → FR → Option (Int64 × FR)), (∀ (a93 : Int64) (a94 : Int32) (F95 : FR) (H : Heap) (locs : List Loc) (ls : Array Slot), va_P (dC, dI) vwCl (wHB cI cF cJ h fa tr rw Hb ++ (wFR cI cF cJ q0 q1 q2 q3 q4 q5 q6 q7 q8 F ++ (wFR cI cF cJ tr t1 t2 t3 t4 t5 t6 t7 t8 F95))) H → va_D A (wHB cI cF cJ h fa tr rw Hb ++ (wFR cI cF cJ q0 q1 q2 q3 q4 q5 q6 q7 q8 F ++ (wFR cI cF cJ tr t1 t2 t3 t4 t5 t6 t7 t8 F95))) → va_S A s.heap H locs → lv_has ls 8 [(4, .long a93)] → k a93 a94 F95 = some res → W p l e (headSpec (ws_ yX2_mixedWithFrame cX2_mixedWithFrame 8 (some .long)) rm_X2_mixedWithFrame).room s m ([.ref h, .long p0, .ref q0].toArray) below meth c H locs 0 0 (MQ below (va_Ql (fun (r : Int64) (_ : Unit) => r = res.1) (sbEnd (dC, dI) (fun _ => wHB cI cF cJ h fa tr rw Hb ++ (wFR cI cF cJ q0 q1 q2 q3 q4 q5 q6 q7 q8 F ++ (wFR cI cF cJ tr t1 t2 t3 t4 t5 t6 t7 t8 res.2))) (A)) (A)) ([.ref h, .long p0, .ref q0].toArray) s 0 0 A) (F0 m 200 ls [])) → ∀ (n : Nat) (a93 : Int64) (a94 : Int32) (F95 : FR) (H : Heap) (locs : List Loc) (ls : Array Slot), va_P (dC, dI) vwCl (wHB cI cF cJ h fa tr rw Hb ++ (wFR cI cF cJ q0 q1 q2 q3 q4 q5 q6 q7 q8 F ++ (wFR cI cF cJ tr t1 t2 t3 t4 t5 t6 t7 t8 F95))) H → va_D A (wHB cI cF cJ h fa tr rw Hb ++ (wFR cI cF cJ q0 q1 q2 q3 q4 q5 q6 q7 q8 F ++ (wFR cI cF cJ tr t1 t2 t3 t4 t5 t6 t7 t8 F95))) → va_S A s.heap H locs → lv_has ls 8 [(4, .long a93), (6, .int a94), (0, .ref h), (3, .ref q0)] → l_X2_mixedWithFrame_138 Hb F k n a93 a94 F95 = some res → W p l e (headSpec (ws_ yX2_mixedWithFrame cX2_mixedWithFrame 8 (some .long)) rm_X2_mixedWithFrame).room s m ([.ref h, .long p0, .ref q0].toArray) below meth c H locs 0 0 (MQ below (va_Ql (fun (r : Int64) (_ : Unit) => r = res.1) (sbEnd (dC, dI) (fun _ => wHB cI cF cJ h fa tr rw Hb ++ (wFR cI cF cJ q0 q1 q2 q3 q4 q5 q6 q7 q8 F ++ (wFR cI cF cJ tr t1 t2 t3 t4 t5 t6 t7 t8 res.2))) (A)) (A)) ([.ref h, .long p0, .ref q0].toArray) s 0 0 A) (F0 m 138 ls []) := by
    intro k hk n
    induction n with
    | zero =>
      intro a96 a97 F98 H locs ls hP hD hS hl hf
      rw [l_X2_mixedWithFrame_138] at hf
      cases hf
    | succ n ih =>
      intro a96 a97 F98 H locs ls hP hD hS hl hf
      rw [l_X2_mixedWithFrame_138] at hf
      refine lv_iload hx hb dX2_mixedWithFrame_138 (lv_at hl 1 rfl) ?_
      refine lv_aload_n hx hb dX2_mixedWithFrame_140 rfl (lv_at hl 3 rfl) ?_
      refine va_get (D := (dC, dI)) (ci := 1) (v := .int (fRd F)) (C := RX1) (T := TX1) (N := 13) hx hb hts iX1 hown hK hP 2 rfl rfl 1 (by decide) (hts _ q309) (fun _ h9 => h9) rfl dX2_mixedWithFrame_141 ?_
      refine lv_icmp_ge (tgt := 200) hx hb dX2_mixedWithFrame_144 (by decide) (fun c99 => ?_) (fun c99 => ?_)
      · have hf := ite_t hf c99
        exact hk a96 a97 F98 _ _ _ hP hD hS (lv_sub hl [0] rfl) hf
      · have hf := ite_f hf c99
        refine lv_iconst (v := 0) hx hb dX2_mixedWithFrame_147 (by decide) ?_
        refine lv_istore (lv' := [(7, .int 0), (4, .long a96), (6, .int a97), (0, .ref h), (3, .ref q0)]) hx hb dX2_mixedWithFrame_148 hl (by decide) rfl (fun ls hl => ?_)
        have L150 : ∀ (k : Int64 → Int32 → FR → Option (Int64 × FR)), (∀ (a100 : Int64) (a101 : Int32) (F102 : FR) (H : Heap) (locs : List Loc) (ls : Array Slot), va_P (dC, dI) vwCl (wHB cI cF cJ h fa tr rw Hb ++ (wFR cI cF cJ q0 q1 q2 q3 q4 q5 q6 q7 q8 F ++ (wFR cI cF cJ tr t1 t2 t3 t4 t5 t6 t7 t8 F102))) H → va_D A (wHB cI cF cJ h fa tr rw Hb ++ (wFR cI cF cJ q0 q1 q2 q3 q4 q5 q6 q7 q8 F ++ (wFR cI cF cJ tr t1 t2 t3 t4 t5 t6 t7 t8 F102))) → va_S A s.heap H locs → lv_has ls 8 [(4, .long a100), (0, .ref h), (3, .ref q0), (6, .int a97)] → k a100 a101 F102 = some res → W p l e (headSpec (ws_ yX2_mixedWithFrame cX2_mixedWithFrame 8 (some .long)) rm_X2_mixedWithFrame).room s m ([.ref h, .long p0, .ref q0].toArray) below meth c H locs 0 0 (MQ below (va_Ql (fun (r : Int64) (_ : Unit) => r = res.1) (sbEnd (dC, dI) (fun _ => wHB cI cF cJ h fa tr rw Hb ++ (wFR cI cF cJ q0 q1 q2 q3 q4 q5 q6 q7 q8 F ++ (wFR cI cF cJ tr t1 t2 t3 t4 t5 t6 t7 t8 res.2))) (A)) (A)) ([.ref h, .long p0, .ref q0].toArray) s 0 0 A) (F0 m 179 ls [])) → ∀ (n : Nat) (a100 : Int64) (a101 : Int32) (F102 : FR) (H : Heap) (locs : List Loc) (ls : Array Slot), va_P (dC, dI) vwCl (wHB cI cF cJ h fa tr rw Hb ++ (wFR cI cF cJ q0 q1 q2 q3 q4 q5 q6 q7 q8 F ++ (wFR cI cF cJ tr t1 t2 t3 t4 t5 t6 t7 t8 F102))) H → va_D A (wHB cI cF cJ h fa tr rw Hb ++ (wFR cI cF cJ q0 q1 q2 q3 q4 q5 q6 q7 q8 F ++ (wFR cI cF cJ tr t1 t2 t3 t4 t5 t6 t7 t8 F102))) → va_S A s.heap H locs → lv_has ls 8 [(4, .long a100), (7, .int a101), (0, .ref h), (3, .ref q0), (6, .int a97)] → l_X2_mixedWithFrame_150 a97 Hb F k n a100 a101 F102 = some res → W p l e (headSpec (ws_ yX2_mixedWithFrame cX2_mixedWithFrame 8 (some .long)) rm_X2_mixedWithFrame).room s m ([.ref h, .long p0, .ref q0].toArray) below meth c H locs 0 0 (MQ below (va_Ql (fun (r : Int64) (_ : Unit) => r = res.1) (sbEnd (dC, dI) (fun _ => wHB cI cF cJ h fa tr rw Hb ++ (wFR cI cF cJ q0 q1 q2 q3 q4 q5 q6 q7 q8 F ++ (wFR cI cF cJ tr t1 t2 t3 t4 t5 t6 t7 t8 res.2))) (A)) (A)) ([.ref h, .long p0, .ref q0].toArray) s 0 0 A) (F0 m 150 ls []) := by
          intro k hk n
          induction n with
          | zero =>
            intro a103 a104 F105 H locs ls hP hD hS hl hf
            rw [l_X2_mixedWithFrame_150] at hf
            cases hf
          | succ n ih =>
            intro a103 a104 F105 H locs ls hP hD hS hl hf
            rw [l_X2_mixedWithFrame_150] at hf
            refine lv_iload hx hb dX2_mixedWithFrame_150 (lv_at hl 1 rfl) ?_
            refine lv_bipush (v := 6) hx hb dX2_mixedWithFrame_152 (by decide) ?_
            refine lv_icmp_ge (tgt := 179) hx hb dX2_mixedWithFrame_154 (by decide) (fun c106 => ?_) (fun c106 => ?_)
            · have hf := ite_t hf c106
              exact hk a103 a104 F105 _ _ _ hP hD hS (lv_sub hl [0, 2, 3, 4] rfl) hf
            · have hf := ite_f hf c106
              refine lv_lload hx hb dX2_mixedWithFrame_157 (lv_at hl 0 rfl) ?_
              refine lv_aload_n hx hb dX2_mixedWithFrame_159 rfl (lv_at hl 3 rfl) ?_
              refine lv_iload hx hb dX2_mixedWithFrame_160 (lv_at hl 4 rfl) ?_
              refine lv_iload hx hb dX2_mixedWithFrame_162 (lv_at hl 1 rfl) ?_
              obtain ⟨x107, hx107, hf⟩ := obd_e hf
              refine sb_Vi (As := [.int a97, .int a104]) (rest := [.long a103]) ⟨hx, hb, hml, hown, hts⟩ (fun sz => c_X1_factOfRod l dC dI cI cF cJ cD q0 q1 q2 q3 q4 q5 q6 q7 q8 F a97 a104  x107 hx107 sz) (cwV 2 hts (g_V q318 q319 q320 q56 q117) rfl rfl rfl pc_X1_factOfRod ⟨Nat.le_of_ble_eq_true rfl, Nat.le_of_ble_eq_true rfl⟩) 0 1 rfl rfl hK hP hD hS hA [2, 3, 4, 5, 6, 7, 8, 9, 10] [0, 1, 11, 12, 13, 14, 15, 16, 17, 18, 19] rfl rfl (by decide) (by decide) (by decide) (fun _ _ _ _ h => h) (fun _ _ _ => trivial) rfl rfl hl.1 (Nat.le_of_ble_eq_true rfl) dX2_mixedWithFrame_164 ⟨hkc, hks⟩ (fun r9 u H locs hr9 hP hD hS => ?_)
              have hr9 := Eq.symm hr9
              subst hr9
              have hP : va_P (dC, dI) vwCl (wHB cI cF cJ h fa tr rw Hb ++ (wFR cI cF cJ q0 q1 q2 q3 q4 q5 q6 q7 q8 F ++ (wFR cI cF cJ tr t1 t2 t3 t4 t5 t6 t7 t8 F105))) H := hP.sub [0, 1, 11, 12, 13, 14, 15, 16, 17, 18, 19, 2, 3, 4, 5, 6, 7, 8, 9, 10] rfl
              have hD : va_D A (wHB cI cF cJ h fa tr rw Hb ++ (wFR cI cF cJ q0 q1 q2 q3 q4 q5 q6 q7 q8 F ++ (wFR cI cF cJ tr t1 t2 t3 t4 t5 t6 t7 t8 F105))) := hD.sub [0, 1, 11, 12, 13, 14, 15, 16, 17, 18, 19, 2, 3, 4, 5, 6, 7, 8, 9, 10] (by decide) rfl
              refine lv_i2l hx hb dX2_mixedWithFrame_167 rfl ?_
              refine lv_topl (fun v108 ev108 => ?_)
              have hf := bnd_all hf v108 ev108
              obtain ⟨x109, hx109, hf⟩ := obd_e hf
              refine sb_Sl (As := [.long a103, .long v108]) (rest := []) ⟨hx, hb, hml, hown, hts⟩ (fun sz => c_X2_mixed l dC dI cI cF cJ cD  a103 v108  x109 hx109 sz) (va_cwS 2 hts (g_S q310 q311 q172 q306) rfl rfl rfl ps_X2_mixed ⟨Nat.le_of_ble_eq_true rfl, Nat.le_of_ble_eq_true rfl⟩)  hK hP hD hS hA [] [0, 1, 2, 3, 4, 5, 6, 7, 8, 9, 10, 11, 12, 13, 14, 15, 16, 17, 18, 19] rfl rfl (by decide) (by decide) (by decide) (fun _ _ _ _ h => h) (fun _ _ _ => trivial) rfl rfl hl.1 (Nat.le_of_ble_eq_true rfl) dX2_mixedWithFrame_168 ⟨hkc, hks⟩ (fun r9 u H locs hr9 hP hD hS => ?_)
              have hr9 := Eq.symm hr9
              subst hr9
              have hP : va_P (dC, dI) vwCl (wHB cI cF cJ h fa tr rw Hb ++ (wFR cI cF cJ q0 q1 q2 q3 q4 q5 q6 q7 q8 F ++ (wFR cI cF cJ tr t1 t2 t3 t4 t5 t6 t7 t8 F105))) H := hP
              have hD : va_D A (wHB cI cF cJ h fa tr rw Hb ++ (wFR cI cF cJ q0 q1 q2 q3 q4 q5 q6 q7 q8 F ++ (wFR cI cF cJ tr t1 t2 t3 t4 t5 t6 t7 t8 F105))) := hD
              refine lv_lstore (lv' := [(4, .long x109), (7, .int a104), (0, .ref h), (3, .ref q0), (6, .int a97)]) hx hb dX2_mixedWithFrame_171 hl (by decide) rfl (fun ls hl => ?_)
              obtain ⟨v110, ev110⟩ : ∃ y : Int32, y = a104 + 1 := ⟨_, rfl⟩
              have hf := bnd_all hf v110 ev110
              refine lv_iinc (v := v110) (lv' := [(7, .int v110), (4, .long x109), (0, .ref h), (3, .ref q0), (6, .int a97)]) hx hb dX2_mixedWithFrame_173 hl (k := 1) rfl (by rw [ev110]; rfl) (by decide) rfl (fun ls hl => ?_)
              refine lv_goto (tgt := 150) hx hb dX2_mixedWithFrame_176 (by decide) ?_
              exact ih x109 v110 F105 _ _ _ hP hD hS (lv_sub hl [1, 0, 2, 3, 4] rfl) hf
        refine L150 _ (fun a111 a112 F113 H locs ls hP hD hS hl hf => ?_) 16 a96 0 F98 _ _ _ hP hD hS (lv_sub hl [1, 0, 3, 4, 2] rfl) hf
        refine lv_lload hx hb dX2_mixedWithFrame_179 (lv_at hl 0 rfl) ?_
        refine lv_aload_n hx hb dX2_mixedWithFrame_181 rfl (lv_at hl 1 rfl) ?_
        refine lv_aload_n hx hb dX2_mixedWithFrame_182 rfl (lv_at hl 2 rfl) ?_
        refine lv_iload hx hb dX2_mixedWithFrame_183 (lv_at hl 3 rfl) ?_
        obtain ⟨x114, hx114, hf⟩ := obd_e hf
        refine sb_Vi (As := [.ref q0, .int a97]) (rest := [.long a111]) ⟨hx, hb, hml, hown, hts⟩ (fun sz => c_X2_hardestDigit l dC dI cI cF cJ cD h fa tr q0 q1 q2 q3 q4 q5 q6 q7 q8 t1 t2 t3 t4 t5 t6 t7 t8 rw Hb F F113 a97  x114 hx114 sz) (cwV 2 hts (g_V q302 q303 q304 q172 q301) rfl rfl rfl pc_X2_hardestDigit ⟨Nat.le_of_ble_eq_true rfl, Nat.le_of_ble_eq_true rfl⟩) 0 2 rfl rfl hK hP hD hS hA [0, 1, 2, 3, 4, 5, 6, 7, 8, 9, 10, 11, 12, 13, 14, 15, 16, 17, 18, 19] [] rfl rfl (by decide) (by decide) (by decide) (fun _ _ _ _ h => h) (fun _ _ _ => trivial) rfl rfl hl.1 (Nat.le_of_ble_eq_true rfl) dX2_mixedWithFrame_185 ⟨hkc, hks⟩ (fun r9 u H locs hr9 hP hD hS => ?_)
        have hr9 := Eq.symm hr9
        subst hr9
        have hP : va_P (dC, dI) vwCl (wHB cI cF cJ h fa tr rw Hb ++ (wFR cI cF cJ q0 q1 q2 q3 q4 q5 q6 q7 q8 F ++ (wFR cI cF cJ tr t1 t2 t3 t4 t5 t6 t7 t8 x114.2))) H := hP
        have hD : va_D A (wHB cI cF cJ h fa tr rw Hb ++ (wFR cI cF cJ q0 q1 q2 q3 q4 q5 q6 q7 q8 F ++ (wFR cI cF cJ tr t1 t2 t3 t4 t5 t6 t7 t8 x114.2))) := hD
        refine lv_i2l hx hb dX2_mixedWithFrame_188 rfl ?_
        refine lv_topl (fun v115 ev115 => ?_)
        have hf := bnd_all hf v115 ev115
        obtain ⟨x116, hx116, hf⟩ := obd_e hf
        refine sb_Sl (As := [.long a111, .long v115]) (rest := []) ⟨hx, hb, hml, hown, hts⟩ (fun sz => c_X2_mixed l dC dI cI cF cJ cD  a111 v115  x116 hx116 sz) (va_cwS 2 hts (g_S q310 q311 q172 q306) rfl rfl rfl ps_X2_mixed ⟨Nat.le_of_ble_eq_true rfl, Nat.le_of_ble_eq_true rfl⟩)  hK hP hD hS hA [] [0, 1, 2, 3, 4, 5, 6, 7, 8, 9, 10, 11, 12, 13, 14, 15, 16, 17, 18, 19] rfl rfl (by decide) (by decide) (by decide) (fun _ _ _ _ h => h) (fun _ _ _ => trivial) rfl rfl hl.1 (Nat.le_of_ble_eq_true rfl) dX2_mixedWithFrame_189 ⟨hkc, hks⟩ (fun r9 u H locs hr9 hP hD hS => ?_)
        have hr9 := Eq.symm hr9
        subst hr9
        have hP : va_P (dC, dI) vwCl (wHB cI cF cJ h fa tr rw Hb ++ (wFR cI cF cJ q0 q1 q2 q3 q4 q5 q6 q7 q8 F ++ (wFR cI cF cJ tr t1 t2 t3 t4 t5 t6 t7 t8 x114.2))) H := hP
        have hD : va_D A (wHB cI cF cJ h fa tr rw Hb ++ (wFR cI cF cJ q0 q1 q2 q3 q4 q5 q6 q7 q8 F ++ (wFR cI cF cJ tr t1 t2 t3 t4 t5 t6 t7 t8 x114.2))) := hD
        refine lv_lstore (lv' := [(4, .long x116), (0, .ref h), (3, .ref q0), (6, .int a97)]) hx hb dX2_mixedWithFrame_192 hl (by decide) rfl (fun ls hl => ?_)
        obtain ⟨v117, ev117⟩ : ∃ y : Int32, y = a97 + 1 := ⟨_, rfl⟩
        have hf := bnd_all hf v117 ev117
        refine lv_iinc (v := v117) (lv' := [(6, .int v117), (4, .long x116), (0, .ref h), (3, .ref q0)]) hx hb dX2_mixedWithFrame_194 hl (k := 3) rfl (by rw [ev117]; rfl) (by decide) rfl (fun ls hl => ?_)
        refine lv_goto (tgt := 138) hx hb dX2_mixedWithFrame_197 (by decide) ?_
        exact ih x116 v117 x114.2 _ _ _ hP hD hS (lv_sub hl [1, 0, 2, 3] rfl) hf
  refine L138 _ (fun a118 a119 F120 H locs ls hP hD hS hl hf => ?_) 16 x62 0 x58.2 _ _ _ hP hD hS (lv_sub hl [1, 0, 2, 3] rfl) hf
  refine lv_lload hx hb dX2_mixedWithFrame_200 (lv_at hl 0 rfl) ?_
  obtain rfl := Option.some.inj hf
  exact W.lret (v := a118) hx hb hr (fun t ht hW => ⟨⟨_, (), rfl, rfl, by rw [ht]; exact hP, hD⟩, hS.F ht⟩) hS.2.2 dX2_mixedWithFrame_202
noncomputable def l_X2_digest_6 (R0 : HB) (R1 : FR) (R2 : FR) (k : Int64 → Int32 → FR → Option (Int64 × FR)) : Nat → Int64 → Int32 → FR → Option (Int64 × FR)
  | 0, _, _, _ => none
  | n + 1, a1, a2, F3 => if (5 : Int32) ≤ a2 then (k a1 a2 F3) else (obd (f_X2_factOfHall R0 R1 R2 a2) fun x5 => bnd (x5.toInt64) fun (v6 : Int64) => obd (f_X2_mixed a1 v6) fun x7 => bnd (a2 + 1) fun (v8 : Int32) => l_X2_digest_6 R0 R1 R2 k n x7 v8 F3)
noncomputable def f_X2_digest (Hb : HB) (F : FR) (F2 : FR) (Tr : FR) : Option (Int64 × FR) := l_X2_digest_6 Hb F F2 (fun (a20 : Int64) (a21 : Int32) (F22 : FR) => obd (f_X2_mixedWithFrame Hb F F22 a20) fun x23 => obd (f_X2_mixedWithFrame Hb F2 x23.2 x23.1) fun x24 => if (hFc Hb) ≤ 0 then (some (x24.1, x24.2)) else (bnd ((hFc Hb) - 1) fun (v26 : Int32) => obd (f_X2_quickerToAdd Hb F F2 x24.2 25) fun x27 => bnd (x27.1.toInt64) fun (v28 : Int64) => obd (f_X2_mixed x24.1 v28) fun x29 => some (x29, x27.2))) 16 58320 0 Tr
theorem pc_X2_digest : yX2_digest.cls = RX2 ∧ yX2_digest.cls ≠ "java/lang/invoke/MethodHandle" ∧ yX2_digest.cls ≠ "java/lang/invoke/VarHandle" ∧ (parseMethodDescriptor yX2_digest.desc).map (fun d => d.parameters.length) = some 0 := by decide +kernel
abbrev rm_X2_digest : Room := { frames := 7, cells := 0, slots := 0, locals := 179 }
set_option maxHeartbeats 4000000 in
set_option maxRecDepth 100000 in
theorem c_X2_digest (l : Launch) (dC : Nat → ClassId) (dI : Nat → Nat → Nat) (cI cF cJ cD : ClassId) (h fa tr q0 q1 q2 q3 q4 q5 q6 q7 q8 r0 r1 r2 r3 r4 r5 r6 r7 r8 t1 t2 t3 t4 t5 t6 t7 t8 : Nat) (rw : Nat → Option Nat) (Hb : HB) (F : FR) (F2 : FR) (Tr : FR) (hq0 : f_X2_frameAt rw 0 = some (some q0)) (hq1 : f_X2_frameAt rw 1 = some (some r0)) (hr0 : rw (Int32.toNatClampNeg 0) = some q0) (hr1 : rw (Int32.toNatClampNeg 1) = some r0) (hr2 : rw (Int32.toNatClampNeg 2) = none) (hr3 : rw (Int32.toNatClampNeg 3) = none) (hfc : (hFc Hb) = 2) (res : (Int64 × FR)) (hf : f_X2_digest Hb F F2 Tr = some res) (sz : Nat) : Met l yX2_digest (ws_ yX2_digest cX2_digest 5 (some .long)) rm_X2_digest (sbPre (dC, dI) (TY cI cF cJ cD) (wHB cI cF cJ h fa tr rw Hb ++ (wFR cI cF cJ q0 q1 q2 q3 q4 q5 q6 q7 q8 F ++ (wFR cI cF cJ r0 r1 r2 r3 r4 r5 r6 r7 r8 F2 ++ (wFR cI cF cJ tr t1 t2 t3 t4 t5 t6 t7 t8 Tr)))) E0 sz [.ref h]) (va_Ql (fun (r : Int64) (_ : Unit) => r = res.1) (sbEnd (dC, dI) (fun _ => wHB cI cF cJ h fa tr rw Hb ++ (wFR cI cF cJ q0 q1 q2 q3 q4 q5 q6 q7 q8 F ++ (wFR cI cF cJ r0 r1 r2 r3 r4 r5 r6 r7 r8 F2 ++ (wFR cI cF cJ tr t1 t2 t3 t4 t5 t6 t7 t8 res.2)))) (va_A (wHB cI cF cJ h fa tr rw Hb ++ (wFR cI cF cJ q0 q1 q2 q3 q4 q5 q6 q7 q8 F ++ (wFR cI cF cJ r0 r1 r2 r3 r4 r5 r6 r7 r8 F2 ++ (wFR cI cF cJ tr t1 t2 t3 t4 t5 t6 t7 t8 Tr)))) sz)) (va_A (wHB cI cF cJ h fa tr rw Hb ++ (wFR cI cF cJ q0 q1 q2 q3 q4 q5 q6 q7 q8 F ++ (wFR cI cF cJ r0 r1 r2 r3 r4 r5 r6 r7 r8 F2 ++ (wFR cI cF cJ tr t1 t2 t3 t4 t5 t6 t7 t8 Tr)))) sz)) 0 0 (va_A (wHB cI cF cJ h fa tr rw Hb ++ (wFR cI cF cJ q0 q1 q2 q3 q4 q5 q6 q7 q8 F ++ (wFR cI cF cJ r0 r1 r2 r3 r4 r5 r6 r7 r8 F2 ++ (wFR cI cF cJ tr t1 t2 t3 t4 t5 t6 t7 t8 Tr)))) sz) := by
  refine Met.ofW (cc := cX2_digest) (maxL := 5) (ret := (some .long)) (by decide) rfl ?_
  intro p e s m args below meth c s₁ B hml hv
  obtain ⟨rfl, hsz, hP, hK, hD0, hE⟩ := hv
  have hx := B.exec
  have hb := B.bytes
  have hr := B.returns
  have hts0 := atoms_spec (ws := ws_ yX2_digest cX2_digest 5 (some .long)) B.pre
  have hts := fun (w : Cond) (h : w ∈ LW) => hts0 w (List.mem_cons_of_mem _ h)
  have hown : s.vm.findClass RX2 = some m.cls := findClass_of_methodNamed B.named
  have hlocks := B.notSynchronized
  subst hsz
  have hD := hD0.self (sz := s.heap.size)
  generalize hAe : va_A (wHB cI cF cJ h fa tr rw Hb ++ (wFR cI cF cJ q0 q1 q2 q3 q4 q5 q6 q7 q8 F ++ (wFR cI cF cJ r0 r1 r2 r3 r4 r5 r6 r7 r8 F2 ++ (wFR cI cF cJ tr t1 t2 t3 t4 t5 t6 t7 t8 Tr)))) s.heap.size = A at hD ⊢
  have hA : ∀ q : Nat, s.heap.size ≤ q → A q := fun q h => by rw [← hAe]; exact Or.inr h
  have hS : va_S A s.heap s.heap [] := va_S.rf
  have hkc := Nat.zero_le rm_X2_digest.cells
  have hks := Nat.zero_le rm_X2_digest.slots
  have hl := lv_entry ([.ref h]) (n := 5) (Nat.le_of_ble_eq_true rfl)
  rw [lg_entry_eq]
  generalize (lg_sl ([.ref h]) ++ List.replicate (5 - (lg_sl ([.ref h])).length) Slot.unset).toArray = ls at hl ⊢
  have hl : lv_has ls 5 [(0, .ref h)] := hl
  rw [f_X2_digest] at hf
  refine lv_ldc2 hx hb hown (hts _ q322) dX2_digest_0 ?_
  refine lv_lstore_n (lv' := [(1, .long 58320), (0, .ref h)]) hx hb dX2_digest_3 rfl hl (by decide) rfl (fun ls hl => ?_)
  refine lv_iconst (v := 0) hx hb dX2_digest_4 (by decide) ?_
  refine lv_istore_n (lv' := [(3, .int 0), (1, .long 58320), (0, .ref h)]) hx hb dX2_digest_5 rfl hl (by decide) rfl (fun ls hl => ?_)
  have L6 : ∀ (k : Int64 → Int32 → FR → Option (Int64 × FR)), (∀ (a9 : Int64) (a10 : Int32) (F11 : FR) (H : Heap) (locs : List Loc) (ls : Array Slot), va_P (dC, dI) vwCl (wHB cI cF cJ h fa tr rw Hb ++ (wFR cI cF cJ q0 q1 q2 q3 q4 q5 q6 q7 q8 F ++ (wFR cI cF cJ r0 r1 r2 r3 r4 r5 r6 r7 r8 F2 ++ (wFR cI cF cJ tr t1 t2 t3 t4 t5 t6 t7 t8 F11)))) H → va_D A (wHB cI cF cJ h fa tr rw Hb ++ (wFR cI cF cJ q0 q1 q2 q3 q4 q5 q6 q7 q8 F ++ (wFR cI cF cJ r0 r1 r2 r3 r4 r5 r6 r7 r8 F2 ++ (wFR cI cF cJ tr t1 t2 t3 t4 t5 t6 t7 t8 F11)))) → va_S A s.heap H locs → lv_has ls 5 [(1, .long a9), (0, .ref h)] → k a9 a10 F11 = some res → W p l e (headSpec (ws_ yX2_digest cX2_digest 5 (some .long)) rm_X2_digest).room s m ([.ref h].toArray) below meth c H locs 0 0 (MQ below (va_Ql (fun (r : Int64) (_ : Unit) => r = res.1) (sbEnd (dC, dI) (fun _ => wHB cI cF cJ h fa tr rw Hb ++ (wFR cI cF cJ q0 q1 q2 q3 q4 q5 q6 q7 q8 F ++ (wFR cI cF cJ r0 r1 r2 r3 r4 r5 r6 r7 r8 F2 ++ (wFR cI cF cJ tr t1 t2 t3 t4 t5 t6 t7 t8 res.2)))) (A)) (A)) ([.ref h].toArray) s 0 0 A) (F0 m 28 ls [])) → ∀ (n : Nat) (a9 : Int64) (a10 : Int32) (F11 : FR) (H : Heap) (locs : List Loc) (ls : Array Slot), va_P (dC, dI) vwCl (wHB cI cF cJ h fa tr rw Hb ++ (wFR cI cF cJ q0 q1 q2 q3 q4 q5 q6 q7 q8 F ++ (wFR cI cF cJ r0 r1 r2 r3 r4 r5 r6 r7 r8 F2 ++ (wFR cI cF cJ tr t1 t2 t3 t4 t5 t6 t7 t8 F11)))) H → va_D A (wHB cI cF cJ h fa tr rw Hb ++ (wFR cI cF cJ q0 q1 q2 q3 q4 q5 q6 q7 q8 F ++ (wFR cI cF cJ r0 r1 r2 r3 r4 r5 r6 r7 r8 F2 ++ (wFR cI cF cJ tr t1 t2 t3 t4 t5 t6 t7 t8 F11)))) → va_S A s.heap H locs → lv_has ls 5 [(1, .long a9), (3, .int a10), (0, .ref h)] → l_X2_digest_6 Hb F F2 k n a9 a10 F11 = some res → W p l e (headSpec (ws_ yX2_digest cX2_digest 5 (some .long)) rm_X2_digest).room s m ([.ref h].toArray) below meth c H locs 0 0 (MQ below (va_Ql (fun (r : Int64) (_ : Unit) => r = res.1) (sbEnd (dC, dI) (fun _ => wHB cI cF cJ h fa tr rw Hb ++ (wFR cI cF cJ q0 q1 q2 q3 q4 q5 q6 q7 q8 F ++ (wFR cI cF cJ r0 r1 r2 r3 r4 r5 r6 r7 r8 F2 ++ (wFR cI cF cJ tr t1 t2 t3 t4 t5 t6 t7 t8 res.2)))) (A)) (A)) ([.ref h].toArray) s 0 0 A) (F0 m 6 ls []) := by
    intro k hk n
    induction n with
    | zero =>
      intro a12 a13 F14 H locs ls hP hD hS hl hf
      rw [l_X2_digest_6] at hf
      cases hf
    | succ n ih =>
      intro a12 a13 F14 H locs ls hP hD hS hl hf
      rw [l_X2_digest_6] at hf
      refine lv_iload_n hx hb dX2_digest_6 rfl (lv_at hl 1 rfl) ?_
      refine lv_iconst (v := 5) hx hb dX2_digest_7 (by decide) ?_
      refine lv_icmp_ge (tgt := 28) hx hb dX2_digest_8 (by decide) (fun c15 => ?_) (fun c15 => ?_)
      · have hf := ite_t hf c15
        exact hk a12 a13 F14 _ _ _ hP hD hS (lv_sub hl [0, 2] rfl) hf
      · have hf := ite_f hf c15
        refine lv_lload_n hx hb dX2_digest_11 rfl (lv_at hl 0 rfl) ?_
        refine lv_aload_n hx hb dX2_digest_12 rfl (lv_at hl 2 rfl) ?_
        refine lv_iload_n hx hb dX2_digest_13 rfl (lv_at hl 1 rfl) ?_
        obtain ⟨x16, hx16, hf⟩ := obd_e hf
        refine sb_Vi (As := [.int a13]) (rest := [.long a12]) ⟨hx, hb, hml, hown, hts⟩ (fun sz => c_X2_factOfHall l dC dI cI cF cJ cD h fa tr q0 q1 q2 q3 q4 q5 q6 q7 q8 r0 r1 r2 r3 r4 r5 r6 r7 r8 rw Hb F F2 a13 hr0 hr1 hr2 hr3 x16 hx16 sz) (cwV 1 hts (g_V q276 q277 q278 q172 q275) rfl rfl rfl pc_X2_factOfHall ⟨Nat.le_of_ble_eq_true rfl, Nat.le_of_ble_eq_true rfl⟩) 0 2 rfl rfl hK hP hD hS hA [0, 1, 2, 3, 4, 5, 6, 7, 8, 9, 10, 11, 12, 13, 14, 15, 16, 17, 18, 19] [20, 21, 22, 23, 24, 25, 26, 27, 28] rfl rfl (by decide) (by decide) (by decide) (fun _ _ _ _ h => h) (fun _ _ _ => trivial) rfl rfl hl.1 (Nat.le_of_ble_eq_true rfl) dX2_digest_14 ⟨hkc, hks⟩ (fun r9 u H locs hr9 hP hD hS => ?_)
        have hr9 := Eq.symm hr9
        subst hr9
        have hP : va_P (dC, dI) vwCl (wHB cI cF cJ h fa tr rw Hb ++ (wFR cI cF cJ q0 q1 q2 q3 q4 q5 q6 q7 q8 F ++ (wFR cI cF cJ r0 r1 r2 r3 r4 r5 r6 r7 r8 F2 ++ (wFR cI cF cJ tr t1 t2 t3 t4 t5 t6 t7 t8 F14)))) H := hP.sub [9, 10, 11, 12, 13, 14, 15, 16, 17, 18, 19, 20, 21, 22, 23, 24, 25, 26, 27, 28, 0, 1, 2, 3, 4, 5, 6, 7, 8] rfl
        have hD : va_D A (wHB cI cF cJ h fa tr rw Hb ++ (wFR cI cF cJ q0 q1 q2 q3 q4 q5 q6 q7 q8 F ++ (wFR cI cF cJ r0 r1 r2 r3 r4 r5 r6 r7 r8 F2 ++ (wFR cI cF cJ tr t1 t2 t3 t4 t5 t6 t7 t8 F14)))) := hD.sub [9, 10, 11, 12, 13, 14, 15, 16, 17, 18, 19, 20, 21, 22, 23, 24, 25, 26, 27, 28, 0, 1, 2, 3, 4, 5, 6, 7, 8] (by decide) rfl
        refine lv_i2l hx hb dX2_digest_17 rfl ?_
        refine lv_topl (fun v17 ev17 => ?_)
        have hf := bnd_all hf v17 ev17
        obtain ⟨x18, hx18, hf⟩ := obd_e hf
        refine sb_Sl (As := [.long a12, .long v17]) (rest := []) ⟨hx, hb, hml, hown, hts⟩ (fun sz => c_X2_mixed l dC dI cI cF cJ cD  a12 v17  x18 hx18 sz) (va_cwS 2 hts (g_S q310 q311 q172 q306) rfl rfl rfl ps_X2_mixed ⟨Nat.le_of_ble_eq_true rfl, Nat.le_of_ble_eq_true rfl⟩)  hK hP hD hS hA [] [0, 1, 2, 3, 4, 5, 6, 7, 8, 9, 10, 11, 12, 13, 14, 15, 16, 17, 18, 19, 20, 21, 22, 23, 24, 25, 26, 27, 28] rfl rfl (by decide) (by decide) (by decide) (fun _ _ _ _ h => h) (fun _ _ _ => trivial) rfl rfl hl.1 (Nat.le_of_ble_eq_true rfl) dX2_digest_18 ⟨hkc, hks⟩ (fun r9 u H locs hr9 hP hD hS => ?_)
        have hr9 := Eq.symm hr9
        subst hr9
        have hP : va_P (dC, dI) vwCl (wHB cI cF cJ h fa tr rw Hb ++ (wFR cI cF cJ q0 q1 q2 q3 q4 q5 q6 q7 q8 F ++ (wFR cI cF cJ r0 r1 r2 r3 r4 r5 r6 r7 r8 F2 ++ (wFR cI cF cJ tr t1 t2 t3 t4 t5 t6 t7 t8 F14)))) H := hP
        have hD : va_D A (wHB cI cF cJ h fa tr rw Hb ++ (wFR cI cF cJ q0 q1 q2 q3 q4 q5 q6 q7 q8 F ++ (wFR cI cF cJ r0 r1 r2 r3 r4 r5 r6 r7 r8 F2 ++ (wFR cI cF cJ tr t1 t2 t3 t4 t5 t6 t7 t8 F14)))) := hD
        refine lv_lstore_n (lv' := [(1, .long x18), (3, .int a13), (0, .ref h)]) hx hb dX2_digest_21 rfl hl (by decide) rfl (fun ls hl => ?_)
        obtain ⟨v19, ev19⟩ : ∃ y : Int32, y = a13 + 1 := ⟨_, rfl⟩
        have hf := bnd_all hf v19 ev19
        refine lv_iinc (v := v19) (lv' := [(3, .int v19), (1, .long x18), (0, .ref h)]) hx hb dX2_digest_22 hl (k := 1) rfl (by rw [ev19]; rfl) (by decide) rfl (fun ls hl => ?_)
        refine lv_goto (tgt := 6) hx hb dX2_digest_25 (by decide) ?_
        exact ih x18 v19 F14 _ _ _ hP hD hS (lv_sub hl [1, 0, 2] rfl) hf
  refine L6 _ (fun a20 a21 F22 H locs ls hP hD hS hl hf => ?_) 16 58320 0 Tr _ _ _ hP hD hS (lv_sub hl [1, 0, 2] rfl) hf
  refine lv_iconst (v := 0) hx hb dX2_digest_28 (by decide) ?_
  refine lv_istore_n (lv' := [(3, .int 0), (1, .long a20), (0, .ref h)]) hx hb dX2_digest_29 rfl hl (by decide) rfl (fun ls hl => ?_)
  refine lv_iload_n hx hb dX2_digest_30 rfl (lv_at hl 0 rfl) ?_
  refine lv_aload_n hx hb dX2_digest_31 rfl (lv_at hl 2 rfl) ?_
  refine va_get (D := (dC, dI)) (ci := 2) (v := .ref fa) (C := RX2) (T := TX2) (N := 4) hx hb hts iX2 hown hK hP 0 rfl rfl 0 (by decide) (hts _ q152) (fun _ h9 => h9) rfl dX2_digest_32 ?_
  refine va_alen (v := 4) hx hb hK hP 1 1 rfl rfl rfl dX2_digest_35 ?_
  refine lv_icmp_ge (tgt := 66) hx hb dX2_digest_36 (by decide) (fun c9 => absurd c9 (by decide)) (fun _ => ?_)
  refine lv_aload_n hx hb dX2_digest_39 rfl (lv_at hl 2 rfl) ?_
  refine va_get (D := (dC, dI)) (ci := 2) (v := .ref fa) (C := RX2) (T := TX2) (N := 4) hx hb hts iX2 hown hK hP 0 rfl rfl 0 (by decide) (hts _ q152) (fun _ h9 => h9) rfl dX2_digest_40 ?_
  refine lv_iload_n hx hb dX2_digest_43 rfl (lv_at hl 0 rfl) ?_
  refine va_aldq hx hb hK hP 1 1 rfl rfl (gin_in (by decide)) dX2_digest_44 ?_
  refine sb_topv (v' := .ref q0) (congrArg va_rf (show _ = some q0 from hr0)) ?_
  refine lv_astore (lv' := [(4, .ref q0), (3, .int 0), (1, .long a20), (0, .ref h)]) hx hb dX2_digest_45 hl (by decide) rfl (fun ls hl => ?_)
  refine lv_aload hx hb dX2_digest_47 (lv_at hl 0 rfl) ?_
  refine lv_ifnull hx hb dX2_digest_49 ?_
  refine lv_aload_n hx hb dX2_digest_52 rfl (lv_at hl 3 rfl) ?_
  refine lv_lload_n hx hb dX2_digest_53 rfl (lv_at hl 2 rfl) ?_
  refine lv_aload hx hb dX2_digest_54 (lv_at hl 0 rfl) ?_
  obtain ⟨x23, hx23, hf⟩ := obd_e hf
  refine sb_Vl (As := [.long a20, .ref q0]) (rest := []) ⟨hx, hb, hml, hown, hts⟩ (fun sz => c_X2_mixedWithFrame l dC dI cI cF cJ cD h fa tr q0 q1 q2 q3 q4 q5 q6 q7 q8 t1 t2 t3 t4 t5 t6 t7 t8 rw Hb F F22 a20  x23 hx23 sz) (cwV 2 hts (g_V q323 q324 q325 q172 q321) rfl rfl rfl pc_X2_mixedWithFrame ⟨Nat.le_of_ble_eq_true rfl, Nat.le_of_ble_eq_true rfl⟩) 0 2 rfl rfl hK hP hD hS hA [0, 1, 2, 3, 4, 5, 6, 7, 8, 9, 10, 20, 21, 22, 23, 24, 25, 26, 27, 28] [11, 12, 13, 14, 15, 16, 17, 18, 19] rfl rfl (by decide) (by decide) (by decide) (fun _ _ _ _ h => h) (fun _ _ _ => trivial) rfl rfl hl.1 (Nat.le_of_ble_eq_true rfl) dX2_digest_56 ⟨hkc, hks⟩ (fun r9 u H locs hr9 hP hD hS => ?_)
  have hr9 := Eq.symm hr9
  subst hr9
  have hP : va_P (dC, dI) vwCl (wHB cI cF cJ h fa tr rw Hb ++ (wFR cI cF cJ q0 q1 q2 q3 q4 q5 q6 q7 q8 F ++ (wFR cI cF cJ r0 r1 r2 r3 r4 r5 r6 r7 r8 F2 ++ (wFR cI cF cJ tr t1 t2 t3 t4 t5 t6 t7 t8 x23.2)))) H := hP.sub [9, 10, 11, 12, 13, 14, 15, 16, 17, 18, 19, 0, 1, 2, 3, 4, 5, 6, 7, 8, 20, 21, 22, 23, 24, 25, 26, 27, 28] rfl
  have hD : va_D A (wHB cI cF cJ h fa tr rw Hb ++ (wFR cI cF cJ q0 q1 q2 q3 q4 q5 q6 q7 q8 F ++ (wFR cI cF cJ r0 r1 r2 r3 r4 r5 r6 r7 r8 F2 ++ (wFR cI cF cJ tr t1 t2 t3 t4 t5 t6 t7 t8 x23.2)))) := hD.sub [9, 10, 11, 12, 13, 14, 15, 16, 17, 18, 19, 0, 1, 2, 3, 4, 5, 6, 7, 8, 20, 21, 22, 23, 24, 25, 26, 27, 28] (by decide) rfl
  refine lv_lstore_n (lv' := [(1, .long x23.1), (4, .ref q0), (3, .int 0), (0, .ref h)]) hx hb dX2_digest_59 rfl hl (by decide) rfl (fun ls hl => ?_)
  refine lv_iinc (v := 1) (lv' := [(3, .int 1), (1, .long x23.1), (4, .ref q0), (0, .ref h)]) hx hb dX2_digest_60 hl (k := 2) rfl (by decide) (by decide) rfl (fun ls hl => ?_)
  refine lv_goto (tgt := 30) hx hb dX2_digest_63 (by decide) ?_
  refine lv_iload_n hx hb dX2_digest_30 rfl (lv_at hl 0 rfl) ?_
  refine lv_aload_n hx hb dX2_digest_31 rfl (lv_at hl 3 rfl) ?_
  refine va_get (D := (dC, dI)) (ci := 2) (v := .ref fa) (C := RX2) (T := TX2) (N := 4) hx hb hts iX2 hown hK hP 0 rfl rfl 0 (by decide) (hts _ q152) (fun _ h9 => h9) rfl dX2_digest_32 ?_
  refine va_alen (v := 4) hx hb hK hP 1 1 rfl rfl rfl dX2_digest_35 ?_
  refine lv_icmp_ge (tgt := 66) hx hb dX2_digest_36 (by decide) (fun c9 => absurd c9 (by decide)) (fun _ => ?_)
  refine lv_aload_n hx hb dX2_digest_39 rfl (lv_at hl 3 rfl) ?_
  refine va_get (D := (dC, dI)) (ci := 2) (v := .ref fa) (C := RX2) (T := TX2) (N := 4) hx hb hts iX2 hown hK hP 0 rfl rfl 0 (by decide) (hts _ q152) (fun _ h9 => h9) rfl dX2_digest_40 ?_
  refine lv_iload_n hx hb dX2_digest_43 rfl (lv_at hl 0 rfl) ?_
  refine va_aldq hx hb hK hP 1 1 rfl rfl (gin_in (by decide)) dX2_digest_44 ?_
  refine sb_topv (v' := .ref r0) (congrArg va_rf (show _ = some r0 from hr1)) ?_
  refine lv_astore (lv' := [(4, .ref r0), (3, .int 1), (1, .long x23.1), (0, .ref h)]) hx hb dX2_digest_45 hl (by decide) rfl (fun ls hl => ?_)
  refine lv_aload hx hb dX2_digest_47 (lv_at hl 0 rfl) ?_
  refine lv_ifnull hx hb dX2_digest_49 ?_
  refine lv_aload_n hx hb dX2_digest_52 rfl (lv_at hl 3 rfl) ?_
  refine lv_lload_n hx hb dX2_digest_53 rfl (lv_at hl 2 rfl) ?_
  refine lv_aload hx hb dX2_digest_54 (lv_at hl 0 rfl) ?_
  obtain ⟨x24, hx24, hf⟩ := obd_e hf
  refine sb_Vl (As := [.long x23.1, .ref r0]) (rest := []) ⟨hx, hb, hml, hown, hts⟩ (fun sz => c_X2_mixedWithFrame l dC dI cI cF cJ cD h fa tr r0 r1 r2 r3 r4 r5 r6 r7 r8 t1 t2 t3 t4 t5 t6 t7 t8 rw Hb F2 x23.2 x23.1  x24 hx24 sz) (cwV 2 hts (g_V q323 q324 q325 q172 q321) rfl rfl rfl pc_X2_mixedWithFrame ⟨Nat.le_of_ble_eq_true rfl, Nat.le_of_ble_eq_true rfl⟩) 0 2 rfl rfl hK hP hD hS hA [0, 1, 11, 12, 13, 14, 15, 16, 17, 18, 19, 20, 21, 22, 23, 24, 25, 26, 27, 28] [2, 3, 4, 5, 6, 7, 8, 9, 10] rfl rfl (by decide) (by decide) (by decide) (fun _ _ _ _ h => h) (fun _ _ _ => trivial) rfl rfl hl.1 (Nat.le_of_ble_eq_true rfl) dX2_digest_56 ⟨hkc, hks⟩ (fun r9 u H locs hr9 hP hD hS => ?_)
  have hr9 := Eq.symm hr9
  subst hr9
  have hP : va_P (dC, dI) vwCl (wHB cI cF cJ h fa tr rw Hb ++ (wFR cI cF cJ q0 q1 q2 q3 q4 q5 q6 q7 q8 F ++ (wFR cI cF cJ r0 r1 r2 r3 r4 r5 r6 r7 r8 F2 ++ (wFR cI cF cJ tr t1 t2 t3 t4 t5 t6 t7 t8 x24.2)))) H := hP.sub [9, 10, 0, 1, 2, 3, 4, 5, 6, 7, 8, 11, 12, 13, 14, 15, 16, 17, 18, 19, 20, 21, 22, 23, 24, 25, 26, 27, 28] rfl
  have hD : va_D A (wHB cI cF cJ h fa tr rw Hb ++ (wFR cI cF cJ q0 q1 q2 q3 q4 q5 q6 q7 q8 F ++ (wFR cI cF cJ r0 r1 r2 r3 r4 r5 r6 r7 r8 F2 ++ (wFR cI cF cJ tr t1 t2 t3 t4 t5 t6 t7 t8 x24.2)))) := hD.sub [9, 10, 0, 1, 2, 3, 4, 5, 6, 7, 8, 11, 12, 13, 14, 15, 16, 17, 18, 19, 20, 21, 22, 23, 24, 25, 26, 27, 28] (by decide) rfl
  refine lv_lstore_n (lv' := [(1, .long x24.1), (4, .ref r0), (3, .int 1), (0, .ref h)]) hx hb dX2_digest_59 rfl hl (by decide) rfl (fun ls hl => ?_)
  refine lv_iinc (v := 2) (lv' := [(3, .int 2), (1, .long x24.1), (4, .ref r0), (0, .ref h)]) hx hb dX2_digest_60 hl (k := 2) rfl (by decide) (by decide) rfl (fun ls hl => ?_)
  refine lv_goto (tgt := 30) hx hb dX2_digest_63 (by decide) ?_
  refine lv_iload_n hx hb dX2_digest_30 rfl (lv_at hl 0 rfl) ?_
  refine lv_aload_n hx hb dX2_digest_31 rfl (lv_at hl 3 rfl) ?_
  refine va_get (D := (dC, dI)) (ci := 2) (v := .ref fa) (C := RX2) (T := TX2) (N := 4) hx hb hts iX2 hown hK hP 0 rfl rfl 0 (by decide) (hts _ q152) (fun _ h9 => h9) rfl dX2_digest_32 ?_
  refine va_alen (v := 4) hx hb hK hP 1 1 rfl rfl rfl dX2_digest_35 ?_
  refine lv_icmp_ge (tgt := 66) hx hb dX2_digest_36 (by decide) (fun c9 => absurd c9 (by decide)) (fun _ => ?_)
  refine lv_aload_n hx hb dX2_digest_39 rfl (lv_at hl 3 rfl) ?_
  refine va_get (D := (dC, dI)) (ci := 2) (v := .ref fa) (C := RX2) (T := TX2) (N := 4) hx hb hts iX2 hown hK hP 0 rfl rfl 0 (by decide) (hts _ q152) (fun _ h9 => h9) rfl dX2_digest_40 ?_
  refine lv_iload_n hx hb dX2_digest_43 rfl (lv_at hl 0 rfl) ?_
  refine va_aldq hx hb hK hP 1 1 rfl rfl (gin_in (by decide)) dX2_digest_44 ?_
  refine sb_topv (v' := .null) (congrArg va_rf (show _ = none from hr2)) ?_
  refine lv_astoreN (lv' := [(4, .null), (3, .int 2), (1, .long x24.1), (0, .ref h)]) hx hb dX2_digest_45 hl (by decide) rfl (fun ls hl => ?_)
  refine lv_aloadN hx hb dX2_digest_47 (lv_at hl 0 rfl) ?_
  refine lv_ifnullN (tgt := 60) hx hb dX2_digest_49 (by decide) ?_
  refine lv_iinc (v := 3) (lv' := [(3, .int 3), (4, .null), (1, .long x24.1), (0, .ref h)]) hx hb dX2_digest_60 hl (k := 1) rfl (by decide) (by decide) rfl (fun ls hl => ?_)
  refine lv_goto (tgt := 30) hx hb dX2_digest_63 (by decide) ?_
  refine lv_iload_n hx hb dX2_digest_30 rfl (lv_at hl 0 rfl) ?_
  refine lv_aload_n hx hb dX2_digest_31 rfl (lv_at hl 3 rfl) ?_
  refine va_get (D := (dC, dI)) (ci := 2) (v := .ref fa) (C := RX2) (T := TX2) (N := 4) hx hb hts iX2 hown hK hP 0 rfl rfl 0 (by decide) (hts _ q152) (fun _ h9 => h9) rfl dX2_digest_32 ?_
  refine va_alen (v := 4) hx hb hK hP 1 1 rfl rfl rfl dX2_digest_35 ?_
  refine lv_icmp_ge (tgt := 66) hx hb dX2_digest_36 (by decide) (fun c9 => absurd c9 (by decide)) (fun _ => ?_)
  refine lv_aload_n hx hb dX2_digest_39 rfl (lv_at hl 3 rfl) ?_
  refine va_get (D := (dC, dI)) (ci := 2) (v := .ref fa) (C := RX2) (T := TX2) (N := 4) hx hb hts iX2 hown hK hP 0 rfl rfl 0 (by decide) (hts _ q152) (fun _ h9 => h9) rfl dX2_digest_40 ?_
  refine lv_iload_n hx hb dX2_digest_43 rfl (lv_at hl 0 rfl) ?_
  refine va_aldq hx hb hK hP 1 1 rfl rfl (gin_in (by decide)) dX2_digest_44 ?_
  refine sb_topv (v' := .null) (congrArg va_rf (show _ = none from hr3)) ?_
  refine lv_astoreN (lv' := [(4, .null), (3, .int 3), (1, .long x24.1), (0, .ref h)]) hx hb dX2_digest_45 hl (by decide) rfl (fun ls hl => ?_)
  refine lv_aloadN hx hb dX2_digest_47 (lv_at hl 0 rfl) ?_
  refine lv_ifnullN (tgt := 60) hx hb dX2_digest_49 (by decide) ?_
  refine lv_iinc (v := 4) (lv' := [(3, .int 4), (4, .null), (1, .long x24.1), (0, .ref h)]) hx hb dX2_digest_60 hl (k := 1) rfl (by decide) (by decide) rfl (fun ls hl => ?_)
  refine lv_goto (tgt := 30) hx hb dX2_digest_63 (by decide) ?_
  refine lv_iload_n hx hb dX2_digest_30 rfl (lv_at hl 0 rfl) ?_
  refine lv_aload_n hx hb dX2_digest_31 rfl (lv_at hl 3 rfl) ?_
  refine va_get (D := (dC, dI)) (ci := 2) (v := .ref fa) (C := RX2) (T := TX2) (N := 4) hx hb hts iX2 hown hK hP 0 rfl rfl 0 (by decide) (hts _ q152) (fun _ h9 => h9) rfl dX2_digest_32 ?_
  refine va_alen (v := 4) hx hb hK hP 1 1 rfl rfl rfl dX2_digest_35 ?_
  refine lv_icmp_ge (tgt := 66) hx hb dX2_digest_36 (by decide) (fun _ => ?_) (fun c9 => absurd (by decide) c9)
  refine lv_aload_n hx hb dX2_digest_66 rfl (lv_at hl 3 rfl) ?_
  refine va_get (D := (dC, dI)) (ci := 2) (v := .int (hFc Hb)) (C := RX2) (T := TX2) (N := 4) hx hb hts iX2 hown hK hP 0 rfl rfl 2 (by decide) (hts _ q163) (fun _ h9 => h9) rfl dX2_digest_67 ?_
  refine lv_if_le (tgt := 92) hx hb dX2_digest_70 (by decide) (fun c25 => ?_) (fun c25 => ?_)
  · have hf := ite_t hf c25
    refine lv_lload_n hx hb dX2_digest_92 rfl (lv_at hl 2 rfl) ?_
    obtain rfl := Option.some.inj hf
    exact W.lret (v := x24.1) hx hb hr (fun t ht hW => ⟨⟨_, (), rfl, rfl, by rw [ht]; exact hP, hD⟩, hS.F ht⟩) hS.2.2 dX2_digest_93
  · have hf := ite_f hf c25
    refine lv_lload_n hx hb dX2_digest_73 rfl (lv_at hl 2 rfl) ?_
    refine lv_aload_n hx hb dX2_digest_74 rfl (lv_at hl 3 rfl) ?_
    refine lv_iconst (v := 0) hx hb dX2_digest_75 (by decide) ?_
    refine lv_aload_n hx hb dX2_digest_76 rfl (lv_at hl 3 rfl) ?_
    refine va_get (D := (dC, dI)) (ci := 2) (v := .int (hFc Hb)) (C := RX2) (T := TX2) (N := 4) hx hb hts iX2 hown hK hP 0 rfl rfl 2 (by decide) (hts _ q163) (fun _ h9 => h9) rfl dX2_digest_77 ?_
    refine lv_iconst (v := 1) hx hb dX2_digest_80 (by decide) ?_
    refine lv_isub hx hb dX2_digest_81 ?_
    refine lv_topi (fun v26 ev26 => ?_)
    have hf := bnd_all hf v26 ev26
    have ev26 : v26 = 1 := ev26.trans (by rw [hfc]; decide)
    subst ev26
    refine lv_bipush (v := 25) hx hb dX2_digest_82 (by decide) ?_
    obtain ⟨x27, hx27, hf⟩ := obd_e hf
    refine sb_Vi (As := [.int 0, .int 1, .int 25]) (rest := [.long x24.1]) ⟨hx, hb, hml, hown, hts⟩ (fun sz => c_X2_quickerToAdd l dC dI cI cF cJ cD h fa tr q0 q1 q2 q3 q4 q5 q6 q7 q8 r0 r1 r2 r3 r4 r5 r6 r7 r8 t1 t2 t3 t4 t5 t6 t7 t8 rw Hb F F2 x24.2 25 hq0 hq1 x27 hx27 sz) (cwV 3 hts (g_V q296 q297 q298 q172 q295) rfl rfl rfl pc_X2_quickerToAdd ⟨Nat.le_of_ble_eq_true rfl, Nat.le_of_ble_eq_true rfl⟩) 0 2 rfl rfl hK hP hD hS hA [0, 1, 2, 3, 4, 5, 6, 7, 8, 9, 10, 11, 12, 13, 14, 15, 16, 17, 18, 19, 20, 21, 22, 23, 24, 25, 26, 27, 28] [] rfl rfl (by decide) (by decide) (by decide) (fun _ _ _ _ h => h) (fun _ _ _ => trivial) rfl rfl hl.1 (Nat.le_of_ble_eq_true rfl) dX2_digest_84 ⟨hkc, hks⟩ (fun r9 u H locs hr9 hP hD hS => ?_)
    have hr9 := Eq.symm hr9
    subst hr9
    have hP : va_P (dC, dI) vwCl (wHB cI cF cJ h fa tr rw Hb ++ (wFR cI cF cJ q0 q1 q2 q3 q4 q5 q6 q7 q8 F ++ (wFR cI cF cJ r0 r1 r2 r3 r4 r5 r6 r7 r8 F2 ++ (wFR cI cF cJ tr t1 t2 t3 t4 t5 t6 t7 t8 x27.2)))) H := hP
    have hD : va_D A (wHB cI cF cJ h fa tr rw Hb ++ (wFR cI cF cJ q0 q1 q2 q3 q4 q5 q6 q7 q8 F ++ (wFR cI cF cJ r0 r1 r2 r3 r4 r5 r6 r7 r8 F2 ++ (wFR cI cF cJ tr t1 t2 t3 t4 t5 t6 t7 t8 x27.2)))) := hD
    refine lv_i2l hx hb dX2_digest_87 rfl ?_
    refine lv_topl (fun v28 ev28 => ?_)
    have hf := bnd_all hf v28 ev28
    obtain ⟨x29, hx29, hf⟩ := obd_e hf
    refine sb_Sl (As := [.long x24.1, .long v28]) (rest := []) ⟨hx, hb, hml, hown, hts⟩ (fun sz => c_X2_mixed l dC dI cI cF cJ cD  x24.1 v28  x29 hx29 sz) (va_cwS 2 hts (g_S q310 q311 q172 q306) rfl rfl rfl ps_X2_mixed ⟨Nat.le_of_ble_eq_true rfl, Nat.le_of_ble_eq_true rfl⟩)  hK hP hD hS hA [] [0, 1, 2, 3, 4, 5, 6, 7, 8, 9, 10, 11, 12, 13, 14, 15, 16, 17, 18, 19, 20, 21, 22, 23, 24, 25, 26, 27, 28] rfl rfl (by decide) (by decide) (by decide) (fun _ _ _ _ h => h) (fun _ _ _ => trivial) rfl rfl hl.1 (Nat.le_of_ble_eq_true rfl) dX2_digest_88 ⟨hkc, hks⟩ (fun r9 u H locs hr9 hP hD hS => ?_)
    have hr9 := Eq.symm hr9
    subst hr9
    have hP : va_P (dC, dI) vwCl (wHB cI cF cJ h fa tr rw Hb ++ (wFR cI cF cJ q0 q1 q2 q3 q4 q5 q6 q7 q8 F ++ (wFR cI cF cJ r0 r1 r2 r3 r4 r5 r6 r7 r8 F2 ++ (wFR cI cF cJ tr t1 t2 t3 t4 t5 t6 t7 t8 x27.2)))) H := hP
    have hD : va_D A (wHB cI cF cJ h fa tr rw Hb ++ (wFR cI cF cJ q0 q1 q2 q3 q4 q5 q6 q7 q8 F ++ (wFR cI cF cJ r0 r1 r2 r3 r4 r5 r6 r7 r8 F2 ++ (wFR cI cF cJ tr t1 t2 t3 t4 t5 t6 t7 t8 x27.2)))) := hD
    refine lv_lstore_n (lv' := [(1, .long x29), (3, .int 4), (4, .null), (0, .ref h)]) hx hb dX2_digest_91 rfl hl (by decide) rfl (fun ls hl => ?_)
    refine lv_lload_n hx hb dX2_digest_92 rfl (lv_at hl 0 rfl) ?_
    obtain rfl := Option.some.inj hf
    exact W.lret (v := x29) hx hb hr (fun t ht hW => ⟨⟨_, (), rfl, rfl, by rw [ht]; exact hP, hD⟩, hS.F ht⟩) hS.2.2 dX2_digest_93
