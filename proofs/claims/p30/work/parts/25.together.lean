-- laid by wip/p30/specs.py
noncomputable def f_L_isTogether (L : Nat) (xs : Nat → Int32) (T : TD) (Hb : HB) (F : FR) (F2 : FR) : Option (Int32 × TD × FR × FR) := obd (f_X2_clear Hb F 0) fun x1 => if x1.1 < 0 then (some (0, T, x1.2, F2)) else (obd (f_X2_clear Hb F2 1) fun x3 => if x3.1 < 0 then (some (0, T, x1.2, x3.2)) else (obd (f_X2_many Hb x1.2 x3.2 4) fun x5 => if x5 = 1 then (obd (f_X3_draw L xs T 90) fun x7 => obd (f_X3_draw L xs x7.2 8) fun x8 => bnd (2 + x8.1) fun (v9 : Int32) => obd (f_X2_many Hb x1.2 x3.2 3) fun x10 => bnd (x7.1 + 1) fun (v11 : Int32) => obd (f_X3_draw L xs x8.2 v11) fun x12 => obd (f_X2_add Hb x1.2 0 x7.1) fun x13 => if x13.1 < 0 then (some (0, x12.2, x13.2, x3.2)) else (obd (f_X2_off Hb x13.2 0 x12.1) fun x15 => if x15.1 < 0 then (some (0, x12.2, x15.2, x3.2)) else (obd (f_X2_number Hb x15.2 0) fun x17 => bnd (x7.1 - x12.1) fun (v18 : Int32) => bnd (v18.toInt64) fun (v19 : Int64) => bnd (lg_cmp x17 v19) fun (v20 : Int32) => if v20 = 0 then (obd (f_X2_add Hb x3.2 1 x7.1) fun x22 => if x22.1 < 0 then (some (0, x12.2, x15.2, x22.2)) else (obd (f_X2_off Hb x22.2 1 x12.1) fun x24 => if x24.1 < 0 then (some (0, x12.2, x15.2, x24.2)) else (obd (f_X2_number Hb x24.2 1) fun x26 => bnd (x7.1 - x12.1) fun (v27 : Int32) => bnd (v27.toInt64) fun (v28 : Int64) => bnd (lg_cmp x26 v28) fun (v29 : Int32) => if v29 = 0 then (obd (f_X2_divide Hb x15.2 0 v9) fun x31 => obd (f_X2_divide Hb x24.2 1 v9) fun x32 => if x32.1 = x31.1 then (bnd (x7.1 - x12.1) fun (v34 : Int32) => gd (nz32 v9) <| bnd (v34 - v34 / v9 * v9) fun (v36 : Int32) => if x31.1 = v36 then (obd (f_X2_number Hb x31.2 0) fun x38 => bnd (x7.1 - x12.1) fun (v39 : Int32) => gd (nz32 v9) <| bnd (v39 / v9) fun (v41 : Int32) => bnd (v41.toInt64) fun (v42 : Int64) => bnd (lg_cmp x38 v42) fun (v43 : Int32) => if v43 = 0 then (obd (f_X2_many Hb x31.2 x32.2 4) fun x45 => if x45 = 1 then (obd (f_X2_many Hb x31.2 x32.2 3) fun x47 => if x47 = x10 then (obd (f_X2_times Hb x31.2 0 v9) fun x49 => if x49.1 = 0 then (obd (f_X2_add Hb x49.2 0 x31.1) fun x51 => if x51.1 < 0 then (some (0, x12.2, x51.2, x32.2)) else (obd (f_X2_number Hb x51.2 0) fun x53 => bnd (x7.1 - x12.1) fun (v54 : Int32) => bnd (v54.toInt64) fun (v55 : Int64) => bnd (lg_cmp x53 v55) fun (v56 : Int32) => if v56 = 0 then (obd (f_X2_show Hb x51.2 x32.2 0 1) fun x58 => if x58.1 < 0 then (some (0, x12.2, x51.2, x58.2)) else (obd (f_X2_many Hb x51.2 x58.2 4) fun x60 => if x60 = 1 then (obd (f_X2_shift Hb x51.2 0 0) fun x62 => bnd (x7.1 - x12.1) fun (v63 : Int32) => bnd (v63 - v63 / 10 * 10) fun (v65 : Int32) => if x62.1 = v65 then (obd (f_X2_number Hb x62.2 0) fun x67 => bnd (x7.1 - x12.1) fun (v68 : Int32) => bnd (v68 / 10) fun (v70 : Int32) => bnd (v70.toInt64) fun (v71 : Int64) => bnd (lg_cmp x67 v71) fun (v72 : Int32) => if v72 = 0 then (obd (f_X2_shift Hb x62.2 0 1) fun x74 => if x74.1 = 0 then (obd (f_X2_many Hb x74.2 x58.2 3) fun x76 => if x76 = x10 then (obd (f_X2_number Hb x74.2 0) fun x78 => bnd (x7.1 - x12.1) fun (v79 : Int32) => bnd (v79 / 10) fun (v81 : Int32) => bnd (v81 * 10) fun (v82 : Int32) => bnd (v82.toInt64) fun (v83 : Int64) => bnd (lg_cmp x78 v83) fun (v84 : Int32) => if v84 = 0 then (some (1, x12.2, x74.2, x58.2)) else (some (0, x12.2, x74.2, x58.2))) else (some (0, x12.2, x74.2, x58.2))) else (some (0, x12.2, x74.2, x58.2))) else (some (0, x12.2, x62.2, x58.2))) else (some (0, x12.2, x62.2, x58.2))) else (some (0, x12.2, x51.2, x58.2)))) else (some (0, x12.2, x51.2, x32.2)))) else (some (0, x12.2, x49.2, x32.2))) else (some (0, x12.2, x31.2, x32.2))) else (some (0, x12.2, x31.2, x32.2))) else (some (0, x12.2, x31.2, x32.2))) else (some (0, x12.2, x31.2, x32.2))) else (some (0, x12.2, x31.2, x32.2))) else (some (0, x12.2, x15.2, x24.2))))) else (some (0, x12.2, x15.2, x3.2))))) else (some (0, T, x1.2, x3.2))))
theorem ps_L_isTogether : yL_isTogether.cls ≠ "java/lang/invoke/MethodHandle" ∧ yL_isTogether.cls ≠ "java/lang/invoke/VarHandle" ∧ (parseMethodDescriptor yL_isTogether.desc).map (fun d => d.parameters.length) = some 2 := by decide +kernel
abbrev rm_L_isTogether : Room := { frames := 7, cells := 0, slots := 0, locals := 153 }
set_option maxHeartbeats 4000000 in
set_option maxRecDepth 100000 in
theorem c_L_isTogether (l : Launch) (dC : Nat → ClassId) (dI : Nat → Nat → Nat) (cI cF cJ cD : ClassId) (b L : Nat) (xs : Nat → Int32) (tA tB : Nat) (ot oh ou od ow oa ob ok os fa tr q0 q1 q2 q3 q4 q5 q6 q7 q8 r0 r1 r2 r3 r4 r5 r6 r7 r8 : Nat) (rw : Nat → Option Nat) (T : TD) (Hb : HB) (F : FR) (F2 : FR) (hq0 : f_X2_frameAt rw 0 = some (some q0)) (hq1 : f_X2_frameAt rw 1 = some (some r0)) (hr0 : rw (Int32.toNatClampNeg 0) = some q0) (hr1 : rw (Int32.toNatClampNeg 1) = some r0) (hr2 : rw (Int32.toNatClampNeg 2) = none) (hr3 : rw (Int32.toNatClampNeg 3) = none) (res : (Int32 × TD × FR × FR)) (hf : f_L_isTogether L xs T Hb F F2 = some res) (sz : Nat) : Met l yL_isTogether (ws_ yL_isTogether cL_isTogether 7 (some .boolean)) rm_L_isTogether (sbPre (dC, dI) (TY cI cF cJ cD) (wTD cI cF cJ ot oh b ou od ow oa ob ok os T ++ (wHB cI cF cJ oh fa tr rw Hb ++ (wFR cI cF cJ q0 q1 q2 q3 q4 q5 q6 q7 q8 F ++ (wFR cI cF cJ r0 r1 r2 r3 r4 r5 r6 r7 r8 F2)))) (fun sz U => EX b L xs tA tB (va_A (wTD cI cF cJ ot oh b ou od ow oa ob ok os T ++ (wHB cI cF cJ oh fa tr rw Hb ++ (wFR cI cF cJ q0 q1 q2 q3 q4 q5 q6 q7 q8 F ++ (wFR cI cF cJ r0 r1 r2 r3 r4 r5 r6 r7 r8 F2)))) sz) U) sz [.ref oh, .ref ot]) (va_Qi (fun (r : Int32) (_ : Unit) => r = res.1) (sbEnd (dC, dI) (fun _ => wTD cI cF cJ ot oh b ou od ow oa ob ok os res.2.1 ++ (wHB cI cF cJ oh fa tr rw Hb ++ (wFR cI cF cJ q0 q1 q2 q3 q4 q5 q6 q7 q8 res.2.2.1 ++ (wFR cI cF cJ r0 r1 r2 r3 r4 r5 r6 r7 r8 res.2.2.2)))) (va_A (wTD cI cF cJ ot oh b ou od ow oa ob ok os T ++ (wHB cI cF cJ oh fa tr rw Hb ++ (wFR cI cF cJ q0 q1 q2 q3 q4 q5 q6 q7 q8 F ++ (wFR cI cF cJ r0 r1 r2 r3 r4 r5 r6 r7 r8 F2)))) sz)) (va_A (wTD cI cF cJ ot oh b ou od ow oa ob ok os T ++ (wHB cI cF cJ oh fa tr rw Hb ++ (wFR cI cF cJ q0 q1 q2 q3 q4 q5 q6 q7 q8 F ++ (wFR cI cF cJ r0 r1 r2 r3 r4 r5 r6 r7 r8 F2)))) sz)) 0 0 (va_A (wTD cI cF cJ ot oh b ou od ow oa ob ok os T ++ (wHB cI cF cJ oh fa tr rw Hb ++ (wFR cI cF cJ q0 q1 q2 q3 q4 q5 q6 q7 q8 F ++ (wFR cI cF cJ r0 r1 r2 r3 r4 r5 r6 r7 r8 F2)))) sz) := by
  refine Met.ofW (cc := cL_isTogether) (maxL := 7) (ret := (some .boolean)) (by decide) rfl ?_
  intro p e s m args below meth c s₁ B hml hv
  obtain ⟨rfl, hsz, hP, hK, hD0, hE⟩ := hv
  have hx := B.exec
  have hb := B.bytes
  have hr := B.returns
  have hts0 := atoms_spec (ws := ws_ yL_isTogether cL_isTogether 7 (some .boolean)) B.pre
  have hts := fun (w : Cond) (h : w ∈ LW) => hts0 w (List.mem_cons_of_mem _ h)
  have hown : s.vm.findClass RL = some m.cls := findClass_of_methodNamed B.named
  have hlocks := B.notSynchronized
  subst hsz
  have hD := hD0.self (sz := s.heap.size)
  have hE : EX b L xs tA tB (va_A (wTD cI cF cJ ot oh b ou od ow oa ob ok os T ++ (wHB cI cF cJ oh fa tr rw Hb ++ (wFR cI cF cJ q0 q1 q2 q3 q4 q5 q6 q7 q8 F ++ (wFR cI cF cJ r0 r1 r2 r3 r4 r5 r6 r7 r8 F2)))) s.heap.size) s := hE
  generalize hAe : va_A (wTD cI cF cJ ot oh b ou od ow oa ob ok os T ++ (wHB cI cF cJ oh fa tr rw Hb ++ (wFR cI cF cJ q0 q1 q2 q3 q4 q5 q6 q7 q8 F ++ (wFR cI cF cJ r0 r1 r2 r3 r4 r5 r6 r7 r8 F2)))) s.heap.size = A at hD hE ⊢
  have hA : ∀ q : Nat, s.heap.size ≤ q → A q := fun q h => by rw [← hAe]; exact Or.inr h
  have hS : va_S A s.heap s.heap [] := va_S.rf
  have hkc := Nat.zero_le rm_L_isTogether.cells
  have hks := Nat.zero_le rm_L_isTogether.slots
  have hl := lv_entry ([.ref oh, .ref ot]) (n := 7) (Nat.le_of_ble_eq_true rfl)
  rw [lg_entry_eq]
  generalize (lg_sl ([.ref oh, .ref ot]) ++ List.replicate (7 - (lg_sl ([.ref oh, .ref ot])).length) Slot.unset).toArray = ls at hl ⊢
  have hl : lv_has ls 7 [(0, .ref oh), (1, .ref ot)] := hl
  rw [f_L_isTogether] at hf
  refine lv_aload_n hx hb dL_isTogether_0 rfl (lv_at hl 0 rfl) ?_
  refine lv_iconst (v := 0) hx hb dL_isTogether_1 (by decide) ?_
  obtain ⟨x1, hx1, hf⟩ := obd_e hf
  refine sb_Vi (As := [.int 0]) (rest := []) ⟨hx, hb, hml, hown, hts⟩ (fun sz => c_X2_clear l dC dI cI cF cJ cD oh fa tr q0 q1 q2 q3 q4 q5 q6 q7 q8 rw Hb F 0 hq0 x1 hx1 sz) (cwV 1 hts (g_V q506 q447 q448 q172 q242) rfl rfl rfl pc_X2_clear ⟨Nat.le_of_ble_eq_true rfl, Nat.le_of_ble_eq_true rfl⟩) 0 2 rfl rfl hK hP hD hS hA [7, 8, 9, 10, 11, 12, 13, 14, 15, 16, 17] [0, 1, 2, 3, 4, 5, 6, 18, 19, 20, 21, 22, 23, 24, 25, 26] rfl rfl (by decide) (by decide) (by decide) (fun _ _ _ _ h => h) (fun _ _ _ => trivial) rfl rfl hl.1 (Nat.le_of_ble_eq_true rfl) dL_isTogether_2 ⟨hkc, hks⟩ (fun r9 u H locs hr9 hP hD hS => ?_)
  have hr9 := Eq.symm hr9
  subst hr9
  have hP : va_P (dC, dI) vwCl (wTD cI cF cJ ot oh b ou od ow oa ob ok os T ++ (wHB cI cF cJ oh fa tr rw Hb ++ (wFR cI cF cJ q0 q1 q2 q3 q4 q5 q6 q7 q8 x1.2 ++ (wFR cI cF cJ r0 r1 r2 r3 r4 r5 r6 r7 r8 F2)))) H := hP.sub [0, 1, 2, 3, 4, 5, 6, 16, 17, 18, 19, 20, 21, 22, 23, 24, 25, 26, 7, 8, 9, 10, 11, 12, 13, 14, 15] rfl
  have hD : va_D A (wTD cI cF cJ ot oh b ou od ow oa ob ok os T ++ (wHB cI cF cJ oh fa tr rw Hb ++ (wFR cI cF cJ q0 q1 q2 q3 q4 q5 q6 q7 q8 x1.2 ++ (wFR cI cF cJ r0 r1 r2 r3 r4 r5 r6 r7 r8 F2)))) := hD.sub [0, 1, 2, 3, 4, 5, 6, 16, 17, 18, 19, 20, 21, 22, 23, 24, 25, 26, 7, 8, 9, 10, 11, 12, 13, 14, 15] (by decide) rfl
  refine lv_if_lt (tgt := 25) hx hb dL_isTogether_5 (by decide) (fun c2 => ?_) (fun c2 => ?_)
  · have hf := ite_t hf c2
    refine lv_iconst (v := 0) hx hb dL_isTogether_25 (by decide) ?_
    obtain rfl := Option.some.inj hf
    exact W.zret (v := 0) hx hb hr (by rfl) (fun t ht hW => ⟨⟨_, (), rfl, rfl, by rw [ht]; exact hP, hD⟩, hS.F ht⟩) hS.2.2 dL_isTogether_26
  · have hf := ite_f hf c2
    refine lv_aload_n hx hb dL_isTogether_8 rfl (lv_at hl 0 rfl) ?_
    refine lv_iconst (v := 1) hx hb dL_isTogether_9 (by decide) ?_
    obtain ⟨x3, hx3, hf⟩ := obd_e hf
    refine sb_Vi (As := [.int 1]) (rest := []) ⟨hx, hb, hml, hown, hts⟩ (fun sz => c_X2_clear l dC dI cI cF cJ cD oh fa tr r0 r1 r2 r3 r4 r5 r6 r7 r8 rw Hb F2 1 hq1 x3 hx3 sz) (cwV 1 hts (g_V q506 q447 q448 q172 q242) rfl rfl rfl pc_X2_clear ⟨Nat.le_of_ble_eq_true rfl, Nat.le_of_ble_eq_true rfl⟩) 0 2 rfl rfl hK hP hD hS hA [7, 8, 18, 19, 20, 21, 22, 23, 24, 25, 26] [0, 1, 2, 3, 4, 5, 6, 9, 10, 11, 12, 13, 14, 15, 16, 17] rfl rfl (by decide) (by decide) (by decide) (fun _ _ _ _ h => h) (fun _ _ _ => trivial) rfl rfl hl.1 (Nat.le_of_ble_eq_true rfl) dL_isTogether_10 ⟨hkc, hks⟩ (fun r9 u H locs hr9 hP hD hS => ?_)
    have hr9 := Eq.symm hr9
    subst hr9
    have hP : va_P (dC, dI) vwCl (wTD cI cF cJ ot oh b ou od ow oa ob ok os T ++ (wHB cI cF cJ oh fa tr rw Hb ++ (wFR cI cF cJ q0 q1 q2 q3 q4 q5 q6 q7 q8 x1.2 ++ (wFR cI cF cJ r0 r1 r2 r3 r4 r5 r6 r7 r8 x3.2)))) H := hP.sub [0, 1, 2, 3, 4, 5, 6, 16, 17, 7, 8, 9, 10, 11, 12, 13, 14, 15, 18, 19, 20, 21, 22, 23, 24, 25, 26] rfl
    have hD : va_D A (wTD cI cF cJ ot oh b ou od ow oa ob ok os T ++ (wHB cI cF cJ oh fa tr rw Hb ++ (wFR cI cF cJ q0 q1 q2 q3 q4 q5 q6 q7 q8 x1.2 ++ (wFR cI cF cJ r0 r1 r2 r3 r4 r5 r6 r7 r8 x3.2)))) := hD.sub [0, 1, 2, 3, 4, 5, 6, 16, 17, 7, 8, 9, 10, 11, 12, 13, 14, 15, 18, 19, 20, 21, 22, 23, 24, 25, 26] (by decide) rfl
    refine lv_if_lt (tgt := 25) hx hb dL_isTogether_13 (by decide) (fun c4 => ?_) (fun c4 => ?_)
    · have hf := ite_t hf c4
      refine lv_iconst (v := 0) hx hb dL_isTogether_25 (by decide) ?_
      obtain rfl := Option.some.inj hf
      exact W.zret (v := 0) hx hb hr (by rfl) (fun t ht hW => ⟨⟨_, (), rfl, rfl, by rw [ht]; exact hP, hD⟩, hS.F ht⟩) hS.2.2 dL_isTogether_26
    · have hf := ite_f hf c4
      refine lv_aload_n hx hb dL_isTogether_16 rfl (lv_at hl 0 rfl) ?_
      refine lv_iconst (v := 4) hx hb dL_isTogether_17 (by decide) ?_
      obtain ⟨x5, hx5, hf⟩ := obd_e hf
      refine sb_Vi (As := [.int 4]) (rest := []) ⟨hx, hb, hml, hown, hts⟩ (fun sz => c_X2_many l dC dI cI cF cJ cD oh fa tr q0 q1 q2 q3 q4 q5 q6 q7 q8 r0 r1 r2 r3 r4 r5 r6 r7 r8 rw Hb x1.2 x3.2 4 hr0 hr1 hr2 hr3 x5 hx5 sz) (cwV 1 hts (g_V q507 q508 q509 q172 q279) rfl rfl rfl pc_X2_many ⟨Nat.le_of_ble_eq_true rfl, Nat.le_of_ble_eq_true rfl⟩) 0 2 rfl rfl hK hP hD hS hA [7, 8, 9, 10, 11, 12, 13, 14, 15, 16, 17, 18, 19, 20, 21, 22, 23, 24, 25, 26] [0, 1, 2, 3, 4, 5, 6] rfl rfl (by decide) (by decide) (by decide) (fun _ _ _ _ h => h) (fun _ _ _ => trivial) rfl rfl hl.1 (Nat.le_of_ble_eq_true rfl) dL_isTogether_18 ⟨hkc, hks⟩ (fun r9 u H locs hr9 hP hD hS => ?_)
      have hr9 := Eq.symm hr9
      subst hr9
      have hP : va_P (dC, dI) vwCl (wTD cI cF cJ ot oh b ou od ow oa ob ok os T ++ (wHB cI cF cJ oh fa tr rw Hb ++ (wFR cI cF cJ q0 q1 q2 q3 q4 q5 q6 q7 q8 x1.2 ++ (wFR cI cF cJ r0 r1 r2 r3 r4 r5 r6 r7 r8 x3.2)))) H := hP
      have hD : va_D A (wTD cI cF cJ ot oh b ou od ow oa ob ok os T ++ (wHB cI cF cJ oh fa tr rw Hb ++ (wFR cI cF cJ q0 q1 q2 q3 q4 q5 q6 q7 q8 x1.2 ++ (wFR cI cF cJ r0 r1 r2 r3 r4 r5 r6 r7 r8 x3.2)))) := hD
      refine lv_iconst (v := 1) hx hb dL_isTogether_21 (by decide) ?_
      refine lv_icmp_eq (tgt := 27) hx hb dL_isTogether_22 (by decide) (fun c6 => ?_) (fun c6 => ?_)
      · have hf := ite_t hf c6
        refine lv_aload_n hx hb dL_isTogether_27 rfl (lv_at hl 1 rfl) ?_
        refine lv_bipush (v := 90) hx hb dL_isTogether_28 (by decide) ?_
        obtain ⟨x7, hx7, hf⟩ := obd_e hf
        refine sb_Vi (As := [.int 90]) (rest := []) ⟨hx, hb, hml, hown, hts⟩ (fun sz => c_X3_draw l dC dI cI cF cJ cD b L xs tA tB ot oh ou od ow oa ob ok os T 90  x7 hx7 sz) (cwV 1 hts (g_V q510 q350 q351 q352 q339) rfl rfl rfl pc_X3_draw ⟨Nat.le_of_ble_eq_true rfl, Nat.le_of_ble_eq_true rfl⟩) 0 3 rfl rfl hK hP hD hS hA [0, 1, 2, 3, 4, 5, 6] [7, 8, 9, 10, 11, 12, 13, 14, 15, 16, 17, 18, 19, 20, 21, 22, 23, 24, 25, 26] rfl rfl (by decide) (by decide) (by decide) EX_blind (fun U hU hW => EX_pass hE hS (va_free hD hS hA [0, 1, 2, 3, 4, 5, 6] rfl) hU hW) rfl rfl hl.1 (Nat.le_of_ble_eq_true rfl) dL_isTogether_30 ⟨hkc, hks⟩ (fun r9 u H locs hr9 hP hD hS => ?_)
        have hr9 := Eq.symm hr9
        subst hr9
        have hP : va_P (dC, dI) vwCl (wTD cI cF cJ ot oh b ou od ow oa ob ok os x7.2 ++ (wHB cI cF cJ oh fa tr rw Hb ++ (wFR cI cF cJ q0 q1 q2 q3 q4 q5 q6 q7 q8 x1.2 ++ (wFR cI cF cJ r0 r1 r2 r3 r4 r5 r6 r7 r8 x3.2)))) H := hP.sub [20, 21, 22, 23, 24, 25, 26, 0, 1, 2, 3, 4, 5, 6, 7, 8, 9, 10, 11, 12, 13, 14, 15, 16, 17, 18, 19] rfl
        have hD : va_D A (wTD cI cF cJ ot oh b ou od ow oa ob ok os x7.2 ++ (wHB cI cF cJ oh fa tr rw Hb ++ (wFR cI cF cJ q0 q1 q2 q3 q4 q5 q6 q7 q8 x1.2 ++ (wFR cI cF cJ r0 r1 r2 r3 r4 r5 r6 r7 r8 x3.2)))) := hD.sub [20, 21, 22, 23, 24, 25, 26, 0, 1, 2, 3, 4, 5, 6, 7, 8, 9, 10, 11, 12, 13, 14, 15, 16, 17, 18, 19] (by decide) rfl
        refine lv_istore_n (lv' := [(2, .int x7.1), (0, .ref oh), (1, .ref ot)]) hx hb dL_isTogether_33 rfl hl (by decide) rfl (fun ls hl => ?_)
        refine lv_iconst (v := 2) hx hb dL_isTogether_34 (by decide) ?_
        refine lv_aload_n hx hb dL_isTogether_35 rfl (lv_at hl 2 rfl) ?_
        refine lv_bipush (v := 8) hx hb dL_isTogether_36 (by decide) ?_
        obtain ⟨x8, hx8, hf⟩ := obd_e hf
        refine sb_Vi (As := [.int 8]) (rest := [.int 2]) ⟨hx, hb, hml, hown, hts⟩ (fun sz => c_X3_draw l dC dI cI cF cJ cD b L xs tA tB ot oh ou od ow oa ob ok os x7.2 8  x8 hx8 sz) (cwV 1 hts (g_V q510 q350 q351 q352 q339) rfl rfl rfl pc_X3_draw ⟨Nat.le_of_ble_eq_true rfl, Nat.le_of_ble_eq_true rfl⟩) 0 3 rfl rfl hK hP hD hS hA [0, 1, 2, 3, 4, 5, 6] [7, 8, 9, 10, 11, 12, 13, 14, 15, 16, 17, 18, 19, 20, 21, 22, 23, 24, 25, 26] rfl rfl (by decide) (by decide) (by decide) EX_blind (fun U hU hW => EX_pass hE hS (va_free hD hS hA [0, 1, 2, 3, 4, 5, 6] rfl) hU hW) rfl rfl hl.1 (Nat.le_of_ble_eq_true rfl) dL_isTogether_38 ⟨hkc, hks⟩ (fun r9 u H locs hr9 hP hD hS => ?_)
        have hr9 := Eq.symm hr9
        subst hr9
        have hP : va_P (dC, dI) vwCl (wTD cI cF cJ ot oh b ou od ow oa ob ok os x8.2 ++ (wHB cI cF cJ oh fa tr rw Hb ++ (wFR cI cF cJ q0 q1 q2 q3 q4 q5 q6 q7 q8 x1.2 ++ (wFR cI cF cJ r0 r1 r2 r3 r4 r5 r6 r7 r8 x3.2)))) H := hP.sub [20, 21, 22, 23, 24, 25, 26, 0, 1, 2, 3, 4, 5, 6, 7, 8, 9, 10, 11, 12, 13, 14, 15, 16, 17, 18, 19] rfl
        have hD : va_D A (wTD cI cF cJ ot oh b ou od ow oa ob ok os x8.2 ++ (wHB cI cF cJ oh fa tr rw Hb ++ (wFR cI cF cJ q0 q1 q2 q3 q4 q5 q6 q7 q8 x1.2 ++ (wFR cI cF cJ r0 r1 r2 r3 r4 r5 r6 r7 r8 x3.2)))) := hD.sub [20, 21, 22, 23, 24, 25, 26, 0, 1, 2, 3, 4, 5, 6, 7, 8, 9, 10, 11, 12, 13, 14, 15, 16, 17, 18, 19] (by decide) rfl
        refine lv_iadd hx hb dL_isTogether_41 ?_
        refine lv_topi (fun v9 ev9 => ?_)
        have hf := bnd_all hf v9 ev9
        refine lv_istore_n (lv' := [(3, .int v9), (2, .int x7.1), (0, .ref oh), (1, .ref ot)]) hx hb dL_isTogether_42 rfl hl (by decide) rfl (fun ls hl => ?_)
        refine lv_aload_n hx hb dL_isTogether_43 rfl (lv_at hl 2 rfl) ?_
        refine lv_iconst (v := 3) hx hb dL_isTogether_44 (by decide) ?_
        obtain ⟨x10, hx10, hf⟩ := obd_e hf
        refine sb_Vi (As := [.int 3]) (rest := []) ⟨hx, hb, hml, hown, hts⟩ (fun sz => c_X2_many l dC dI cI cF cJ cD oh fa tr q0 q1 q2 q3 q4 q5 q6 q7 q8 r0 r1 r2 r3 r4 r5 r6 r7 r8 rw Hb x1.2 x3.2 3 hr0 hr1 hr2 hr3 x10 hx10 sz) (cwV 1 hts (g_V q507 q508 q509 q172 q279) rfl rfl rfl pc_X2_many ⟨Nat.le_of_ble_eq_true rfl, Nat.le_of_ble_eq_true rfl⟩) 0 2 rfl rfl hK hP hD hS hA [7, 8, 9, 10, 11, 12, 13, 14, 15, 16, 17, 18, 19, 20, 21, 22, 23, 24, 25, 26] [0, 1, 2, 3, 4, 5, 6] rfl rfl (by decide) (by decide) (by decide) (fun _ _ _ _ h => h) (fun _ _ _ => trivial) rfl rfl hl.1 (Nat.le_of_ble_eq_true rfl) dL_isTogether_45 ⟨hkc, hks⟩ (fun r9 u H locs hr9 hP hD hS => ?_)
        have hr9 := Eq.symm hr9
        subst hr9
        have hP : va_P (dC, dI) vwCl (wTD cI cF cJ ot oh b ou od ow oa ob ok os x8.2 ++ (wHB cI cF cJ oh fa tr rw Hb ++ (wFR cI cF cJ q0 q1 q2 q3 q4 q5 q6 q7 q8 x1.2 ++ (wFR cI cF cJ r0 r1 r2 r3 r4 r5 r6 r7 r8 x3.2)))) H := hP
        have hD : va_D A (wTD cI cF cJ ot oh b ou od ow oa ob ok os x8.2 ++ (wHB cI cF cJ oh fa tr rw Hb ++ (wFR cI cF cJ q0 q1 q2 q3 q4 q5 q6 q7 q8 x1.2 ++ (wFR cI cF cJ r0 r1 r2 r3 r4 r5 r6 r7 r8 x3.2)))) := hD
        refine lv_istore (lv' := [(4, .int x10), (3, .int v9), (2, .int x7.1), (0, .ref oh), (1, .ref ot)]) hx hb dL_isTogether_48 hl (by decide) rfl (fun ls hl => ?_)
        refine lv_aload_n hx hb dL_isTogether_50 rfl (lv_at hl 4 rfl) ?_
        refine lv_iload_n hx hb dL_isTogether_51 rfl (lv_at hl 2 rfl) ?_
        refine lv_iconst (v := 1) hx hb dL_isTogether_52 (by decide) ?_
        refine lv_iadd hx hb dL_isTogether_53 ?_
        refine lv_topi (fun v11 ev11 => ?_)
        have hf := bnd_all hf v11 ev11
        obtain ⟨x12, hx12, hf⟩ := obd_e hf
        refine sb_Vi (As := [.int v11]) (rest := []) ⟨hx, hb, hml, hown, hts⟩ (fun sz => c_X3_draw l dC dI cI cF cJ cD b L xs tA tB ot oh ou od ow oa ob ok os x8.2 v11  x12 hx12 sz) (cwV 1 hts (g_V q510 q350 q351 q352 q339) rfl rfl rfl pc_X3_draw ⟨Nat.le_of_ble_eq_true rfl, Nat.le_of_ble_eq_true rfl⟩) 0 3 rfl rfl hK hP hD hS hA [0, 1, 2, 3, 4, 5, 6] [7, 8, 9, 10, 11, 12, 13, 14, 15, 16, 17, 18, 19, 20, 21, 22, 23, 24, 25, 26] rfl rfl (by decide) (by decide) (by decide) EX_blind (fun U hU hW => EX_pass hE hS (va_free hD hS hA [0, 1, 2, 3, 4, 5, 6] rfl) hU hW) rfl rfl hl.1 (Nat.le_of_ble_eq_true rfl) dL_isTogether_54 ⟨hkc, hks⟩ (fun r9 u H locs hr9 hP hD hS => ?_)
        have hr9 := Eq.symm hr9
        subst hr9
        have hP : va_P (dC, dI) vwCl (wTD cI cF cJ ot oh b ou od ow oa ob ok os x12.2 ++ (wHB cI cF cJ oh fa tr rw Hb ++ (wFR cI cF cJ q0 q1 q2 q3 q4 q5 q6 q7 q8 x1.2 ++ (wFR cI cF cJ r0 r1 r2 r3 r4 r5 r6 r7 r8 x3.2)))) H := hP.sub [20, 21, 22, 23, 24, 25, 26, 0, 1, 2, 3, 4, 5, 6, 7, 8, 9, 10, 11, 12, 13, 14, 15, 16, 17, 18, 19] rfl
        have hD : va_D A (wTD cI cF cJ ot oh b ou od ow oa ob ok os x12.2 ++ (wHB cI cF cJ oh fa tr rw Hb ++ (wFR cI cF cJ q0 q1 q2 q3 q4 q5 q6 q7 q8 x1.2 ++ (wFR cI cF cJ r0 r1 r2 r3 r4 r5 r6 r7 r8 x3.2)))) := hD.sub [20, 21, 22, 23, 24, 25, 26, 0, 1, 2, 3, 4, 5, 6, 7, 8, 9, 10, 11, 12, 13, 14, 15, 16, 17, 18, 19] (by decide) rfl
        refine lv_istore (lv' := [(5, .int x12.1), (4, .int x10), (3, .int v9), (2, .int x7.1), (0, .ref oh), (1, .ref ot)]) hx hb dL_isTogether_57 hl (by decide) rfl (fun ls hl => ?_)
        refine lv_iconst (v := 0) hx hb dL_isTogether_59 (by decide) ?_
        refine lv_istore (lv' := [(6, .int 0), (5, .int x12.1), (4, .int x10), (3, .int v9), (2, .int x7.1), (0, .ref oh), (1, .ref ot)]) hx hb dL_isTogether_60 hl (by decide) rfl (fun ls hl => ?_)
        refine lv_iload hx hb dL_isTogether_62 (lv_at hl 0 rfl) ?_
        refine lv_iconst (v := 2) hx hb dL_isTogether_64 (by decide) ?_
        refine lv_icmp_ge (tgt := 112) hx hb dL_isTogether_65 (by decide) (fun c9 => absurd c9 (by decide)) (fun _ => ?_)
        refine lv_aload_n hx hb dL_isTogether_68 rfl (lv_at hl 5 rfl) ?_
        refine lv_iload hx hb dL_isTogether_69 (lv_at hl 0 rfl) ?_
        refine lv_iload_n hx hb dL_isTogether_71 rfl (lv_at hl 4 rfl) ?_
        obtain ⟨x13, hx13, hf⟩ := obd_e hf
        refine sb_Vi (As := [.int 0, .int x7.1]) (rest := []) ⟨hx, hb, hml, hown, hts⟩ (fun sz => c_X2_add l dC dI cI cF cJ cD oh fa tr q0 q1 q2 q3 q4 q5 q6 q7 q8 rw Hb x1.2 0 x7.1 hq0 x13 hx13 sz) (cwV 2 hts (g_V q511 q416 q417 q172 q210) rfl rfl rfl pc_X2_add ⟨Nat.le_of_ble_eq_true rfl, Nat.le_of_ble_eq_true rfl⟩) 0 2 rfl rfl hK hP hD hS hA [7, 8, 9, 10, 11, 12, 13, 14, 15, 16, 17] [0, 1, 2, 3, 4, 5, 6, 18, 19, 20, 21, 22, 23, 24, 25, 26] rfl rfl (by decide) (by decide) (by decide) (fun _ _ _ _ h => h) (fun _ _ _ => trivial) rfl rfl hl.1 (Nat.le_of_ble_eq_true rfl) dL_isTogether_72 ⟨hkc, hks⟩ (fun r9 u H locs hr9 hP hD hS => ?_)
        have hr9 := Eq.symm hr9
        subst hr9
        have hP : va_P (dC, dI) vwCl (wTD cI cF cJ ot oh b ou od ow oa ob ok os x12.2 ++ (wHB cI cF cJ oh fa tr rw Hb ++ (wFR cI cF cJ q0 q1 q2 q3 q4 q5 q6 q7 q8 x13.2 ++ (wFR cI cF cJ r0 r1 r2 r3 r4 r5 r6 r7 r8 x3.2)))) H := hP.sub [0, 1, 2, 3, 4, 5, 6, 16, 17, 18, 19, 20, 21, 22, 23, 24, 25, 26, 7, 8, 9, 10, 11, 12, 13, 14, 15] rfl
        have hD : va_D A (wTD cI cF cJ ot oh b ou od ow oa ob ok os x12.2 ++ (wHB cI cF cJ oh fa tr rw Hb ++ (wFR cI cF cJ q0 q1 q2 q3 q4 q5 q6 q7 q8 x13.2 ++ (wFR cI cF cJ r0 r1 r2 r3 r4 r5 r6 r7 r8 x3.2)))) := hD.sub [0, 1, 2, 3, 4, 5, 6, 16, 17, 18, 19, 20, 21, 22, 23, 24, 25, 26, 7, 8, 9, 10, 11, 12, 13, 14, 15] (by decide) rfl
        refine lv_if_lt (tgt := 104) hx hb dL_isTogether_75 (by decide) (fun c14 => ?_) (fun c14 => ?_)
        · have hf := ite_t hf c14
          refine lv_iconst (v := 0) hx hb dL_isTogether_104 (by decide) ?_
          obtain rfl := Option.some.inj hf
          exact W.zret (v := 0) hx hb hr (by rfl) (fun t ht hW => ⟨⟨_, (), rfl, rfl, by rw [ht]; exact hP, hD⟩, hS.F ht⟩) hS.2.2 dL_isTogether_105
        · have hf := ite_f hf c14
          refine lv_aload_n hx hb dL_isTogether_78 rfl (lv_at hl 5 rfl) ?_
          refine lv_iload hx hb dL_isTogether_79 (lv_at hl 0 rfl) ?_
          refine lv_iload hx hb dL_isTogether_81 (lv_at hl 1 rfl) ?_
          obtain ⟨x15, hx15, hf⟩ := obd_e hf
          refine sb_Vi (As := [.int 0, .int x12.1]) (rest := []) ⟨hx, hb, hml, hown, hts⟩ (fun sz => c_X2_off l dC dI cI cF cJ cD oh fa tr q0 q1 q2 q3 q4 q5 q6 q7 q8 rw Hb x13.2 0 x12.1 hq0 x15 hx15 sz) (cwV 2 hts (g_V q512 q427 q428 q172 q216) rfl rfl rfl pc_X2_off ⟨Nat.le_of_ble_eq_true rfl, Nat.le_of_ble_eq_true rfl⟩) 0 2 rfl rfl hK hP hD hS hA [7, 8, 9, 10, 11, 12, 13, 14, 15, 16, 17] [0, 1, 2, 3, 4, 5, 6, 18, 19, 20, 21, 22, 23, 24, 25, 26] rfl rfl (by decide) (by decide) (by decide) (fun _ _ _ _ h => h) (fun _ _ _ => trivial) rfl rfl hl.1 (Nat.le_of_ble_eq_true rfl) dL_isTogether_83 ⟨hkc, hks⟩ (fun r9 u H locs hr9 hP hD hS => ?_)
          have hr9 := Eq.symm hr9
          subst hr9
          have hP : va_P (dC, dI) vwCl (wTD cI cF cJ ot oh b ou od ow oa ob ok os x12.2 ++ (wHB cI cF cJ oh fa tr rw Hb ++ (wFR cI cF cJ q0 q1 q2 q3 q4 q5 q6 q7 q8 x15.2 ++ (wFR cI cF cJ r0 r1 r2 r3 r4 r5 r6 r7 r8 x3.2)))) H := hP.sub [0, 1, 2, 3, 4, 5, 6, 16, 17, 18, 19, 20, 21, 22, 23, 24, 25, 26, 7, 8, 9, 10, 11, 12, 13, 14, 15] rfl
          have hD : va_D A (wTD cI cF cJ ot oh b ou od ow oa ob ok os x12.2 ++ (wHB cI cF cJ oh fa tr rw Hb ++ (wFR cI cF cJ q0 q1 q2 q3 q4 q5 q6 q7 q8 x15.2 ++ (wFR cI cF cJ r0 r1 r2 r3 r4 r5 r6 r7 r8 x3.2)))) := hD.sub [0, 1, 2, 3, 4, 5, 6, 16, 17, 18, 19, 20, 21, 22, 23, 24, 25, 26, 7, 8, 9, 10, 11, 12, 13, 14, 15] (by decide) rfl
          refine lv_if_lt (tgt := 104) hx hb dL_isTogether_86 (by decide) (fun c16 => ?_) (fun c16 => ?_)
          · have hf := ite_t hf c16
            refine lv_iconst (v := 0) hx hb dL_isTogether_104 (by decide) ?_
            obtain rfl := Option.some.inj hf
            exact W.zret (v := 0) hx hb hr (by rfl) (fun t ht hW => ⟨⟨_, (), rfl, rfl, by rw [ht]; exact hP, hD⟩, hS.F ht⟩) hS.2.2 dL_isTogether_105
          · have hf := ite_f hf c16
            refine lv_aload_n hx hb dL_isTogether_89 rfl (lv_at hl 5 rfl) ?_
            refine lv_iload hx hb dL_isTogether_90 (lv_at hl 0 rfl) ?_
            obtain ⟨x17, hx17, hf⟩ := obd_e hf
            refine sb_Vl (As := [.int 0]) (rest := []) ⟨hx, hb, hml, hown, hts⟩ (fun sz => c_X2_number l dC dI cI cF cJ cD oh fa tr q0 q1 q2 q3 q4 q5 q6 q7 q8 rw Hb x15.2 0 hq0 x17 hx17 sz) (cwV 1 hts (g_V q513 q514 q515 q172 q252) rfl rfl rfl pc_X2_number ⟨Nat.le_of_ble_eq_true rfl, Nat.le_of_ble_eq_true rfl⟩) 0 2 rfl rfl hK hP hD hS hA [7, 8, 9, 10, 11, 12, 13, 14, 15, 16, 17] [0, 1, 2, 3, 4, 5, 6, 18, 19, 20, 21, 22, 23, 24, 25, 26] rfl rfl (by decide) (by decide) (by decide) (fun _ _ _ _ h => h) (fun _ _ _ => trivial) rfl rfl hl.1 (Nat.le_of_ble_eq_true rfl) dL_isTogether_92 ⟨hkc, hks⟩ (fun r9 u H locs hr9 hP hD hS => ?_)
            have hr9 := Eq.symm hr9
            subst hr9
            have hP : va_P (dC, dI) vwCl (wTD cI cF cJ ot oh b ou od ow oa ob ok os x12.2 ++ (wHB cI cF cJ oh fa tr rw Hb ++ (wFR cI cF cJ q0 q1 q2 q3 q4 q5 q6 q7 q8 x15.2 ++ (wFR cI cF cJ r0 r1 r2 r3 r4 r5 r6 r7 r8 x3.2)))) H := hP.sub [0, 1, 2, 3, 4, 5, 6, 16, 17, 18, 19, 20, 21, 22, 23, 24, 25, 26, 7, 8, 9, 10, 11, 12, 13, 14, 15] rfl
            have hD : va_D A (wTD cI cF cJ ot oh b ou od ow oa ob ok os x12.2 ++ (wHB cI cF cJ oh fa tr rw Hb ++ (wFR cI cF cJ q0 q1 q2 q3 q4 q5 q6 q7 q8 x15.2 ++ (wFR cI cF cJ r0 r1 r2 r3 r4 r5 r6 r7 r8 x3.2)))) := hD.sub [0, 1, 2, 3, 4, 5, 6, 16, 17, 18, 19, 20, 21, 22, 23, 24, 25, 26, 7, 8, 9, 10, 11, 12, 13, 14, 15] (by decide) rfl
            refine lv_iload_n hx hb dL_isTogether_95 rfl (lv_at hl 4 rfl) ?_
            refine lv_iload hx hb dL_isTogether_96 (lv_at hl 1 rfl) ?_
            refine lv_isub hx hb dL_isTogether_98 ?_
            refine lv_topi (fun v18 ev18 => ?_)
            have hf := bnd_all hf v18 ev18
            refine lv_i2l hx hb dL_isTogether_99 rfl ?_
            refine lv_topl (fun v19 ev19 => ?_)
            have hf := bnd_all hf v19 ev19
            refine W.lcmp hx hb dL_isTogether_100 ?_
            refine lv_topi (fun v20 ev20 => ?_)
            have hf := bnd_all hf v20 ev20
            refine lv_if_eq (tgt := 106) hx hb dL_isTogether_101 (by decide) (fun c21 => ?_) (fun c21 => ?_)
            · have hf := ite_t hf c21
              refine lv_iinc (v := 1) (lv' := [(6, .int 1), (5, .int x12.1), (4, .int x10), (3, .int v9), (2, .int x7.1), (0, .ref oh), (1, .ref ot)]) hx hb dL_isTogether_106 hl (k := 0) rfl (by decide) (by decide) rfl (fun ls hl => ?_)
              refine lv_goto (tgt := 62) hx hb dL_isTogether_109 (by decide) ?_
              refine lv_iload hx hb dL_isTogether_62 (lv_at hl 0 rfl) ?_
              refine lv_iconst (v := 2) hx hb dL_isTogether_64 (by decide) ?_
              refine lv_icmp_ge (tgt := 112) hx hb dL_isTogether_65 (by decide) (fun c9 => absurd c9 (by decide)) (fun _ => ?_)
              refine lv_aload_n hx hb dL_isTogether_68 rfl (lv_at hl 5 rfl) ?_
              refine lv_iload hx hb dL_isTogether_69 (lv_at hl 0 rfl) ?_
              refine lv_iload_n hx hb dL_isTogether_71 rfl (lv_at hl 4 rfl) ?_
              obtain ⟨x22, hx22, hf⟩ := obd_e hf
              refine sb_Vi (As := [.int 1, .int x7.1]) (rest := []) ⟨hx, hb, hml, hown, hts⟩ (fun sz => c_X2_add l dC dI cI cF cJ cD oh fa tr r0 r1 r2 r3 r4 r5 r6 r7 r8 rw Hb x3.2 1 x7.1 hq1 x22 hx22 sz) (cwV 2 hts (g_V q511 q416 q417 q172 q210) rfl rfl rfl pc_X2_add ⟨Nat.le_of_ble_eq_true rfl, Nat.le_of_ble_eq_true rfl⟩) 0 2 rfl rfl hK hP hD hS hA [7, 8, 18, 19, 20, 21, 22, 23, 24, 25, 26] [0, 1, 2, 3, 4, 5, 6, 9, 10, 11, 12, 13, 14, 15, 16, 17] rfl rfl (by decide) (by decide) (by decide) (fun _ _ _ _ h => h) (fun _ _ _ => trivial) rfl rfl hl.1 (Nat.le_of_ble_eq_true rfl) dL_isTogether_72 ⟨hkc, hks⟩ (fun r9 u H locs hr9 hP hD hS => ?_)
              have hr9 := Eq.symm hr9
              subst hr9
              have hP : va_P (dC, dI) vwCl (wTD cI cF cJ ot oh b ou od ow oa ob ok os x12.2 ++ (wHB cI cF cJ oh fa tr rw Hb ++ (wFR cI cF cJ q0 q1 q2 q3 q4 q5 q6 q7 q8 x15.2 ++ (wFR cI cF cJ r0 r1 r2 r3 r4 r5 r6 r7 r8 x22.2)))) H := hP.sub [0, 1, 2, 3, 4, 5, 6, 16, 17, 7, 8, 9, 10, 11, 12, 13, 14, 15, 18, 19, 20, 21, 22, 23, 24, 25, 26] rfl
              have hD : va_D A (wTD cI cF cJ ot oh b ou od ow oa ob ok os x12.2 ++ (wHB cI cF cJ oh fa tr rw Hb ++ (wFR cI cF cJ q0 q1 q2 q3 q4 q5 q6 q7 q8 x15.2 ++ (wFR cI cF cJ r0 r1 r2 r3 r4 r5 r6 r7 r8 x22.2)))) := hD.sub [0, 1, 2, 3, 4, 5, 6, 16, 17, 7, 8, 9, 10, 11, 12, 13, 14, 15, 18, 19, 20, 21, 22, 23, 24, 25, 26] (by decide) rfl
              refine lv_if_lt (tgt := 104) hx hb dL_isTogether_75 (by decide) (fun c23 => ?_) (fun c23 => ?_)
              · have hf := ite_t hf c23
                refine lv_iconst (v := 0) hx hb dL_isTogether_104 (by decide) ?_
                obtain rfl := Option.some.inj hf
                exact W.zret (v := 0) hx hb hr (by rfl) (fun t ht hW => ⟨⟨_, (), rfl, rfl, by rw [ht]; exact hP, hD⟩, hS.F ht⟩) hS.2.2 dL_isTogether_105
              · have hf := ite_f hf c23
                refine lv_aload_n hx hb dL_isTogether_78 rfl (lv_at hl 5 rfl) ?_
                refine lv_iload hx hb dL_isTogether_79 (lv_at hl 0 rfl) ?_
                refine lv_iload hx hb dL_isTogether_81 (lv_at hl 1 rfl) ?_
                obtain ⟨x24, hx24, hf⟩ := obd_e hf
                refine sb_Vi (As := [.int 1, .int x12.1]) (rest := []) ⟨hx, hb, hml, hown, hts⟩ (fun sz => c_X2_off l dC dI cI cF cJ cD oh fa tr r0 r1 r2 r3 r4 r5 r6 r7 r8 rw Hb x22.2 1 x12.1 hq1 x24 hx24 sz) (cwV 2 hts (g_V q512 q427 q428 q172 q216) rfl rfl rfl pc_X2_off ⟨Nat.le_of_ble_eq_true rfl, Nat.le_of_ble_eq_true rfl⟩) 0 2 rfl rfl hK hP hD hS hA [7, 8, 18, 19, 20, 21, 22, 23, 24, 25, 26] [0, 1, 2, 3, 4, 5, 6, 9, 10, 11, 12, 13, 14, 15, 16, 17] rfl rfl (by decide) (by decide) (by decide) (fun _ _ _ _ h => h) (fun _ _ _ => trivial) rfl rfl hl.1 (Nat.le_of_ble_eq_true rfl) dL_isTogether_83 ⟨hkc, hks⟩ (fun r9 u H locs hr9 hP hD hS => ?_)
                have hr9 := Eq.symm hr9
                subst hr9
                have hP : va_P (dC, dI) vwCl (wTD cI cF cJ ot oh b ou od ow oa ob ok os x12.2 ++ (wHB cI cF cJ oh fa tr rw Hb ++ (wFR cI cF cJ q0 q1 q2 q3 q4 q5 q6 q7 q8 x15.2 ++ (wFR cI cF cJ r0 r1 r2 r3 r4 r5 r6 r7 r8 x24.2)))) H := hP.sub [0, 1, 2, 3, 4, 5, 6, 16, 17, 7, 8, 9, 10, 11, 12, 13, 14, 15, 18, 19, 20, 21, 22, 23, 24, 25, 26] rfl
                have hD : va_D A (wTD cI cF cJ ot oh b ou od ow oa ob ok os x12.2 ++ (wHB cI cF cJ oh fa tr rw Hb ++ (wFR cI cF cJ q0 q1 q2 q3 q4 q5 q6 q7 q8 x15.2 ++ (wFR cI cF cJ r0 r1 r2 r3 r4 r5 r6 r7 r8 x24.2)))) := hD.sub [0, 1, 2, 3, 4, 5, 6, 16, 17, 7, 8, 9, 10, 11, 12, 13, 14, 15, 18, 19, 20, 21, 22, 23, 24, 25, 26] (by decide) rfl
                refine lv_if_lt (tgt := 104) hx hb dL_isTogether_86 (by decide) (fun c25 => ?_) (fun c25 => ?_)
                · have hf := ite_t hf c25
                  refine lv_iconst (v := 0) hx hb dL_isTogether_104 (by decide) ?_
                  obtain rfl := Option.some.inj hf
                  exact W.zret (v := 0) hx hb hr (by rfl) (fun t ht hW => ⟨⟨_, (), rfl, rfl, by rw [ht]; exact hP, hD⟩, hS.F ht⟩) hS.2.2 dL_isTogether_105
                · have hf := ite_f hf c25
                  refine lv_aload_n hx hb dL_isTogether_89 rfl (lv_at hl 5 rfl) ?_
                  refine lv_iload hx hb dL_isTogether_90 (lv_at hl 0 rfl) ?_
                  obtain ⟨x26, hx26, hf⟩ := obd_e hf
                  refine sb_Vl (As := [.int 1]) (rest := []) ⟨hx, hb, hml, hown, hts⟩ (fun sz => c_X2_number l dC dI cI cF cJ cD oh fa tr r0 r1 r2 r3 r4 r5 r6 r7 r8 rw Hb x24.2 1 hq1 x26 hx26 sz) (cwV 1 hts (g_V q513 q514 q515 q172 q252) rfl rfl rfl pc_X2_number ⟨Nat.le_of_ble_eq_true rfl, Nat.le_of_ble_eq_true rfl⟩) 0 2 rfl rfl hK hP hD hS hA [7, 8, 18, 19, 20, 21, 22, 23, 24, 25, 26] [0, 1, 2, 3, 4, 5, 6, 9, 10, 11, 12, 13, 14, 15, 16, 17] rfl rfl (by decide) (by decide) (by decide) (fun _ _ _ _ h => h) (fun _ _ _ => trivial) rfl rfl hl.1 (Nat.le_of_ble_eq_true rfl) dL_isTogether_92 ⟨hkc, hks⟩ (fun r9 u H locs hr9 hP hD hS => ?_)
                  have hr9 := Eq.symm hr9
                  subst hr9
                  have hP : va_P (dC, dI) vwCl (wTD cI cF cJ ot oh b ou od ow oa ob ok os x12.2 ++ (wHB cI cF cJ oh fa tr rw Hb ++ (wFR cI cF cJ q0 q1 q2 q3 q4 q5 q6 q7 q8 x15.2 ++ (wFR cI cF cJ r0 r1 r2 r3 r4 r5 r6 r7 r8 x24.2)))) H := hP.sub [0, 1, 2, 3, 4, 5, 6, 16, 17, 7, 8, 9, 10, 11, 12, 13, 14, 15, 18, 19, 20, 21, 22, 23, 24, 25, 26] rfl
                  have hD : va_D A (wTD cI cF cJ ot oh b ou od ow oa ob ok os x12.2 ++ (wHB cI cF cJ oh fa tr rw Hb ++ (wFR cI cF cJ q0 q1 q2 q3 q4 q5 q6 q7 q8 x15.2 ++ (wFR cI cF cJ r0 r1 r2 r3 r4 r5 r6 r7 r8 x24.2)))) := hD.sub [0, 1, 2, 3, 4, 5, 6, 16, 17, 7, 8, 9, 10, 11, 12, 13, 14, 15, 18, 19, 20, 21, 22, 23, 24, 25, 26] (by decide) rfl
                  refine lv_iload_n hx hb dL_isTogether_95 rfl (lv_at hl 4 rfl) ?_
                  refine lv_iload hx hb dL_isTogether_96 (lv_at hl 1 rfl) ?_
                  refine lv_isub hx hb dL_isTogether_98 ?_
                  refine lv_topi (fun v27 ev27 => ?_)
                  have hf := bnd_all hf v27 ev27
                  refine lv_i2l hx hb dL_isTogether_99 rfl ?_
                  refine lv_topl (fun v28 ev28 => ?_)
                  have hf := bnd_all hf v28 ev28
                  refine W.lcmp hx hb dL_isTogether_100 ?_
                  refine lv_topi (fun v29 ev29 => ?_)
                  have hf := bnd_all hf v29 ev29
                  refine lv_if_eq (tgt := 106) hx hb dL_isTogether_101 (by decide) (fun c30 => ?_) (fun c30 => ?_)
                  · have hf := ite_t hf c30
                    refine lv_iinc (v := 2) (lv' := [(6, .int 2), (5, .int x12.1), (4, .int x10), (3, .int v9), (2, .int x7.1), (0, .ref oh), (1, .ref ot)]) hx hb dL_isTogether_106 hl (k := 0) rfl (by decide) (by decide) rfl (fun ls hl => ?_)
                    refine lv_goto (tgt := 62) hx hb dL_isTogether_109 (by decide) ?_
                    refine lv_iload hx hb dL_isTogether_62 (lv_at hl 0 rfl) ?_
                    refine lv_iconst (v := 2) hx hb dL_isTogether_64 (by decide) ?_
                    refine lv_icmp_ge (tgt := 112) hx hb dL_isTogether_65 (by decide) (fun _ => ?_) (fun c9 => absurd (by decide) c9)
                    refine lv_aload_n hx hb dL_isTogether_112 rfl (lv_at hl 5 rfl) ?_
                    refine lv_iconst (v := 0) hx hb dL_isTogether_113 (by decide) ?_
                    refine lv_iload_n hx hb dL_isTogether_114 rfl (lv_at hl 3 rfl) ?_
                    obtain ⟨x31, hx31, hf⟩ := obd_e hf
                    refine sb_Vi (As := [.int 0, .int v9]) (rest := []) ⟨hx, hb, hml, hown, hts⟩ (fun sz => c_X2_divide l dC dI cI cF cJ cD oh fa tr q0 q1 q2 q3 q4 q5 q6 q7 q8 rw Hb x15.2 0 v9 hq0 x31 hx31 sz) (cwV 2 hts (g_V q516 q435 q436 q172 q225) rfl rfl rfl pc_X2_divide ⟨Nat.le_of_ble_eq_true rfl, Nat.le_of_ble_eq_true rfl⟩) 0 2 rfl rfl hK hP hD hS hA [7, 8, 9, 10, 11, 12, 13, 14, 15, 16, 17] [0, 1, 2, 3, 4, 5, 6, 18, 19, 20, 21, 22, 23, 24, 25, 26] rfl rfl (by decide) (by decide) (by decide) (fun _ _ _ _ h => h) (fun _ _ _ => trivial) rfl rfl hl.1 (Nat.le_of_ble_eq_true rfl) dL_isTogether_115 ⟨hkc, hks⟩ (fun r9 u H locs hr9 hP hD hS => ?_)
                    have hr9 := Eq.symm hr9
                    subst hr9
                    have hP : va_P (dC, dI) vwCl (wTD cI cF cJ ot oh b ou od ow oa ob ok os x12.2 ++ (wHB cI cF cJ oh fa tr rw Hb ++ (wFR cI cF cJ q0 q1 q2 q3 q4 q5 q6 q7 q8 x31.2 ++ (wFR cI cF cJ r0 r1 r2 r3 r4 r5 r6 r7 r8 x24.2)))) H := hP.sub [0, 1, 2, 3, 4, 5, 6, 16, 17, 18, 19, 20, 21, 22, 23, 24, 25, 26, 7, 8, 9, 10, 11, 12, 13, 14, 15] rfl
                    have hD : va_D A (wTD cI cF cJ ot oh b ou od ow oa ob ok os x12.2 ++ (wHB cI cF cJ oh fa tr rw Hb ++ (wFR cI cF cJ q0 q1 q2 q3 q4 q5 q6 q7 q8 x31.2 ++ (wFR cI cF cJ r0 r1 r2 r3 r4 r5 r6 r7 r8 x24.2)))) := hD.sub [0, 1, 2, 3, 4, 5, 6, 16, 17, 18, 19, 20, 21, 22, 23, 24, 25, 26, 7, 8, 9, 10, 11, 12, 13, 14, 15] (by decide) rfl
                    refine lv_istore (lv' := [(6, .int x31.1), (5, .int x12.1), (4, .int x10), (3, .int v9), (2, .int x7.1), (0, .ref oh), (1, .ref ot)]) hx hb dL_isTogether_118 hl (by decide) rfl (fun ls hl => ?_)
                    refine lv_aload_n hx hb dL_isTogether_120 rfl (lv_at hl 5 rfl) ?_
                    refine lv_iconst (v := 1) hx hb dL_isTogether_121 (by decide) ?_
                    refine lv_iload_n hx hb dL_isTogether_122 rfl (lv_at hl 3 rfl) ?_
                    obtain ⟨x32, hx32, hf⟩ := obd_e hf
                    refine sb_Vi (As := [.int 1, .int v9]) (rest := []) ⟨hx, hb, hml, hown, hts⟩ (fun sz => c_X2_divide l dC dI cI cF cJ cD oh fa tr r0 r1 r2 r3 r4 r5 r6 r7 r8 rw Hb x24.2 1 v9 hq1 x32 hx32 sz) (cwV 2 hts (g_V q516 q435 q436 q172 q225) rfl rfl rfl pc_X2_divide ⟨Nat.le_of_ble_eq_true rfl, Nat.le_of_ble_eq_true rfl⟩) 0 2 rfl rfl hK hP hD hS hA [7, 8, 18, 19, 20, 21, 22, 23, 24, 25, 26] [0, 1, 2, 3, 4, 5, 6, 9, 10, 11, 12, 13, 14, 15, 16, 17] rfl rfl (by decide) (by decide) (by decide) (fun _ _ _ _ h => h) (fun _ _ _ => trivial) rfl rfl hl.1 (Nat.le_of_ble_eq_true rfl) dL_isTogether_123 ⟨hkc, hks⟩ (fun r9 u H locs hr9 hP hD hS => ?_)
                    have hr9 := Eq.symm hr9
                    subst hr9
                    have hP : va_P (dC, dI) vwCl (wTD cI cF cJ ot oh b ou od ow oa ob ok os x12.2 ++ (wHB cI cF cJ oh fa tr rw Hb ++ (wFR cI cF cJ q0 q1 q2 q3 q4 q5 q6 q7 q8 x31.2 ++ (wFR cI cF cJ r0 r1 r2 r3 r4 r5 r6 r7 r8 x32.2)))) H := hP.sub [0, 1, 2, 3, 4, 5, 6, 16, 17, 7, 8, 9, 10, 11, 12, 13, 14, 15, 18, 19, 20, 21, 22, 23, 24, 25, 26] rfl
                    have hD : va_D A (wTD cI cF cJ ot oh b ou od ow oa ob ok os x12.2 ++ (wHB cI cF cJ oh fa tr rw Hb ++ (wFR cI cF cJ q0 q1 q2 q3 q4 q5 q6 q7 q8 x31.2 ++ (wFR cI cF cJ r0 r1 r2 r3 r4 r5 r6 r7 r8 x32.2)))) := hD.sub [0, 1, 2, 3, 4, 5, 6, 16, 17, 7, 8, 9, 10, 11, 12, 13, 14, 15, 18, 19, 20, 21, 22, 23, 24, 25, 26] (by decide) rfl
                    refine lv_iload hx hb dL_isTogether_126 (lv_at hl 0 rfl) ?_
                    refine lv_icmp_ne (tgt := 177) hx hb dL_isTogether_128 (by decide) (fun c33 => ?_) (fun c33 => ?_)
                    · have hf := ite_f hf c33
                      refine lv_iconst (v := 0) hx hb dL_isTogether_177 (by decide) ?_
                      obtain rfl := Option.some.inj hf
                      exact W.zret (v := 0) hx hb hr (by rfl) (fun t ht hW => ⟨⟨_, (), rfl, rfl, by rw [ht]; exact hP, hD⟩, hS.F ht⟩) hS.2.2 dL_isTogether_178
                    · have hf := ite_t hf c33
                      refine lv_iload hx hb dL_isTogether_131 (lv_at hl 0 rfl) ?_
                      refine lv_iload_n hx hb dL_isTogether_133 rfl (lv_at hl 4 rfl) ?_
                      refine lv_iload hx hb dL_isTogether_134 (lv_at hl 1 rfl) ?_
                      refine lv_isub hx hb dL_isTogether_136 ?_
                      refine lv_topi (fun v34 ev34 => ?_)
                      have hf := bnd_all hf v34 ev34
                      refine lv_iload_n hx hb dL_isTogether_137 rfl (lv_at hl 3 rfl) ?_
                      obtain ⟨g35, hf⟩ := gd_e hf
                      refine lv_irem hx hb dL_isTogether_138 (nz32_e g35) ?_
                      refine lv_topi (fun v36 ev36 => ?_)
                      have hf := bnd_all hf v36 ev36
                      refine lv_icmp_ne (tgt := 177) hx hb dL_isTogether_139 (by decide) (fun c37 => ?_) (fun c37 => ?_)
                      · have hf := ite_f hf c37
                        refine lv_iconst (v := 0) hx hb dL_isTogether_177 (by decide) ?_
                        obtain rfl := Option.some.inj hf
                        exact W.zret (v := 0) hx hb hr (by rfl) (fun t ht hW => ⟨⟨_, (), rfl, rfl, by rw [ht]; exact hP, hD⟩, hS.F ht⟩) hS.2.2 dL_isTogether_178
                      · have hf := ite_t hf c37
                        refine lv_aload_n hx hb dL_isTogether_142 rfl (lv_at hl 5 rfl) ?_
                        refine lv_iconst (v := 0) hx hb dL_isTogether_143 (by decide) ?_
                        obtain ⟨x38, hx38, hf⟩ := obd_e hf
                        refine sb_Vl (As := [.int 0]) (rest := []) ⟨hx, hb, hml, hown, hts⟩ (fun sz => c_X2_number l dC dI cI cF cJ cD oh fa tr q0 q1 q2 q3 q4 q5 q6 q7 q8 rw Hb x31.2 0 hq0 x38 hx38 sz) (cwV 1 hts (g_V q513 q514 q515 q172 q252) rfl rfl rfl pc_X2_number ⟨Nat.le_of_ble_eq_true rfl, Nat.le_of_ble_eq_true rfl⟩) 0 2 rfl rfl hK hP hD hS hA [7, 8, 9, 10, 11, 12, 13, 14, 15, 16, 17] [0, 1, 2, 3, 4, 5, 6, 18, 19, 20, 21, 22, 23, 24, 25, 26] rfl rfl (by decide) (by decide) (by decide) (fun _ _ _ _ h => h) (fun _ _ _ => trivial) rfl rfl hl.1 (Nat.le_of_ble_eq_true rfl) dL_isTogether_144 ⟨hkc, hks⟩ (fun r9 u H locs hr9 hP hD hS => ?_)
                        have hr9 := Eq.symm hr9
                        subst hr9
                        have hP : va_P (dC, dI) vwCl (wTD cI cF cJ ot oh b ou od ow oa ob ok os x12.2 ++ (wHB cI cF cJ oh fa tr rw Hb ++ (wFR cI cF cJ q0 q1 q2 q3 q4 q5 q6 q7 q8 x31.2 ++ (wFR cI cF cJ r0 r1 r2 r3 r4 r5 r6 r7 r8 x32.2)))) H := hP.sub [0, 1, 2, 3, 4, 5, 6, 16, 17, 18, 19, 20, 21, 22, 23, 24, 25, 26, 7, 8, 9, 10, 11, 12, 13, 14, 15] rfl
                        have hD : va_D A (wTD cI cF cJ ot oh b ou od ow oa ob ok os x12.2 ++ (wHB cI cF cJ oh fa tr rw Hb ++ (wFR cI cF cJ q0 q1 q2 q3 q4 q5 q6 q7 q8 x31.2 ++ (wFR cI cF cJ r0 r1 r2 r3 r4 r5 r6 r7 r8 x32.2)))) := hD.sub [0, 1, 2, 3, 4, 5, 6, 16, 17, 18, 19, 20, 21, 22, 23, 24, 25, 26, 7, 8, 9, 10, 11, 12, 13, 14, 15] (by decide) rfl
                        refine lv_iload_n hx hb dL_isTogether_147 rfl (lv_at hl 4 rfl) ?_
                        refine lv_iload hx hb dL_isTogether_148 (lv_at hl 1 rfl) ?_
                        refine lv_isub hx hb dL_isTogether_150 ?_
                        refine lv_topi (fun v39 ev39 => ?_)
                        have hf := bnd_all hf v39 ev39
                        refine lv_iload_n hx hb dL_isTogether_151 rfl (lv_at hl 3 rfl) ?_
                        obtain ⟨g40, hf⟩ := gd_e hf
                        refine lv_idiv hx hb dL_isTogether_152 (nz32_e g40) ?_
                        refine lv_topi (fun v41 ev41 => ?_)
                        have hf := bnd_all hf v41 ev41
                        refine lv_i2l hx hb dL_isTogether_153 rfl ?_
                        refine lv_topl (fun v42 ev42 => ?_)
                        have hf := bnd_all hf v42 ev42
                        refine W.lcmp hx hb dL_isTogether_154 ?_
                        refine lv_topi (fun v43 ev43 => ?_)
                        have hf := bnd_all hf v43 ev43
                        refine lv_if_ne (tgt := 177) hx hb dL_isTogether_155 (by decide) (fun c44 => ?_) (fun c44 => ?_)
                        · have hf := ite_f hf c44
                          refine lv_iconst (v := 0) hx hb dL_isTogether_177 (by decide) ?_
                          obtain rfl := Option.some.inj hf
                          exact W.zret (v := 0) hx hb hr (by rfl) (fun t ht hW => ⟨⟨_, (), rfl, rfl, by rw [ht]; exact hP, hD⟩, hS.F ht⟩) hS.2.2 dL_isTogether_178
                        · have hf := ite_t hf c44
                          refine lv_aload_n hx hb dL_isTogether_158 rfl (lv_at hl 5 rfl) ?_
                          refine lv_iconst (v := 4) hx hb dL_isTogether_159 (by decide) ?_
                          obtain ⟨x45, hx45, hf⟩ := obd_e hf
                          refine sb_Vi (As := [.int 4]) (rest := []) ⟨hx, hb, hml, hown, hts⟩ (fun sz => c_X2_many l dC dI cI cF cJ cD oh fa tr q0 q1 q2 q3 q4 q5 q6 q7 q8 r0 r1 r2 r3 r4 r5 r6 r7 r8 rw Hb x31.2 x32.2 4 hr0 hr1 hr2 hr3 x45 hx45 sz) (cwV 1 hts (g_V q507 q508 q509 q172 q279) rfl rfl rfl pc_X2_many ⟨Nat.le_of_ble_eq_true rfl, Nat.le_of_ble_eq_true rfl⟩) 0 2 rfl rfl hK hP hD hS hA [7, 8, 9, 10, 11, 12, 13, 14, 15, 16, 17, 18, 19, 20, 21, 22, 23, 24, 25, 26] [0, 1, 2, 3, 4, 5, 6] rfl rfl (by decide) (by decide) (by decide) (fun _ _ _ _ h => h) (fun _ _ _ => trivial) rfl rfl hl.1 (Nat.le_of_ble_eq_true rfl) dL_isTogether_160 ⟨hkc, hks⟩ (fun r9 u H locs hr9 hP hD hS => ?_)
                          have hr9 := Eq.symm hr9
                          subst hr9
                          have hP : va_P (dC, dI) vwCl (wTD cI cF cJ ot oh b ou od ow oa ob ok os x12.2 ++ (wHB cI cF cJ oh fa tr rw Hb ++ (wFR cI cF cJ q0 q1 q2 q3 q4 q5 q6 q7 q8 x31.2 ++ (wFR cI cF cJ r0 r1 r2 r3 r4 r5 r6 r7 r8 x32.2)))) H := hP
                          have hD : va_D A (wTD cI cF cJ ot oh b ou od ow oa ob ok os x12.2 ++ (wHB cI cF cJ oh fa tr rw Hb ++ (wFR cI cF cJ q0 q1 q2 q3 q4 q5 q6 q7 q8 x31.2 ++ (wFR cI cF cJ r0 r1 r2 r3 r4 r5 r6 r7 r8 x32.2)))) := hD
                          refine lv_iconst (v := 1) hx hb dL_isTogether_163 (by decide) ?_
                          refine lv_icmp_ne (tgt := 177) hx hb dL_isTogether_164 (by decide) (fun c46 => ?_) (fun c46 => ?_)
                          · have hf := ite_f hf c46
                            refine lv_iconst (v := 0) hx hb dL_isTogether_177 (by decide) ?_
                            obtain rfl := Option.some.inj hf
                            exact W.zret (v := 0) hx hb hr (by rfl) (fun t ht hW => ⟨⟨_, (), rfl, rfl, by rw [ht]; exact hP, hD⟩, hS.F ht⟩) hS.2.2 dL_isTogether_178
                          · have hf := ite_t hf c46
                            refine lv_aload_n hx hb dL_isTogether_167 rfl (lv_at hl 5 rfl) ?_
                            refine lv_iconst (v := 3) hx hb dL_isTogether_168 (by decide) ?_
                            obtain ⟨x47, hx47, hf⟩ := obd_e hf
                            refine sb_Vi (As := [.int 3]) (rest := []) ⟨hx, hb, hml, hown, hts⟩ (fun sz => c_X2_many l dC dI cI cF cJ cD oh fa tr q0 q1 q2 q3 q4 q5 q6 q7 q8 r0 r1 r2 r3 r4 r5 r6 r7 r8 rw Hb x31.2 x32.2 3 hr0 hr1 hr2 hr3 x47 hx47 sz) (cwV 1 hts (g_V q507 q508 q509 q172 q279) rfl rfl rfl pc_X2_many ⟨Nat.le_of_ble_eq_true rfl, Nat.le_of_ble_eq_true rfl⟩) 0 2 rfl rfl hK hP hD hS hA [7, 8, 9, 10, 11, 12, 13, 14, 15, 16, 17, 18, 19, 20, 21, 22, 23, 24, 25, 26] [0, 1, 2, 3, 4, 5, 6] rfl rfl (by decide) (by decide) (by decide) (fun _ _ _ _ h => h) (fun _ _ _ => trivial) rfl rfl hl.1 (Nat.le_of_ble_eq_true rfl) dL_isTogether_169 ⟨hkc, hks⟩ (fun r9 u H locs hr9 hP hD hS => ?_)
                            have hr9 := Eq.symm hr9
                            subst hr9
                            have hP : va_P (dC, dI) vwCl (wTD cI cF cJ ot oh b ou od ow oa ob ok os x12.2 ++ (wHB cI cF cJ oh fa tr rw Hb ++ (wFR cI cF cJ q0 q1 q2 q3 q4 q5 q6 q7 q8 x31.2 ++ (wFR cI cF cJ r0 r1 r2 r3 r4 r5 r6 r7 r8 x32.2)))) H := hP
                            have hD : va_D A (wTD cI cF cJ ot oh b ou od ow oa ob ok os x12.2 ++ (wHB cI cF cJ oh fa tr rw Hb ++ (wFR cI cF cJ q0 q1 q2 q3 q4 q5 q6 q7 q8 x31.2 ++ (wFR cI cF cJ r0 r1 r2 r3 r4 r5 r6 r7 r8 x32.2)))) := hD
                            refine lv_iload hx hb dL_isTogether_172 (lv_at hl 2 rfl) ?_
                            refine lv_icmp_eq (tgt := 179) hx hb dL_isTogether_174 (by decide) (fun c48 => ?_) (fun c48 => ?_)
                            · have hf := ite_t hf c48
                              refine lv_aload_n hx hb dL_isTogether_179 rfl (lv_at hl 5 rfl) ?_
                              refine lv_iconst (v := 0) hx hb dL_isTogether_180 (by decide) ?_
                              refine lv_iload_n hx hb dL_isTogether_181 rfl (lv_at hl 3 rfl) ?_
                              obtain ⟨x49, hx49, hf⟩ := obd_e hf
                              refine sb_Vi (As := [.int 0, .int v9]) (rest := []) ⟨hx, hb, hml, hown, hts⟩ (fun sz => c_X2_times l dC dI cI cF cJ cD oh fa tr q0 q1 q2 q3 q4 q5 q6 q7 q8 rw Hb x31.2 0 v9 hq0 x49 hx49 sz) (cwV 2 hts (g_V q517 q431 q432 q172 q221) rfl rfl rfl pc_X2_times ⟨Nat.le_of_ble_eq_true rfl, Nat.le_of_ble_eq_true rfl⟩) 0 2 rfl rfl hK hP hD hS hA [7, 8, 9, 10, 11, 12, 13, 14, 15, 16, 17] [0, 1, 2, 3, 4, 5, 6, 18, 19, 20, 21, 22, 23, 24, 25, 26] rfl rfl (by decide) (by decide) (by decide) (fun _ _ _ _ h => h) (fun _ _ _ => trivial) rfl rfl hl.1 (Nat.le_of_ble_eq_true rfl) dL_isTogether_182 ⟨hkc, hks⟩ (fun r9 u H locs hr9 hP hD hS => ?_)
                              have hr9 := Eq.symm hr9
                              subst hr9
                              have hP : va_P (dC, dI) vwCl (wTD cI cF cJ ot oh b ou od ow oa ob ok os x12.2 ++ (wHB cI cF cJ oh fa tr rw Hb ++ (wFR cI cF cJ q0 q1 q2 q3 q4 q5 q6 q7 q8 x49.2 ++ (wFR cI cF cJ r0 r1 r2 r3 r4 r5 r6 r7 r8 x32.2)))) H := hP.sub [0, 1, 2, 3, 4, 5, 6, 16, 17, 18, 19, 20, 21, 22, 23, 24, 25, 26, 7, 8, 9, 10, 11, 12, 13, 14, 15] rfl
                              have hD : va_D A (wTD cI cF cJ ot oh b ou od ow oa ob ok os x12.2 ++ (wHB cI cF cJ oh fa tr rw Hb ++ (wFR cI cF cJ q0 q1 q2 q3 q4 q5 q6 q7 q8 x49.2 ++ (wFR cI cF cJ r0 r1 r2 r3 r4 r5 r6 r7 r8 x32.2)))) := hD.sub [0, 1, 2, 3, 4, 5, 6, 16, 17, 18, 19, 20, 21, 22, 23, 24, 25, 26, 7, 8, 9, 10, 11, 12, 13, 14, 15] (by decide) rfl
                              refine lv_if_ne (tgt := 230) hx hb dL_isTogether_185 (by decide) (fun c50 => ?_) (fun c50 => ?_)
                              · have hf := ite_f hf c50
                                refine lv_iconst (v := 0) hx hb dL_isTogether_230 (by decide) ?_
                                obtain rfl := Option.some.inj hf
                                exact W.zret (v := 0) hx hb hr (by rfl) (fun t ht hW => ⟨⟨_, (), rfl, rfl, by rw [ht]; exact hP, hD⟩, hS.F ht⟩) hS.2.2 dL_isTogether_231
                              · have hf := ite_t hf c50
                                refine lv_aload_n hx hb dL_isTogether_188 rfl (lv_at hl 5 rfl) ?_
                                refine lv_iconst (v := 0) hx hb dL_isTogether_189 (by decide) ?_
                                refine lv_iload hx hb dL_isTogether_190 (lv_at hl 0 rfl) ?_
                                obtain ⟨x51, hx51, hf⟩ := obd_e hf
                                refine sb_Vi (As := [.int 0, .int x31.1]) (rest := []) ⟨hx, hb, hml, hown, hts⟩ (fun sz => c_X2_add l dC dI cI cF cJ cD oh fa tr q0 q1 q2 q3 q4 q5 q6 q7 q8 rw Hb x49.2 0 x31.1 hq0 x51 hx51 sz) (cwV 2 hts (g_V q511 q416 q417 q172 q210) rfl rfl rfl pc_X2_add ⟨Nat.le_of_ble_eq_true rfl, Nat.le_of_ble_eq_true rfl⟩) 0 2 rfl rfl hK hP hD hS hA [7, 8, 9, 10, 11, 12, 13, 14, 15, 16, 17] [0, 1, 2, 3, 4, 5, 6, 18, 19, 20, 21, 22, 23, 24, 25, 26] rfl rfl (by decide) (by decide) (by decide) (fun _ _ _ _ h => h) (fun _ _ _ => trivial) rfl rfl hl.1 (Nat.le_of_ble_eq_true rfl) dL_isTogether_192 ⟨hkc, hks⟩ (fun r9 u H locs hr9 hP hD hS => ?_)
                                have hr9 := Eq.symm hr9
                                subst hr9
                                have hP : va_P (dC, dI) vwCl (wTD cI cF cJ ot oh b ou od ow oa ob ok os x12.2 ++ (wHB cI cF cJ oh fa tr rw Hb ++ (wFR cI cF cJ q0 q1 q2 q3 q4 q5 q6 q7 q8 x51.2 ++ (wFR cI cF cJ r0 r1 r2 r3 r4 r5 r6 r7 r8 x32.2)))) H := hP.sub [0, 1, 2, 3, 4, 5, 6, 16, 17, 18, 19, 20, 21, 22, 23, 24, 25, 26, 7, 8, 9, 10, 11, 12, 13, 14, 15] rfl
                                have hD : va_D A (wTD cI cF cJ ot oh b ou od ow oa ob ok os x12.2 ++ (wHB cI cF cJ oh fa tr rw Hb ++ (wFR cI cF cJ q0 q1 q2 q3 q4 q5 q6 q7 q8 x51.2 ++ (wFR cI cF cJ r0 r1 r2 r3 r4 r5 r6 r7 r8 x32.2)))) := hD.sub [0, 1, 2, 3, 4, 5, 6, 16, 17, 18, 19, 20, 21, 22, 23, 24, 25, 26, 7, 8, 9, 10, 11, 12, 13, 14, 15] (by decide) rfl
                                refine lv_if_lt (tgt := 230) hx hb dL_isTogether_195 (by decide) (fun c52 => ?_) (fun c52 => ?_)
                                · have hf := ite_t hf c52
                                  refine lv_iconst (v := 0) hx hb dL_isTogether_230 (by decide) ?_
                                  obtain rfl := Option.some.inj hf
                                  exact W.zret (v := 0) hx hb hr (by rfl) (fun t ht hW => ⟨⟨_, (), rfl, rfl, by rw [ht]; exact hP, hD⟩, hS.F ht⟩) hS.2.2 dL_isTogether_231
                                · have hf := ite_f hf c52
                                  refine lv_aload_n hx hb dL_isTogether_198 rfl (lv_at hl 5 rfl) ?_
                                  refine lv_iconst (v := 0) hx hb dL_isTogether_199 (by decide) ?_
                                  obtain ⟨x53, hx53, hf⟩ := obd_e hf
                                  refine sb_Vl (As := [.int 0]) (rest := []) ⟨hx, hb, hml, hown, hts⟩ (fun sz => c_X2_number l dC dI cI cF cJ cD oh fa tr q0 q1 q2 q3 q4 q5 q6 q7 q8 rw Hb x51.2 0 hq0 x53 hx53 sz) (cwV 1 hts (g_V q513 q514 q515 q172 q252) rfl rfl rfl pc_X2_number ⟨Nat.le_of_ble_eq_true rfl, Nat.le_of_ble_eq_true rfl⟩) 0 2 rfl rfl hK hP hD hS hA [7, 8, 9, 10, 11, 12, 13, 14, 15, 16, 17] [0, 1, 2, 3, 4, 5, 6, 18, 19, 20, 21, 22, 23, 24, 25, 26] rfl rfl (by decide) (by decide) (by decide) (fun _ _ _ _ h => h) (fun _ _ _ => trivial) rfl rfl hl.1 (Nat.le_of_ble_eq_true rfl) dL_isTogether_200 ⟨hkc, hks⟩ (fun r9 u H locs hr9 hP hD hS => ?_)
                                  have hr9 := Eq.symm hr9
                                  subst hr9
                                  have hP : va_P (dC, dI) vwCl (wTD cI cF cJ ot oh b ou od ow oa ob ok os x12.2 ++ (wHB cI cF cJ oh fa tr rw Hb ++ (wFR cI cF cJ q0 q1 q2 q3 q4 q5 q6 q7 q8 x51.2 ++ (wFR cI cF cJ r0 r1 r2 r3 r4 r5 r6 r7 r8 x32.2)))) H := hP.sub [0, 1, 2, 3, 4, 5, 6, 16, 17, 18, 19, 20, 21, 22, 23, 24, 25, 26, 7, 8, 9, 10, 11, 12, 13, 14, 15] rfl
                                  have hD : va_D A (wTD cI cF cJ ot oh b ou od ow oa ob ok os x12.2 ++ (wHB cI cF cJ oh fa tr rw Hb ++ (wFR cI cF cJ q0 q1 q2 q3 q4 q5 q6 q7 q8 x51.2 ++ (wFR cI cF cJ r0 r1 r2 r3 r4 r5 r6 r7 r8 x32.2)))) := hD.sub [0, 1, 2, 3, 4, 5, 6, 16, 17, 18, 19, 20, 21, 22, 23, 24, 25, 26, 7, 8, 9, 10, 11, 12, 13, 14, 15] (by decide) rfl
                                  refine lv_iload_n hx hb dL_isTogether_203 rfl (lv_at hl 4 rfl) ?_
                                  refine lv_iload hx hb dL_isTogether_204 (lv_at hl 1 rfl) ?_
                                  refine lv_isub hx hb dL_isTogether_206 ?_
                                  refine lv_topi (fun v54 ev54 => ?_)
                                  have hf := bnd_all hf v54 ev54
                                  refine lv_i2l hx hb dL_isTogether_207 rfl ?_
                                  refine lv_topl (fun v55 ev55 => ?_)
                                  have hf := bnd_all hf v55 ev55
                                  refine W.lcmp hx hb dL_isTogether_208 ?_
                                  refine lv_topi (fun v56 ev56 => ?_)
                                  have hf := bnd_all hf v56 ev56
                                  refine lv_if_ne (tgt := 230) hx hb dL_isTogether_209 (by decide) (fun c57 => ?_) (fun c57 => ?_)
                                  · have hf := ite_f hf c57
                                    refine lv_iconst (v := 0) hx hb dL_isTogether_230 (by decide) ?_
                                    obtain rfl := Option.some.inj hf
                                    exact W.zret (v := 0) hx hb hr (by rfl) (fun t ht hW => ⟨⟨_, (), rfl, rfl, by rw [ht]; exact hP, hD⟩, hS.F ht⟩) hS.2.2 dL_isTogether_231
                                  · have hf := ite_t hf c57
                                    refine lv_aload_n hx hb dL_isTogether_212 rfl (lv_at hl 5 rfl) ?_
                                    refine lv_iconst (v := 0) hx hb dL_isTogether_213 (by decide) ?_
                                    refine lv_iconst (v := 1) hx hb dL_isTogether_214 (by decide) ?_
                                    obtain ⟨x58, hx58, hf⟩ := obd_e hf
                                    refine sb_Vi (As := [.int 0, .int 1]) (rest := []) ⟨hx, hb, hml, hown, hts⟩ (fun sz => c_X2_show l dC dI cI cF cJ cD oh fa tr q0 q1 q2 q3 q4 q5 q6 q7 q8 r0 r1 r2 r3 r4 r5 r6 r7 r8 rw Hb x51.2 x32.2 0 1 hq0 hq1 x58 hx58 sz) (cwV 2 hts (g_V q518 q519 q520 q172 q241) rfl rfl rfl pc_X2_show ⟨Nat.le_of_ble_eq_true rfl, Nat.le_of_ble_eq_true rfl⟩) 0 2 rfl rfl hK hP hD hS hA [7, 8, 9, 10, 11, 12, 13, 14, 15, 16, 17, 18, 19, 20, 21, 22, 23, 24, 25, 26] [0, 1, 2, 3, 4, 5, 6] rfl rfl (by decide) (by decide) (by decide) (fun _ _ _ _ h => h) (fun _ _ _ => trivial) rfl rfl hl.1 (Nat.le_of_ble_eq_true rfl) dL_isTogether_215 ⟨hkc, hks⟩ (fun r9 u H locs hr9 hP hD hS => ?_)
                                    have hr9 := Eq.symm hr9
                                    subst hr9
                                    have hP : va_P (dC, dI) vwCl (wTD cI cF cJ ot oh b ou od ow oa ob ok os x12.2 ++ (wHB cI cF cJ oh fa tr rw Hb ++ (wFR cI cF cJ q0 q1 q2 q3 q4 q5 q6 q7 q8 x51.2 ++ (wFR cI cF cJ r0 r1 r2 r3 r4 r5 r6 r7 r8 x58.2)))) H := hP
                                    have hD : va_D A (wTD cI cF cJ ot oh b ou od ow oa ob ok os x12.2 ++ (wHB cI cF cJ oh fa tr rw Hb ++ (wFR cI cF cJ q0 q1 q2 q3 q4 q5 q6 q7 q8 x51.2 ++ (wFR cI cF cJ r0 r1 r2 r3 r4 r5 r6 r7 r8 x58.2)))) := hD
                                    refine lv_if_lt (tgt := 230) hx hb dL_isTogether_218 (by decide) (fun c59 => ?_) (fun c59 => ?_)
                                    · have hf := ite_t hf c59
                                      refine lv_iconst (v := 0) hx hb dL_isTogether_230 (by decide) ?_
                                      obtain rfl := Option.some.inj hf
                                      exact W.zret (v := 0) hx hb hr (by rfl) (fun t ht hW => ⟨⟨_, (), rfl, rfl, by rw [ht]; exact hP, hD⟩, hS.F ht⟩) hS.2.2 dL_isTogether_231
                                    · have hf := ite_f hf c59
                                      refine lv_aload_n hx hb dL_isTogether_221 rfl (lv_at hl 5 rfl) ?_
                                      refine lv_iconst (v := 4) hx hb dL_isTogether_222 (by decide) ?_
                                      obtain ⟨x60, hx60, hf⟩ := obd_e hf
                                      refine sb_Vi (As := [.int 4]) (rest := []) ⟨hx, hb, hml, hown, hts⟩ (fun sz => c_X2_many l dC dI cI cF cJ cD oh fa tr q0 q1 q2 q3 q4 q5 q6 q7 q8 r0 r1 r2 r3 r4 r5 r6 r7 r8 rw Hb x51.2 x58.2 4 hr0 hr1 hr2 hr3 x60 hx60 sz) (cwV 1 hts (g_V q507 q508 q509 q172 q279) rfl rfl rfl pc_X2_many ⟨Nat.le_of_ble_eq_true rfl, Nat.le_of_ble_eq_true rfl⟩) 0 2 rfl rfl hK hP hD hS hA [7, 8, 9, 10, 11, 12, 13, 14, 15, 16, 17, 18, 19, 20, 21, 22, 23, 24, 25, 26] [0, 1, 2, 3, 4, 5, 6] rfl rfl (by decide) (by decide) (by decide) (fun _ _ _ _ h => h) (fun _ _ _ => trivial) rfl rfl hl.1 (Nat.le_of_ble_eq_true rfl) dL_isTogether_223 ⟨hkc, hks⟩ (fun r9 u H locs hr9 hP hD hS => ?_)
                                      have hr9 := Eq.symm hr9
                                      subst hr9
                                      have hP : va_P (dC, dI) vwCl (wTD cI cF cJ ot oh b ou od ow oa ob ok os x12.2 ++ (wHB cI cF cJ oh fa tr rw Hb ++ (wFR cI cF cJ q0 q1 q2 q3 q4 q5 q6 q7 q8 x51.2 ++ (wFR cI cF cJ r0 r1 r2 r3 r4 r5 r6 r7 r8 x58.2)))) H := hP
                                      have hD : va_D A (wTD cI cF cJ ot oh b ou od ow oa ob ok os x12.2 ++ (wHB cI cF cJ oh fa tr rw Hb ++ (wFR cI cF cJ q0 q1 q2 q3 q4 q5 q6 q7 q8 x51.2 ++ (wFR cI cF cJ r0 r1 r2 r3 r4 r5 r6 r7 r8 x58.2)))) := hD
                                      refine lv_iconst (v := 1) hx hb dL_isTogether_226 (by decide) ?_
                                      refine lv_icmp_eq (tgt := 232) hx hb dL_isTogether_227 (by decide) (fun c61 => ?_) (fun c61 => ?_)
                                      · have hf := ite_t hf c61
                                        refine lv_aload_n hx hb dL_isTogether_232 rfl (lv_at hl 5 rfl) ?_
                                        refine lv_iconst (v := 0) hx hb dL_isTogether_233 (by decide) ?_
                                        refine lv_iconst (v := 0) hx hb dL_isTogether_234 (by decide) ?_
                                        obtain ⟨x62, hx62, hf⟩ := obd_e hf
                                        refine sb_Vi (As := [.int 0, .int 0]) (rest := []) ⟨hx, hb, hml, hown, hts⟩ (fun sz => c_X2_shift l dC dI cI cF cJ cD oh fa tr q0 q1 q2 q3 q4 q5 q6 q7 q8 rw Hb x51.2 0 0 hq0 x62 hx62 sz) (cwV 2 hts (g_V q521 q439 q440 q172 q232) rfl rfl rfl pc_X2_shift ⟨Nat.le_of_ble_eq_true rfl, Nat.le_of_ble_eq_true rfl⟩) 0 2 rfl rfl hK hP hD hS hA [7, 8, 9, 10, 11, 12, 13, 14, 15, 16, 17] [0, 1, 2, 3, 4, 5, 6, 18, 19, 20, 21, 22, 23, 24, 25, 26] rfl rfl (by decide) (by decide) (by decide) (fun _ _ _ _ h => h) (fun _ _ _ => trivial) rfl rfl hl.1 (Nat.le_of_ble_eq_true rfl) dL_isTogether_235 ⟨hkc, hks⟩ (fun r9 u H locs hr9 hP hD hS => ?_)
                                        have hr9 := Eq.symm hr9
                                        subst hr9
                                        have hP : va_P (dC, dI) vwCl (wTD cI cF cJ ot oh b ou od ow oa ob ok os x12.2 ++ (wHB cI cF cJ oh fa tr rw Hb ++ (wFR cI cF cJ q0 q1 q2 q3 q4 q5 q6 q7 q8 x62.2 ++ (wFR cI cF cJ r0 r1 r2 r3 r4 r5 r6 r7 r8 x58.2)))) H := hP.sub [0, 1, 2, 3, 4, 5, 6, 16, 17, 18, 19, 20, 21, 22, 23, 24, 25, 26, 7, 8, 9, 10, 11, 12, 13, 14, 15] rfl
                                        have hD : va_D A (wTD cI cF cJ ot oh b ou od ow oa ob ok os x12.2 ++ (wHB cI cF cJ oh fa tr rw Hb ++ (wFR cI cF cJ q0 q1 q2 q3 q4 q5 q6 q7 q8 x62.2 ++ (wFR cI cF cJ r0 r1 r2 r3 r4 r5 r6 r7 r8 x58.2)))) := hD.sub [0, 1, 2, 3, 4, 5, 6, 16, 17, 18, 19, 20, 21, 22, 23, 24, 25, 26, 7, 8, 9, 10, 11, 12, 13, 14, 15] (by decide) rfl
                                        refine lv_iload_n hx hb dL_isTogether_238 rfl (lv_at hl 4 rfl) ?_
                                        refine lv_iload hx hb dL_isTogether_239 (lv_at hl 1 rfl) ?_
                                        refine lv_isub hx hb dL_isTogether_241 ?_
                                        refine lv_topi (fun v63 ev63 => ?_)
                                        have hf := bnd_all hf v63 ev63
                                        refine lv_bipush (v := 10) hx hb dL_isTogether_242 (by decide) ?_
                                        refine lv_irem hx hb dL_isTogether_244 (by decide) ?_
                                        refine lv_topi (fun v65 ev65 => ?_)
                                        have hf := bnd_all hf v65 ev65
                                        refine lv_icmp_ne (tgt := 284) hx hb dL_isTogether_245 (by decide) (fun c66 => ?_) (fun c66 => ?_)
                                        · have hf := ite_f hf c66
                                          refine lv_iconst (v := 0) hx hb dL_isTogether_284 (by decide) ?_
                                          obtain rfl := Option.some.inj hf
                                          exact W.zret (v := 0) hx hb hr (by rfl) (fun t ht hW => ⟨⟨_, (), rfl, rfl, by rw [ht]; exact hP, hD⟩, hS.F ht⟩) hS.2.2 dL_isTogether_285
                                        · have hf := ite_t hf c66
                                          refine lv_aload_n hx hb dL_isTogether_248 rfl (lv_at hl 5 rfl) ?_
                                          refine lv_iconst (v := 0) hx hb dL_isTogether_249 (by decide) ?_
                                          obtain ⟨x67, hx67, hf⟩ := obd_e hf
                                          refine sb_Vl (As := [.int 0]) (rest := []) ⟨hx, hb, hml, hown, hts⟩ (fun sz => c_X2_number l dC dI cI cF cJ cD oh fa tr q0 q1 q2 q3 q4 q5 q6 q7 q8 rw Hb x62.2 0 hq0 x67 hx67 sz) (cwV 1 hts (g_V q513 q514 q515 q172 q252) rfl rfl rfl pc_X2_number ⟨Nat.le_of_ble_eq_true rfl, Nat.le_of_ble_eq_true rfl⟩) 0 2 rfl rfl hK hP hD hS hA [7, 8, 9, 10, 11, 12, 13, 14, 15, 16, 17] [0, 1, 2, 3, 4, 5, 6, 18, 19, 20, 21, 22, 23, 24, 25, 26] rfl rfl (by decide) (by decide) (by decide) (fun _ _ _ _ h => h) (fun _ _ _ => trivial) rfl rfl hl.1 (Nat.le_of_ble_eq_true rfl) dL_isTogether_250 ⟨hkc, hks⟩ (fun r9 u H locs hr9 hP hD hS => ?_)
                                          have hr9 := Eq.symm hr9
                                          subst hr9
                                          have hP : va_P (dC, dI) vwCl (wTD cI cF cJ ot oh b ou od ow oa ob ok os x12.2 ++ (wHB cI cF cJ oh fa tr rw Hb ++ (wFR cI cF cJ q0 q1 q2 q3 q4 q5 q6 q7 q8 x62.2 ++ (wFR cI cF cJ r0 r1 r2 r3 r4 r5 r6 r7 r8 x58.2)))) H := hP.sub [0, 1, 2, 3, 4, 5, 6, 16, 17, 18, 19, 20, 21, 22, 23, 24, 25, 26, 7, 8, 9, 10, 11, 12, 13, 14, 15] rfl
                                          have hD : va_D A (wTD cI cF cJ ot oh b ou od ow oa ob ok os x12.2 ++ (wHB cI cF cJ oh fa tr rw Hb ++ (wFR cI cF cJ q0 q1 q2 q3 q4 q5 q6 q7 q8 x62.2 ++ (wFR cI cF cJ r0 r1 r2 r3 r4 r5 r6 r7 r8 x58.2)))) := hD.sub [0, 1, 2, 3, 4, 5, 6, 16, 17, 18, 19, 20, 21, 22, 23, 24, 25, 26, 7, 8, 9, 10, 11, 12, 13, 14, 15] (by decide) rfl
                                          refine lv_iload_n hx hb dL_isTogether_253 rfl (lv_at hl 4 rfl) ?_
                                          refine lv_iload hx hb dL_isTogether_254 (lv_at hl 1 rfl) ?_
                                          refine lv_isub hx hb dL_isTogether_256 ?_
                                          refine lv_topi (fun v68 ev68 => ?_)
                                          have hf := bnd_all hf v68 ev68
                                          refine lv_bipush (v := 10) hx hb dL_isTogether_257 (by decide) ?_
                                          refine lv_idiv hx hb dL_isTogether_259 (by decide) ?_
                                          refine lv_topi (fun v70 ev70 => ?_)
                                          have hf := bnd_all hf v70 ev70
                                          refine lv_i2l hx hb dL_isTogether_260 rfl ?_
                                          refine lv_topl (fun v71 ev71 => ?_)
                                          have hf := bnd_all hf v71 ev71
                                          refine W.lcmp hx hb dL_isTogether_261 ?_
                                          refine lv_topi (fun v72 ev72 => ?_)
                                          have hf := bnd_all hf v72 ev72
                                          refine lv_if_ne (tgt := 284) hx hb dL_isTogether_262 (by decide) (fun c73 => ?_) (fun c73 => ?_)
                                          · have hf := ite_f hf c73
                                            refine lv_iconst (v := 0) hx hb dL_isTogether_284 (by decide) ?_
                                            obtain rfl := Option.some.inj hf
                                            exact W.zret (v := 0) hx hb hr (by rfl) (fun t ht hW => ⟨⟨_, (), rfl, rfl, by rw [ht]; exact hP, hD⟩, hS.F ht⟩) hS.2.2 dL_isTogether_285
                                          · have hf := ite_t hf c73
                                            refine lv_aload_n hx hb dL_isTogether_265 rfl (lv_at hl 5 rfl) ?_
                                            refine lv_iconst (v := 0) hx hb dL_isTogether_266 (by decide) ?_
                                            refine lv_iconst (v := 1) hx hb dL_isTogether_267 (by decide) ?_
                                            obtain ⟨x74, hx74, hf⟩ := obd_e hf
                                            refine sb_Vi (As := [.int 0, .int 1]) (rest := []) ⟨hx, hb, hml, hown, hts⟩ (fun sz => c_X2_shift l dC dI cI cF cJ cD oh fa tr q0 q1 q2 q3 q4 q5 q6 q7 q8 rw Hb x62.2 0 1 hq0 x74 hx74 sz) (cwV 2 hts (g_V q521 q439 q440 q172 q232) rfl rfl rfl pc_X2_shift ⟨Nat.le_of_ble_eq_true rfl, Nat.le_of_ble_eq_true rfl⟩) 0 2 rfl rfl hK hP hD hS hA [7, 8, 9, 10, 11, 12, 13, 14, 15, 16, 17] [0, 1, 2, 3, 4, 5, 6, 18, 19, 20, 21, 22, 23, 24, 25, 26] rfl rfl (by decide) (by decide) (by decide) (fun _ _ _ _ h => h) (fun _ _ _ => trivial) rfl rfl hl.1 (Nat.le_of_ble_eq_true rfl) dL_isTogether_268 ⟨hkc, hks⟩ (fun r9 u H locs hr9 hP hD hS => ?_)
                                            have hr9 := Eq.symm hr9
                                            subst hr9
                                            have hP : va_P (dC, dI) vwCl (wTD cI cF cJ ot oh b ou od ow oa ob ok os x12.2 ++ (wHB cI cF cJ oh fa tr rw Hb ++ (wFR cI cF cJ q0 q1 q2 q3 q4 q5 q6 q7 q8 x74.2 ++ (wFR cI cF cJ r0 r1 r2 r3 r4 r5 r6 r7 r8 x58.2)))) H := hP.sub [0, 1, 2, 3, 4, 5, 6, 16, 17, 18, 19, 20, 21, 22, 23, 24, 25, 26, 7, 8, 9, 10, 11, 12, 13, 14, 15] rfl
                                            have hD : va_D A (wTD cI cF cJ ot oh b ou od ow oa ob ok os x12.2 ++ (wHB cI cF cJ oh fa tr rw Hb ++ (wFR cI cF cJ q0 q1 q2 q3 q4 q5 q6 q7 q8 x74.2 ++ (wFR cI cF cJ r0 r1 r2 r3 r4 r5 r6 r7 r8 x58.2)))) := hD.sub [0, 1, 2, 3, 4, 5, 6, 16, 17, 18, 19, 20, 21, 22, 23, 24, 25, 26, 7, 8, 9, 10, 11, 12, 13, 14, 15] (by decide) rfl
                                            refine lv_if_ne (tgt := 284) hx hb dL_isTogether_271 (by decide) (fun c75 => ?_) (fun c75 => ?_)
                                            · have hf := ite_f hf c75
                                              refine lv_iconst (v := 0) hx hb dL_isTogether_284 (by decide) ?_
                                              obtain rfl := Option.some.inj hf
                                              exact W.zret (v := 0) hx hb hr (by rfl) (fun t ht hW => ⟨⟨_, (), rfl, rfl, by rw [ht]; exact hP, hD⟩, hS.F ht⟩) hS.2.2 dL_isTogether_285
                                            · have hf := ite_t hf c75
                                              refine lv_aload_n hx hb dL_isTogether_274 rfl (lv_at hl 5 rfl) ?_
                                              refine lv_iconst (v := 3) hx hb dL_isTogether_275 (by decide) ?_
                                              obtain ⟨x76, hx76, hf⟩ := obd_e hf
                                              refine sb_Vi (As := [.int 3]) (rest := []) ⟨hx, hb, hml, hown, hts⟩ (fun sz => c_X2_many l dC dI cI cF cJ cD oh fa tr q0 q1 q2 q3 q4 q5 q6 q7 q8 r0 r1 r2 r3 r4 r5 r6 r7 r8 rw Hb x74.2 x58.2 3 hr0 hr1 hr2 hr3 x76 hx76 sz) (cwV 1 hts (g_V q507 q508 q509 q172 q279) rfl rfl rfl pc_X2_many ⟨Nat.le_of_ble_eq_true rfl, Nat.le_of_ble_eq_true rfl⟩) 0 2 rfl rfl hK hP hD hS hA [7, 8, 9, 10, 11, 12, 13, 14, 15, 16, 17, 18, 19, 20, 21, 22, 23, 24, 25, 26] [0, 1, 2, 3, 4, 5, 6] rfl rfl (by decide) (by decide) (by decide) (fun _ _ _ _ h => h) (fun _ _ _ => trivial) rfl rfl hl.1 (Nat.le_of_ble_eq_true rfl) dL_isTogether_276 ⟨hkc, hks⟩ (fun r9 u H locs hr9 hP hD hS => ?_)
                                              have hr9 := Eq.symm hr9
                                              subst hr9
                                              have hP : va_P (dC, dI) vwCl (wTD cI cF cJ ot oh b ou od ow oa ob ok os x12.2 ++ (wHB cI cF cJ oh fa tr rw Hb ++ (wFR cI cF cJ q0 q1 q2 q3 q4 q5 q6 q7 q8 x74.2 ++ (wFR cI cF cJ r0 r1 r2 r3 r4 r5 r6 r7 r8 x58.2)))) H := hP
                                              have hD : va_D A (wTD cI cF cJ ot oh b ou od ow oa ob ok os x12.2 ++ (wHB cI cF cJ oh fa tr rw Hb ++ (wFR cI cF cJ q0 q1 q2 q3 q4 q5 q6 q7 q8 x74.2 ++ (wFR cI cF cJ r0 r1 r2 r3 r4 r5 r6 r7 r8 x58.2)))) := hD
                                              refine lv_iload hx hb dL_isTogether_279 (lv_at hl 2 rfl) ?_
                                              refine lv_icmp_eq (tgt := 286) hx hb dL_isTogether_281 (by decide) (fun c77 => ?_) (fun c77 => ?_)
                                              · have hf := ite_t hf c77
                                                refine lv_aload_n hx hb dL_isTogether_286 rfl (lv_at hl 5 rfl) ?_
                                                refine lv_iconst (v := 0) hx hb dL_isTogether_287 (by decide) ?_
                                                obtain ⟨x78, hx78, hf⟩ := obd_e hf
                                                refine sb_Vl (As := [.int 0]) (rest := []) ⟨hx, hb, hml, hown, hts⟩ (fun sz => c_X2_number l dC dI cI cF cJ cD oh fa tr q0 q1 q2 q3 q4 q5 q6 q7 q8 rw Hb x74.2 0 hq0 x78 hx78 sz) (cwV 1 hts (g_V q513 q514 q515 q172 q252) rfl rfl rfl pc_X2_number ⟨Nat.le_of_ble_eq_true rfl, Nat.le_of_ble_eq_true rfl⟩) 0 2 rfl rfl hK hP hD hS hA [7, 8, 9, 10, 11, 12, 13, 14, 15, 16, 17] [0, 1, 2, 3, 4, 5, 6, 18, 19, 20, 21, 22, 23, 24, 25, 26] rfl rfl (by decide) (by decide) (by decide) (fun _ _ _ _ h => h) (fun _ _ _ => trivial) rfl rfl hl.1 (Nat.le_of_ble_eq_true rfl) dL_isTogether_288 ⟨hkc, hks⟩ (fun r9 u H locs hr9 hP hD hS => ?_)
                                                have hr9 := Eq.symm hr9
                                                subst hr9
                                                have hP : va_P (dC, dI) vwCl (wTD cI cF cJ ot oh b ou od ow oa ob ok os x12.2 ++ (wHB cI cF cJ oh fa tr rw Hb ++ (wFR cI cF cJ q0 q1 q2 q3 q4 q5 q6 q7 q8 x74.2 ++ (wFR cI cF cJ r0 r1 r2 r3 r4 r5 r6 r7 r8 x58.2)))) H := hP.sub [0, 1, 2, 3, 4, 5, 6, 16, 17, 18, 19, 20, 21, 22, 23, 24, 25, 26, 7, 8, 9, 10, 11, 12, 13, 14, 15] rfl
                                                have hD : va_D A (wTD cI cF cJ ot oh b ou od ow oa ob ok os x12.2 ++ (wHB cI cF cJ oh fa tr rw Hb ++ (wFR cI cF cJ q0 q1 q2 q3 q4 q5 q6 q7 q8 x74.2 ++ (wFR cI cF cJ r0 r1 r2 r3 r4 r5 r6 r7 r8 x58.2)))) := hD.sub [0, 1, 2, 3, 4, 5, 6, 16, 17, 18, 19, 20, 21, 22, 23, 24, 25, 26, 7, 8, 9, 10, 11, 12, 13, 14, 15] (by decide) rfl
                                                refine lv_iload_n hx hb dL_isTogether_291 rfl (lv_at hl 4 rfl) ?_
                                                refine lv_iload hx hb dL_isTogether_292 (lv_at hl 1 rfl) ?_
                                                refine lv_isub hx hb dL_isTogether_294 ?_
                                                refine lv_topi (fun v79 ev79 => ?_)
                                                have hf := bnd_all hf v79 ev79
                                                refine lv_bipush (v := 10) hx hb dL_isTogether_295 (by decide) ?_
                                                refine lv_idiv hx hb dL_isTogether_297 (by decide) ?_
                                                refine lv_topi (fun v81 ev81 => ?_)
                                                have hf := bnd_all hf v81 ev81
                                                refine lv_bipush (v := 10) hx hb dL_isTogether_298 (by decide) ?_
                                                refine lv_imul hx hb dL_isTogether_300 ?_
                                                refine lv_topi (fun v82 ev82 => ?_)
                                                have hf := bnd_all hf v82 ev82
                                                refine lv_i2l hx hb dL_isTogether_301 rfl ?_
                                                refine lv_topl (fun v83 ev83 => ?_)
                                                have hf := bnd_all hf v83 ev83
                                                refine W.lcmp hx hb dL_isTogether_302 ?_
                                                refine lv_topi (fun v84 ev84 => ?_)
                                                have hf := bnd_all hf v84 ev84
                                                refine lv_if_ne (tgt := 310) hx hb dL_isTogether_303 (by decide) (fun c85 => ?_) (fun c85 => ?_)
                                                · have hf := ite_f hf c85
                                                  refine lv_iconst (v := 0) hx hb dL_isTogether_310 (by decide) ?_
                                                  obtain rfl := Option.some.inj hf
                                                  exact W.zret (v := 0) hx hb hr (by rfl) (fun t ht hW => ⟨⟨_, (), rfl, rfl, by rw [ht]; exact hP, hD⟩, hS.F ht⟩) hS.2.2 dL_isTogether_311
                                                · have hf := ite_t hf c85
                                                  refine lv_iconst (v := 1) hx hb dL_isTogether_306 (by decide) ?_
                                                  refine lv_goto (tgt := 311) hx hb dL_isTogether_307 (by decide) ?_
                                                  obtain rfl := Option.some.inj hf
                                                  exact W.zret (v := 1) hx hb hr (by rfl) (fun t ht hW => ⟨⟨_, (), rfl, rfl, by rw [ht]; exact hP, hD⟩, hS.F ht⟩) hS.2.2 dL_isTogether_311
                                              · have hf := ite_f hf c77
                                                refine lv_iconst (v := 0) hx hb dL_isTogether_284 (by decide) ?_
                                                obtain rfl := Option.some.inj hf
                                                exact W.zret (v := 0) hx hb hr (by rfl) (fun t ht hW => ⟨⟨_, (), rfl, rfl, by rw [ht]; exact hP, hD⟩, hS.F ht⟩) hS.2.2 dL_isTogether_285
                                      · have hf := ite_f hf c61
                                        refine lv_iconst (v := 0) hx hb dL_isTogether_230 (by decide) ?_
                                        obtain rfl := Option.some.inj hf
                                        exact W.zret (v := 0) hx hb hr (by rfl) (fun t ht hW => ⟨⟨_, (), rfl, rfl, by rw [ht]; exact hP, hD⟩, hS.F ht⟩) hS.2.2 dL_isTogether_231
                            · have hf := ite_f hf c48
                              refine lv_iconst (v := 0) hx hb dL_isTogether_177 (by decide) ?_
                              obtain rfl := Option.some.inj hf
                              exact W.zret (v := 0) hx hb hr (by rfl) (fun t ht hW => ⟨⟨_, (), rfl, rfl, by rw [ht]; exact hP, hD⟩, hS.F ht⟩) hS.2.2 dL_isTogether_178
                  · have hf := ite_f hf c30
                    refine lv_iconst (v := 0) hx hb dL_isTogether_104 (by decide) ?_
                    obtain rfl := Option.some.inj hf
                    exact W.zret (v := 0) hx hb hr (by rfl) (fun t ht hW => ⟨⟨_, (), rfl, rfl, by rw [ht]; exact hP, hD⟩, hS.F ht⟩) hS.2.2 dL_isTogether_105
            · have hf := ite_f hf c21
              refine lv_iconst (v := 0) hx hb dL_isTogether_104 (by decide) ?_
              obtain rfl := Option.some.inj hf
              exact W.zret (v := 0) hx hb hr (by rfl) (fun t ht hW => ⟨⟨_, (), rfl, rfl, by rw [ht]; exact hP, hD⟩, hS.F ht⟩) hS.2.2 dL_isTogether_105
      · have hf := ite_f hf c6
        refine lv_iconst (v := 0) hx hb dL_isTogether_25 (by decide) ?_
        obtain rfl := Option.some.inj hf
        exact W.zret (v := 0) hx hb hr (by rfl) (fun t ht hW => ⟨⟨_, (), rfl, rfl, by rw [ht]; exact hP, hD⟩, hS.F ht⟩) hS.2.2 dL_isTogether_26
