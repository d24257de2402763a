-- laid by wip/p30/law.py
noncomputable def f_C3 (L : Nat) (xs : Nat → Int32) (pn : Int32) (tk : Nat → UInt64) (T : TD) (Hb : HB) (F : FR) (F2 : FR) (Tr : FR) : Option (FR × FR) := obd (f_X2_seconds Hb F2 1) fun x1 => obd (f_X2_would Hb F2 Tr 1 pn 0) fun x3 => gd (gin 0 4) <| obd (f_X2_would Hb F2 x3.2 1 pn 1) fun x5 => gd (gin 1 4) <| obd (f_X2_would Hb F2 x5.2 1 pn 2) fun x7 => gd (gin 2 4) <| obd (f_X2_would Hb F2 x7.2 1 pn 3) fun x9 => gd (gin 3 4) <| obd (f_X2_ofFrame Hb F2 1 2) fun x12 => gd (gin 0 4) <| obd (f_X2_ofFrame Hb F2 1 3) fun x14 => gd (gin 1 4) <| obd (f_X2_ofFrame Hb F2 1 4) fun x16 => gd (gin 2 4) <| obd (f_X2_ofFrame Hb F2 1 6) fun x18 => gd (gin 3 4) <| obd (f_X2_add Hb F2 1 pn) fun x20 => gd (gin 0 4) <| bnd ((upd (upd (upd (upd (fun _ => 0) (Int32.toNatClampNeg 0) x3.1) (Int32.toNatClampNeg 1) x5.1) (Int32.toNatClampNeg 2) x7.1) (Int32.toNatClampNeg 3) x9.1) (Int32.toNatClampNeg 0)) fun (v22 : Int32) => if x20.1 = v22 then (obd (f_X2_seconds Hb x20.2 1) fun x24 => gd (gin 1 2) <| bnd (tk (Int32.toNatClampNeg 1)) fun (v26 : UInt64) => gd (nn64 (FP.dadd x1 v26)) <| bnd (FP.dadd x1 v26) fun (v28 : UInt64) => bnd (Op.cmpValue (FP.dcmp x24 v28) CmpOp.l) fun (v29 : Int32) => if v29 = 0 then (obd (f_X2_ofFrame Hb x20.2 1 2) fun x32 => gd (gin 0 4) <| bnd ((upd (upd (upd (upd (fun _ => 0) (Int32.toNatClampNeg 0) x12) (Int32.toNatClampNeg 1) x14) (Int32.toNatClampNeg 2) x16) (Int32.toNatClampNeg 3) x18) (Int32.toNatClampNeg 0)) fun (v34 : Int32) => gd (gin 0 4) <| bnd ((upd (upd (upd (upd (fun _ => 0) (Int32.toNatClampNeg 0) x3.1) (Int32.toNatClampNeg 1) x5.1) (Int32.toNatClampNeg 2) x7.1) (Int32.toNatClampNeg 3) x9.1) (Int32.toNatClampNeg 0)) fun (v36 : Int32) => bnd (v34 + v36) fun (v37 : Int32) => if x32 = v37 then (obd (f_X2_ofFrame Hb x20.2 1 3) fun x40 => gd (gin 1 4) <| bnd ((upd (upd (upd (upd (fun _ => 0) (Int32.toNatClampNeg 0) x12) (Int32.toNatClampNeg 1) x14) (Int32.toNatClampNeg 2) x16) (Int32.toNatClampNeg 3) x18) (Int32.toNatClampNeg 1)) fun (v42 : Int32) => gd (gin 1 4) <| bnd ((upd (upd (upd (upd (fun _ => 0) (Int32.toNatClampNeg 0) x3.1) (Int32.toNatClampNeg 1) x5.1) (Int32.toNatClampNeg 2) x7.1) (Int32.toNatClampNeg 3) x9.1) (Int32.toNatClampNeg 1)) fun (v44 : Int32) => bnd (v42 + v44) fun (v45 : Int32) => if x40 = v45 then (obd (f_X2_ofFrame Hb x20.2 1 4) fun x48 => gd (gin 2 4) <| bnd ((upd (upd (upd (upd (fun _ => 0) (Int32.toNatClampNeg 0) x12) (Int32.toNatClampNeg 1) x14) (Int32.toNatClampNeg 2) x16) (Int32.toNatClampNeg 3) x18) (Int32.toNatClampNeg 2)) fun (v50 : Int32) => gd (gin 2 4) <| bnd ((upd (upd (upd (upd (fun _ => 0) (Int32.toNatClampNeg 0) x3.1) (Int32.toNatClampNeg 1) x5.1) (Int32.toNatClampNeg 2) x7.1) (Int32.toNatClampNeg 3) x9.1) (Int32.toNatClampNeg 2)) fun (v52 : Int32) => bnd (v50 + v52) fun (v53 : Int32) => if x48 = v53 then (obd (f_X2_ofFrame Hb x20.2 1 6) fun x55 => gd (gin 3 4) <| bnd ((upd (upd (upd (upd (fun _ => 0) (Int32.toNatClampNeg 0) x12) (Int32.toNatClampNeg 1) x14) (Int32.toNatClampNeg 2) x16) (Int32.toNatClampNeg 3) x18) (Int32.toNatClampNeg 3)) fun (v57 : Int32) => gd (gin 3 4) <| bnd ((upd (upd (upd (upd (fun _ => 0) (Int32.toNatClampNeg 0) x3.1) (Int32.toNatClampNeg 1) x5.1) (Int32.toNatClampNeg 2) x7.1) (Int32.toNatClampNeg 3) x9.1) (Int32.toNatClampNeg 3)) fun (v59 : Int32) => bnd (v57 + v59) fun (v60 : Int32) => if x55 = v60 then (some (x20.2, x9.2)) else (none)) else (none)) else (none)) else (none)) else (none)) else (none)
set_option maxHeartbeats 8000000 in
set_option maxRecDepth 100000 in
theorem w_C3 {p : Program} {l : Launch} {e : Env} {s : State} {m : MethodId} {args : Array Value} {below : List Frame} {meth : Method} {c : Code} {Q : State → Prop} {A : Nat → Prop} {dC : Nat → ClassId} {dI : Nat → Nat → Nat} {cI cF cJ cD : ClassId} {b L : Nat} {xs : Nat → Int32} {tA tB : Nat} (hx : p.tables.exec = Jvm.exec) (hb : c.code = cL_law) (hml : c.maxLocals = 19) (hts : ∀ w ∈ LW, w.before args s = true) (hown : s.vm.findClass RL = some m.cls) (hK : va_K (dC, dI) vwCl (TY cI cF cJ cD) s) (hA : ∀ q : Nat, s.heap.size ≤ q → A q) (hE : EX b L xs tA tB A s) {ot oh ou od ow oa ob ok os fa tr q0 q1 q2 q3 q4 q5 q6 q7 q8 r0 r1 r2 r3 r4 r5 r6 r7 r8 t1 t2 t3 t4 t5 t6 t7 t8 qa : Nat} {rw : Nat → Option Nat} {pn : Int32} {tk : Nat → UInt64} {T : TD} {Hb : HB} {F : FR} {F2 : FR} {Tr : FR} {pt pk pp : Int32} (hq0 : f_X2_frameAt rw 0 = some (some q0)) (hq1 : f_X2_frameAt rw 1 = some (some r0)) (hr0 : rw (Int32.toNatClampNeg 0) = some q0) (hr1 : rw (Int32.toNatClampNeg 1) = some r0) (hr2 : rw (Int32.toNatClampNeg 2) = none) (hr3 : rw (Int32.toNatClampNeg 3) = none) (hfc : (hFc Hb) = 2) {res : (FR × FR)} (hf : f_C3 L xs pn tk T Hb F F2 Tr = some res) {H : Heap} {locs : List Loc} {ls : Array Slot} {cc ss : Nat} (hcc : cc + 2 ≤ 600000) (hss : ss + 8 ≤ 7000000) (hP : va_P (dC, dI) vwCl (wTD cI cF cJ ot oh b ou od ow oa ob ok os T ++ (wHB cI cF cJ oh fa tr rw Hb ++ (wFR cI cF cJ q0 q1 q2 q3 q4 q5 q6 q7 q8 F ++ (wFR cI cF cJ r0 r1 r2 r3 r4 r5 r6 r7 r8 F2 ++ (wFR cI cF cJ tr t1 t2 t3 t4 t5 t6 t7 t8 Tr ++ ([(qa, .inl (cD, 2, .inr (.inr (.inr (.inl tk)))))])))))) H) (hD : va_D A (wTD cI cF cJ ot oh b ou od ow oa ob ok os T ++ (wHB cI cF cJ oh fa tr rw Hb ++ (wFR cI cF cJ q0 q1 q2 q3 q4 q5 q6 q7 q8 F ++ (wFR cI cF cJ r0 r1 r2 r3 r4 r5 r6 r7 r8 F2 ++ (wFR cI cF cJ tr t1 t2 t3 t4 t5 t6 t7 t8 Tr ++ ([(qa, .inl (cD, 2, .inr (.inr (.inr (.inl tk)))))]))))))) (hS : va_S A s.heap H locs) (hl : lv_has ls 19 [(0, .ref b), (1, .int pt), (2, .ref oh), (3, .ref ot), (5, .int pk), (6, .int pn), (10, .ref qa), (11, .int pp), (13, .int 1)])
    (kk : ∀ (H : Heap) (locs : List Loc) (ls : Array Slot), va_P (dC, dI) vwCl (wTD cI cF cJ ot oh b ou od ow oa ob ok os T ++ (wHB cI cF cJ oh fa tr rw Hb ++ (wFR cI cF cJ q0 q1 q2 q3 q4 q5 q6 q7 q8 F ++ (wFR cI cF cJ r0 r1 r2 r3 r4 r5 r6 r7 r8 res.1 ++ (wFR cI cF cJ tr t1 t2 t3 t4 t5 t6 t7 t8 res.2 ++ ([(qa, .inl (cD, 2, .inr (.inr (.inr (.inl tk)))))])))))) H → va_D A (wTD cI cF cJ ot oh b ou od ow oa ob ok os T ++ (wHB cI cF cJ oh fa tr rw Hb ++ (wFR cI cF cJ q0 q1 q2 q3 q4 q5 q6 q7 q8 F ++ (wFR cI cF cJ r0 r1 r2 r3 r4 r5 r6 r7 r8 res.1 ++ (wFR cI cF cJ tr t1 t2 t3 t4 t5 t6 t7 t8 res.2 ++ ([(qa, .inl (cD, 2, .inr (.inr (.inr (.inl tk)))))])))))) → va_S A s.heap H locs → lv_has ls 19 [(0, .ref b), (1, .int pt), (2, .ref oh), (3, .ref ot), (5, .int pk), (6, .int pn), (10, .ref qa), (11, .int pp), (13, .int 2)] → W p l e room_1 s m args below meth c H locs ((cc + 2)) ((ss + 8)) Q (F0 m 460 ls [])) : W p l e room_1 s m args below meth c H locs cc ss Q (F0 m 460 ls []) := by
  have hkc := Nat.zero_le room_1.cells
  have hks := Nat.zero_le room_1.slots
  rw [f_C3] at hf
  refine lv_goto (tgt := 257) hx hb dL_law_460 (by decide) ?_
  refine lv_iload hx hb dL_law_257 (lv_at hl 8 rfl) ?_
  refine lv_iconst (v := 2) hx hb dL_law_259 (by decide) ?_
  refine lv_icmp_ge (tgt := 463) hx hb dL_law_260 (by decide) (fun c9 => absurd c9 (by decide)) (fun _ => ?_)
  refine lv_aload_n hx hb dL_law_263 rfl (lv_at hl 2 rfl) ?_
  refine lv_iload hx hb dL_law_264 (lv_at hl 8 rfl) ?_
  obtain ⟨x1, hx1, hf⟩ := obd_e hf
  refine sb_Vd (As := [.int 1]) (rest := []) ⟨hx, hb, hml, hown, hts⟩ (fun sz => c_X2_seconds l dC dI cI cF cJ cD oh fa tr r0 r1 r2 r3 r4 r5 r6 r7 r8 rw Hb F2 1 hq1 x1 hx1 sz) (cwV 1 hts (g_V q551 q552 q553 q172 q260) rfl rfl rfl pc_X2_seconds ⟨Nat.le_of_ble_eq_true rfl, Nat.le_of_ble_eq_true rfl⟩) 0 2 rfl rfl hK hP hD hS hA [7, 8, 18, 19, 20, 21, 22, 23, 24, 25, 26] [0, 1, 2, 3, 4, 5, 6, 9, 10, 11, 12, 13, 14, 15, 16, 17, 27, 28, 29, 30, 31, 32, 33, 34, 35, 36] rfl rfl (by decide) (by decide) (by decide) (fun _ _ _ _ h => h) (fun _ _ _ => trivial) rfl rfl hl.1 (Nat.le_of_ble_eq_true rfl) dL_law_266 ⟨Nat.le_trans (show cc + 0 ≤ 600000 by omega) (Nat.le_of_ble_eq_true rfl), Nat.le_trans (show ss + 0 ≤ 7000000 by omega) (Nat.le_of_ble_eq_true rfl)⟩ (fun r9 u H locs hr9 hP hD hS => ?_)
  have hr9 := Eq.symm hr9
  subst hr9
  have hP : va_P (dC, dI) vwCl (wTD cI cF cJ ot oh b ou od ow oa ob ok os T ++ (wHB cI cF cJ oh fa tr rw Hb ++ (wFR cI cF cJ q0 q1 q2 q3 q4 q5 q6 q7 q8 F ++ (wFR cI cF cJ r0 r1 r2 r3 r4 r5 r6 r7 r8 F2 ++ (wFR cI cF cJ tr t1 t2 t3 t4 t5 t6 t7 t8 Tr ++ ([(qa, .inl (cD, 2, .inr (.inr (.inr (.inl tk)))))])))))) H := hP.sub [0, 1, 2, 3, 4, 5, 6, 26, 27, 7, 8, 9, 10, 11, 12, 13, 14, 15, 28, 29, 30, 31, 32, 33, 34, 35, 36, 16, 17, 18, 19, 20, 21, 22, 23, 24, 25] rfl
  have hD : va_D A (wTD cI cF cJ ot oh b ou od ow oa ob ok os T ++ (wHB cI cF cJ oh fa tr rw Hb ++ (wFR cI cF cJ q0 q1 q2 q3 q4 q5 q6 q7 q8 F ++ (wFR cI cF cJ r0 r1 r2 r3 r4 r5 r6 r7 r8 F2 ++ (wFR cI cF cJ tr t1 t2 t3 t4 t5 t6 t7 t8 Tr ++ ([(qa, .inl (cD, 2, .inr (.inr (.inr (.inl tk)))))])))))) := hD.sub [0, 1, 2, 3, 4, 5, 6, 26, 27, 7, 8, 9, 10, 11, 12, 13, 14, 15, 28, 29, 30, 31, 32, 33, 34, 35, 36, 16, 17, 18, 19, 20, 21, 22, 23, 24, 25] (by decide) rfl
  refine lv_dstore (lv' := [(14, .double x1), (0, .ref b), (1, .int pt), (2, .ref oh), (3, .ref ot), (5, .int pk), (6, .int pn), (10, .ref qa), (11, .int pp), (13, .int 1)]) hx hb dL_law_269 hl (by decide) rfl (fun ls hl => ?_)
  refine lv_iconst (v := 4) hx hb dL_law_271 (by decide) ?_
  refine sb_newi hx hb (hts _ zq4) hK hP hD hS hA (N' := 4) (by decide) (by decide) (Nat.le_of_ble_eq_true rfl) (Nat.le_trans (show cc + 1 ≤ 600000 by omega) (Nat.le_of_ble_eq_true rfl)) (Nat.le_trans (show ss + 4 ≤ 7000000 by omega) (Nat.le_of_ble_eq_true rfl)) dL_law_272 (fun n2 H hP hD hS => ?_)
  refine W.widen (k := (cc + 1)) (n := (ss + 4)) (by omega) (by omega) ?_
  have hP : va_P (dC, dI) vwCl (wTD cI cF cJ ot oh b ou od ow oa ob ok os T ++ (wHB cI cF cJ oh fa tr rw Hb ++ (wFR cI cF cJ q0 q1 q2 q3 q4 q5 q6 q7 q8 F ++ (wFR cI cF cJ r0 r1 r2 r3 r4 r5 r6 r7 r8 F2 ++ (wFR cI cF cJ tr t1 t2 t3 t4 t5 t6 t7 t8 Tr ++ ([(qa, .inl (cD, 2, .inr (.inr (.inr (.inl tk)))))] ++ ([(n2, .inl (cI, 4, .inl (fun _ => 0)))]))))))) H := hP
  have hD : va_D A (wTD cI cF cJ ot oh b ou od ow oa ob ok os T ++ (wHB cI cF cJ oh fa tr rw Hb ++ (wFR cI cF cJ q0 q1 q2 q3 q4 q5 q6 q7 q8 F ++ (wFR cI cF cJ r0 r1 r2 r3 r4 r5 r6 r7 r8 F2 ++ (wFR cI cF cJ tr t1 t2 t3 t4 t5 t6 t7 t8 Tr ++ ([(qa, .inl (cD, 2, .inr (.inr (.inr (.inl tk)))))] ++ ([(n2, .inl (cI, 4, .inl (fun _ => 0)))]))))))) := hD
  refine lv_dup hx hb dL_law_274 rfl ?_
  refine lv_iconst (v := 0) hx hb dL_law_275 (by decide) ?_
  refine lv_aload_n hx hb dL_law_276 rfl (lv_at hl 3 rfl) ?_
  refine lv_iload hx hb dL_law_277 (lv_at hl 9 rfl) ?_
  refine lv_iload hx hb dL_law_279 (lv_at hl 6 rfl) ?_
  refine lv_iconst (v := 0) hx hb dL_law_281 (by decide) ?_
  obtain ⟨x3, hx3, hf⟩ := obd_e hf
  refine sb_Vi (As := [.int 1, .int pn, .int 0]) (rest := [.int 0, .ref n2, .ref n2]) ⟨hx, hb, hml, hown, hts⟩ (fun sz => c_X2_would l dC dI cI cF cJ cD oh fa tr r0 r1 r2 r3 r4 r5 r6 r7 r8 t1 t2 t3 t4 t5 t6 t7 t8 rw Hb F2 Tr 1 pn 0 hq1 x3 hx3 sz) (cwV 3 hts (g_V q554 q555 q556 q172 q288) rfl rfl rfl pc_X2_would ⟨Nat.le_of_ble_eq_true rfl, Nat.le_of_ble_eq_true rfl⟩) 0 2 rfl rfl hK hP hD hS hA [7, 8, 18, 19, 20, 21, 22, 23, 24, 25, 26, 27, 28, 29, 30, 31, 32, 33, 34, 35] [0, 1, 2, 3, 4, 5, 6, 9, 10, 11, 12, 13, 14, 15, 16, 17, 36, 37] rfl rfl (by decide) (by decide) (by decide) (fun _ _ _ _ h => h) (fun _ _ _ => trivial) rfl rfl hl.1 (Nat.le_of_ble_eq_true rfl) dL_law_282 ⟨Nat.le_trans (show (cc + 1) + 0 ≤ 600000 by omega) (Nat.le_of_ble_eq_true rfl), Nat.le_trans (show (ss + 4) + 0 ≤ 7000000 by omega) (Nat.le_of_ble_eq_true rfl)⟩ (fun r9 u H locs hr9 hP hD hS => ?_)
  have hr9 := Eq.symm hr9
  subst hr9
  have hP : va_P (dC, dI) vwCl (wTD cI cF cJ ot oh b ou od ow oa ob ok os T ++ (wHB cI cF cJ oh fa tr rw Hb ++ (wFR cI cF cJ q0 q1 q2 q3 q4 q5 q6 q7 q8 F ++ (wFR cI cF cJ r0 r1 r2 r3 r4 r5 r6 r7 r8 F2 ++ (wFR cI cF cJ tr t1 t2 t3 t4 t5 t6 t7 t8 x3.2 ++ ([(qa, .inl (cD, 2, .inr (.inr (.inr (.inl tk)))))] ++ ([(n2, .inl (cI, 4, .inl (fun _ => 0)))]))))))) H := hP.sub [0, 1, 2, 3, 4, 5, 6, 18, 19, 7, 8, 9, 10, 11, 12, 13, 14, 15, 20, 21, 22, 23, 24, 25, 26, 27, 28, 29, 30, 31, 32, 33, 34, 35, 36, 37, 16, 17] rfl
  have hD : va_D A (wTD cI cF cJ ot oh b ou od ow oa ob ok os T ++ (wHB cI cF cJ oh fa tr rw Hb ++ (wFR cI cF cJ q0 q1 q2 q3 q4 q5 q6 q7 q8 F ++ (wFR cI cF cJ r0 r1 r2 r3 r4 r5 r6 r7 r8 F2 ++ (wFR cI cF cJ tr t1 t2 t3 t4 t5 t6 t7 t8 x3.2 ++ ([(qa, .inl (cD, 2, .inr (.inr (.inr (.inl tk)))))] ++ ([(n2, .inl (cI, 4, .inl (fun _ => 0)))]))))))) := hD.sub [0, 1, 2, 3, 4, 5, 6, 18, 19, 7, 8, 9, 10, 11, 12, 13, 14, 15, 20, 21, 22, 23, 24, 25, 26, 27, 28, 29, 30, 31, 32, 33, 34, 35, 36, 37, 16, 17] (by decide) rfl
  obtain ⟨g4, hf⟩ := gd_e hf
  refine va_iast hx hb hK hP hD hS 37 0 rfl rfl (gin_in g4) dL_law_285 (fun H locs hP hD hS => ?_)
  have hP : va_P (dC, dI) vwCl (wTD cI cF cJ ot oh b ou od ow oa ob ok os T ++ (wHB cI cF cJ oh fa tr rw Hb ++ (wFR cI cF cJ q0 q1 q2 q3 q4 q5 q6 q7 q8 F ++ (wFR cI cF cJ r0 r1 r2 r3 r4 r5 r6 r7 r8 F2 ++ (wFR cI cF cJ tr t1 t2 t3 t4 t5 t6 t7 t8 x3.2 ++ ([(qa, .inl (cD, 2, .inr (.inr (.inr (.inl tk)))))] ++ ([(n2, .inl (cI, 4, .inl (upd (fun _ => 0) (Int32.toNatClampNeg 0) x3.1)))]))))))) H := hP
  have hD : va_D A (wTD cI cF cJ ot oh b ou od ow oa ob ok os T ++ (wHB cI cF cJ oh fa tr rw Hb ++ (wFR cI cF cJ q0 q1 q2 q3 q4 q5 q6 q7 q8 F ++ (wFR cI cF cJ r0 r1 r2 r3 r4 r5 r6 r7 r8 F2 ++ (wFR cI cF cJ tr t1 t2 t3 t4 t5 t6 t7 t8 x3.2 ++ ([(qa, .inl (cD, 2, .inr (.inr (.inr (.inl tk)))))] ++ ([(n2, .inl (cI, 4, .inl (upd (fun _ => 0) (Int32.toNatClampNeg 0) x3.1)))]))))))) := hD
  refine lv_dup hx hb dL_law_286 rfl ?_
  refine lv_iconst (v := 1) hx hb dL_law_287 (by decide) ?_
  refine lv_aload_n hx hb dL_law_288 rfl (lv_at hl 3 rfl) ?_
  refine lv_iload hx hb dL_law_289 (lv_at hl 9 rfl) ?_
  refine lv_iload hx hb dL_law_291 (lv_at hl 6 rfl) ?_
  refine lv_iconst (v := 1) hx hb dL_law_293 (by decide) ?_
  obtain ⟨x5, hx5, hf⟩ := obd_e hf
  refine sb_Vi (As := [.int 1, .int pn, .int 1]) (rest := [.int 1, .ref n2, .ref n2]) ⟨hx, hb, hml, hown, hts⟩ (fun sz => c_X2_would l dC dI cI cF cJ cD oh fa tr r0 r1 r2 r3 r4 r5 r6 r7 r8 t1 t2 t3 t4 t5 t6 t7 t8 rw Hb F2 x3.2 1 pn 1 hq1 x5 hx5 sz) (cwV 3 hts (g_V q554 q555 q556 q172 q288) rfl rfl rfl pc_X2_would ⟨Nat.le_of_ble_eq_true rfl, Nat.le_of_ble_eq_true rfl⟩) 0 2 rfl rfl hK hP hD hS hA [7, 8, 18, 19, 20, 21, 22, 23, 24, 25, 26, 27, 28, 29, 30, 31, 32, 33, 34, 35] [0, 1, 2, 3, 4, 5, 6, 9, 10, 11, 12, 13, 14, 15, 16, 17, 36, 37] rfl rfl (by decide) (by decide) (by decide) (fun _ _ _ _ h => h) (fun _ _ _ => trivial) rfl rfl hl.1 (Nat.le_of_ble_eq_true rfl) dL_law_294 ⟨Nat.le_trans (show (cc + 1) + 0 ≤ 600000 by omega) (Nat.le_of_ble_eq_true rfl), Nat.le_trans (show (ss + 4) + 0 ≤ 7000000 by omega) (Nat.le_of_ble_eq_true rfl)⟩ (fun r9 u H locs hr9 hP hD hS => ?_)
  have hr9 := Eq.symm hr9
  subst hr9
  have hP : va_P (dC, dI) vwCl (wTD cI cF cJ ot oh b ou od ow oa ob ok os T ++ (wHB cI cF cJ oh fa tr rw Hb ++ (wFR cI cF cJ q0 q1 q2 q3 q4 q5 q6 q7 q8 F ++ (wFR cI cF cJ r0 r1 r2 r3 r4 r5 r6 r7 r8 F2 ++ (wFR cI cF cJ tr t1 t2 t3 t4 t5 t6 t7 t8 x5.2 ++ ([(qa, .inl (cD, 2, .inr (.inr (.inr (.inl tk)))))] ++ ([(n2, .inl (cI, 4, .inl (upd (fun _ => 0) (Int32.toNatClampNeg 0) x3.1)))]))))))) H := hP.sub [0, 1, 2, 3, 4, 5, 6, 18, 19, 7, 8, 9, 10, 11, 12, 13, 14, 15, 20, 21, 22, 23, 24, 25, 26, 27, 28, 29, 30, 31, 32, 33, 34, 35, 36, 37, 16, 17] rfl
  have hD : va_D A (wTD cI cF cJ ot oh b ou od ow oa ob ok os T ++ (wHB cI cF cJ oh fa tr rw Hb ++ (wFR cI cF cJ q0 q1 q2 q3 q4 q5 q6 q7 q8 F ++ (wFR cI cF cJ r0 r1 r2 r3 r4 r5 r6 r7 r8 F2 ++ (wFR cI cF cJ tr t1 t2 t3 t4 t5 t6 t7 t8 x5.2 ++ ([(qa, .inl (cD, 2, .inr (.inr (.inr (.inl tk)))))] ++ ([(n2, .inl (cI, 4, .inl (upd (fun _ => 0) (Int32.toNatClampNeg 0) x3.1)))]))))))) := hD.sub [0, 1, 2, 3, 4, 5, 6, 18, 19, 7, 8, 9, 10, 11, 12, 13, 14, 15, 20, 21, 22, 23, 24, 25, 26, 27, 28, 29, 30, 31, 32, 33, 34, 35, 36, 37, 16, 17] (by decide) rfl
  obtain ⟨g6, hf⟩ := gd_e hf
  refine va_iast hx hb hK hP hD hS 37 0 rfl rfl (gin_in g6) dL_law_297 (fun H locs hP hD hS => ?_)
  have hP : va_P (dC, dI) vwCl (wTD cI cF cJ ot oh b ou od ow oa ob ok os T ++ (wHB cI cF cJ oh fa tr rw Hb ++ (wFR cI cF cJ q0 q1 q2 q3 q4 q5 q6 q7 q8 F ++ (wFR cI cF cJ r0 r1 r2 r3 r4 r5 r6 r7 r8 F2 ++ (wFR cI cF cJ tr t1 t2 t3 t4 t5 t6 t7 t8 x5.2 ++ ([(qa, .inl (cD, 2, .inr (.inr (.inr (.inl tk)))))] ++ ([(n2, .inl (cI, 4, .inl (upd (upd (fun _ => 0) (Int32.toNatClampNeg 0) x3.1) (Int32.toNatClampNeg 1) x5.1)))]))))))) H := hP
  have hD : va_D A (wTD cI cF cJ ot oh b ou od ow oa ob ok os T ++ (wHB cI cF cJ oh fa tr rw Hb ++ (wFR cI cF cJ q0 q1 q2 q3 q4 q5 q6 q7 q8 F ++ (wFR cI cF cJ r0 r1 r2 r3 r4 r5 r6 r7 r8 F2 ++ (wFR cI cF cJ tr t1 t2 t3 t4 t5 t6 t7 t8 x5.2 ++ ([(qa, .inl (cD, 2, .inr (.inr (.inr (.inl tk)))))] ++ ([(n2, .inl (cI, 4, .inl (upd (upd (fun _ => 0) (Int32.toNatClampNeg 0) x3.1) (Int32.toNatClampNeg 1) x5.1)))]))))))) := hD
  refine lv_dup hx hb dL_law_298 rfl ?_
  refine lv_iconst (v := 2) hx hb dL_law_299 (by decide) ?_
  refine lv_aload_n hx hb dL_law_300 rfl (lv_at hl 3 rfl) ?_
  refine lv_iload hx hb dL_law_301 (lv_at hl 9 rfl) ?_
  refine lv_iload hx hb dL_law_303 (lv_at hl 6 rfl) ?_
  refine lv_iconst (v := 2) hx hb dL_law_305 (by decide) ?_
  obtain ⟨x7, hx7, hf⟩ := obd_e hf
  refine sb_Vi (As := [.int 1, .int pn, .int 2]) (rest := [.int 2, .ref n2, .ref n2]) ⟨hx, hb, hml, hown, hts⟩ (fun sz => c_X2_would l dC dI cI cF cJ cD oh fa tr r0 r1 r2 r3 r4 r5 r6 r7 r8 t1 t2 t3 t4 t5 t6 t7 t8 rw Hb F2 x5.2 1 pn 2 hq1 x7 hx7 sz) (cwV 3 hts (g_V q554 q555 q556 q172 q288) rfl rfl rfl pc_X2_would ⟨Nat.le_of_ble_eq_true rfl, Nat.le_of_ble_eq_true rfl⟩) 0 2 rfl rfl hK hP hD hS hA [7, 8, 18, 19, 20, 21, 22, 23, 24, 25, 26, 27, 28, 29, 30, 31, 32, 33, 34, 35] [0, 1, 2, 3, 4, 5, 6, 9, 10, 11, 12, 13, 14, 15, 16, 17, 36, 37] rfl rfl (by decide) (by decide) (by decide) (fun _ _ _ _ h => h) (fun _ _ _ => trivial) rfl rfl hl.1 (Nat.le_of_ble_eq_true rfl) dL_law_306 ⟨Nat.le_trans (show (cc + 1) + 0 ≤ 600000 by omega) (Nat.le_of_ble_eq_true rfl), Nat.le_trans (show (ss + 4) + 0 ≤ 7000000 by omega) (Nat.le_of_ble_eq_true rfl)⟩ (fun r9 u H locs hr9 hP hD hS => ?_)
  have hr9 := Eq.symm hr9
  subst hr9
  have hP : va_P (dC, dI) vwCl (wTD cI cF cJ ot oh b ou od ow oa ob ok os T ++ (wHB cI cF cJ oh fa tr rw Hb ++ (wFR cI cF cJ q0 q1 q2 q3 q4 q5 q6 q7 q8 F ++ (wFR cI cF cJ r0 r1 r2 r3 r4 r5 r6 r7 r8 F2 ++ (wFR cI cF cJ tr t1 t2 t3 t4 t5 t6 t7 t8 x7.2 ++ ([(qa, .inl (cD, 2, .inr (.inr (.inr (.inl tk)))))] ++ ([(n2, .inl (cI, 4, .inl (upd (upd (fun _ => 0) (Int32.toNatClampNeg 0) x3.1) (Int32.toNatClampNeg 1) x5.1)))]))))))) H := hP.sub [0, 1, 2, 3, 4, 5, 6, 18, 19, 7, 8, 9, 10, 11, 12, 13, 14, 15, 20, 21, 22, 23, 24, 25, 26, 27, 28, 29, 30, 31, 32, 33, 34, 35, 36, 37, 16, 17] rfl
  have hD : va_D A (wTD cI cF cJ ot oh b ou od ow oa ob ok os T ++ (wHB cI cF cJ oh fa tr rw Hb ++ (wFR cI cF cJ q0 q1 q2 q3 q4 q5 q6 q7 q8 F ++ (wFR cI cF cJ r0 r1 r2 r3 r4 r5 r6 r7 r8 F2 ++ (wFR cI cF cJ tr t1 t2 t3 t4 t5 t6 t7 t8 x7.2 ++ ([(qa, .inl (cD, 2, .inr (.inr (.inr (.inl tk)))))] ++ ([(n2, .inl (cI, 4, .inl (upd (upd (fun _ => 0) (Int32.toNatClampNeg 0) x3.1) (Int32.toNatClampNeg 1) x5.1)))]))))))) := hD.sub [0, 1, 2, 3, 4, 5, 6, 18, 19, 7, 8, 9, 10, 11, 12, 13, 14, 15, 20, 21, 22, 23, 24, 25, 26, 27, 28, 29, 30, 31, 32, 33, 34, 35, 36, 37, 16, 17] (by decide) rfl
  obtain ⟨g8, hf⟩ := gd_e hf
  refine va_iast hx hb hK hP hD hS 37 0 rfl rfl (gin_in g8) dL_law_309 (fun H locs hP hD hS => ?_)
  have hP : va_P (dC, dI) vwCl (wTD cI cF cJ ot oh b ou od ow oa ob ok os T ++ (wHB cI cF cJ oh fa tr rw Hb ++ (wFR cI cF cJ q0 q1 q2 q3 q4 q5 q6 q7 q8 F ++ (wFR cI cF cJ r0 r1 r2 r3 r4 r5 r6 r7 r8 F2 ++ (wFR cI cF cJ tr t1 t2 t3 t4 t5 t6 t7 t8 x7.2 ++ ([(qa, .inl (cD, 2, .inr (.inr (.inr (.inl tk)))))] ++ ([(n2, .inl (cI, 4, .inl (upd (upd (upd (fun _ => 0) (Int32.toNatClampNeg 0) x3.1) (Int32.toNatClampNeg 1) x5.1) (Int32.toNatClampNeg 2) x7.1)))]))))))) H := hP
  have hD : va_D A (wTD cI cF cJ ot oh b ou od ow oa ob ok os T ++ (wHB cI cF cJ oh fa tr rw Hb ++ (wFR cI cF cJ q0 q1 q2 q3 q4 q5 q6 q7 q8 F ++ (wFR cI cF cJ r0 r1 r2 r3 r4 r5 r6 r7 r8 F2 ++ (wFR cI cF cJ tr t1 t2 t3 t4 t5 t6 t7 t8 x7.2 ++ ([(qa, .inl (cD, 2, .inr (.inr (.inr (.inl tk)))))] ++ ([(n2, .inl (cI, 4, .inl (upd (upd (upd (fun _ => 0) (Int32.toNatClampNeg 0) x3.1) (Int32.toNatClampNeg 1) x5.1) (Int32.toNatClampNeg 2) x7.1)))]))))))) := hD
  refine lv_dup hx hb dL_law_310 rfl ?_
  refine lv_iconst (v := 3) hx hb dL_law_311 (by decide) ?_
  refine lv_aload_n hx hb dL_law_312 rfl (lv_at hl 3 rfl) ?_
  refine lv_iload hx hb dL_law_313 (lv_at hl 9 rfl) ?_
  refine lv_iload hx hb dL_law_315 (lv_at hl 6 rfl) ?_
  refine lv_iconst (v := 3) hx hb dL_law_317 (by decide) ?_
  obtain ⟨x9, hx9, hf⟩ := obd_e hf
  refine sb_Vi (As := [.int 1, .int pn, .int 3]) (rest := [.int 3, .ref n2, .ref n2]) ⟨hx, hb, hml, hown, hts⟩ (fun sz => c_X2_would l dC dI cI cF cJ cD oh fa tr r0 r1 r2 r3 r4 r5 r6 r7 r8 t1 t2 t3 t4 t5 t6 t7 t8 rw Hb F2 x7.2 1 pn 3 hq1 x9 hx9 sz) (cwV 3 hts (g_V q554 q555 q556 q172 q288) rfl rfl rfl pc_X2_would ⟨Nat.le_of_ble_eq_true rfl, Nat.le_of_ble_eq_true rfl⟩) 0 2 rfl rfl hK hP hD hS hA [7, 8, 18, 19, 20, 21, 22, 23, 24, 25, 26, 27, 28, 29, 30, 31, 32, 33, 34, 35] [0, 1, 2, 3, 4, 5, 6, 9, 10, 11, 12, 13, 14, 15, 16, 17, 36, 37] rfl rfl (by decide) (by decide) (by decide) (fun _ _ _ _ h => h) (fun _ _ _ => trivial) rfl rfl hl.1 (Nat.le_of_ble_eq_true rfl) dL_law_318 ⟨Nat.le_trans (show (cc + 1) + 0 ≤ 600000 by omega) (Nat.le_of_ble_eq_true rfl), Nat.le_trans (show (ss + 4) + 0 ≤ 7000000 by omega) (Nat.le_of_ble_eq_true rfl)⟩ (fun r9 u H locs hr9 hP hD hS => ?_)
  have hr9 := Eq.symm hr9
  subst hr9
  have hP : va_P (dC, dI) vwCl (wTD cI cF cJ ot oh b ou od ow oa ob ok os T ++ (wHB cI cF cJ oh fa tr rw Hb ++ (wFR cI cF cJ q0 q1 q2 q3 q4 q5 q6 q7 q8 F ++ (wFR cI cF cJ r0 r1 r2 r3 r4 r5 r6 r7 r8 F2 ++ (wFR cI cF cJ tr t1 t2 t3 t4 t5 t6 t7 t8 x9.2 ++ ([(qa, .inl (cD, 2, .inr (.inr (.inr (.inl tk)))))] ++ ([(n2, .inl (cI, 4, .inl (upd (upd (upd (fun _ => 0) (Int32.toNatClampNeg 0) x3.1) (Int32.toNatClampNeg 1) x5.1) (Int32.toNatClampNeg 2) x7.1)))]))))))) H := hP.sub [0, 1, 2, 3, 4, 5, 6, 18, 19, 7, 8, 9, 10, 11, 12, 13, 14, 15, 20, 21, 22, 23, 24, 25, 26, 27, 28, 29, 30, 31, 32, 33, 34, 35, 36, 37, 16, 17] rfl
  have hD : va_D A (wTD cI cF cJ ot oh b ou od ow oa ob ok os T ++ (wHB cI cF cJ oh fa tr rw Hb ++ (wFR cI cF cJ q0 q1 q2 q3 q4 q5 q6 q7 q8 F ++ (wFR cI cF cJ r0 r1 r2 r3 r4 r5 r6 r7 r8 F2 ++ (wFR cI cF cJ tr t1 t2 t3 t4 t5 t6 t7 t8 x9.2 ++ ([(qa, .inl (cD, 2, .inr (.inr (.inr (.inl tk)))))] ++ ([(n2, .inl (cI, 4, .inl (upd (upd (upd (fun _ => 0) (Int32.toNatClampNeg 0) x3.1) (Int32.toNatClampNeg 1) x5.1) (Int32.toNatClampNeg 2) x7.1)))]))))))) := hD.sub [0, 1, 2, 3, 4, 5, 6, 18, 19, 7, 8, 9, 10, 11, 12, 13, 14, 15, 20, 21, 22, 23, 24, 25, 26, 27, 28, 29, 30, 31, 32, 33, 34, 35, 36, 37, 16, 17] (by decide) rfl
  obtain ⟨g10, hf⟩ := gd_e hf
  refine va_iast hx hb hK hP hD hS 37 0 rfl rfl (gin_in g10) dL_law_321 (fun H locs hP hD hS => ?_)
  have hP : va_P (dC, dI) vwCl (wTD cI cF cJ ot oh b ou od ow oa ob ok os T ++ (wHB cI cF cJ oh fa tr rw Hb ++ (wFR cI cF cJ q0 q1 q2 q3 q4 q5 q6 q7 q8 F ++ (wFR cI cF cJ r0 r1 r2 r3 r4 r5 r6 r7 r8 F2 ++ (wFR cI cF cJ tr t1 t2 t3 t4 t5 t6 t7 t8 x9.2 ++ ([(qa, .inl (cD, 2, .inr (.inr (.inr (.inl tk)))))] ++ ([(n2, .inl (cI, 4, .inl (upd (upd (upd (upd (fun _ => 0) (Int32.toNatClampNeg 0) x3.1) (Int32.toNatClampNeg 1) x5.1) (Int32.toNatClampNeg 2) x7.1) (Int32.toNatClampNeg 3) x9.1)))]))))))) H := hP
  have hD : va_D A (wTD cI cF cJ ot oh b ou od ow oa ob ok os T ++ (wHB cI cF cJ oh fa tr rw Hb ++ (wFR cI cF cJ q0 q1 q2 q3 q4 q5 q6 q7 q8 F ++ (wFR cI cF cJ r0 r1 r2 r3 r4 r5 r6 r7 r8 F2 ++ (wFR cI cF cJ tr t1 t2 t3 t4 t5 t6 t7 t8 x9.2 ++ ([(qa, .inl (cD, 2, .inr (.inr (.inr (.inl tk)))))] ++ ([(n2, .inl (cI, 4, .inl (upd (upd (upd (upd (fun _ => 0) (Int32.toNatClampNeg 0) x3.1) (Int32.toNatClampNeg 1) x5.1) (Int32.toNatClampNeg 2) x7.1) (Int32.toNatClampNeg 3) x9.1)))]))))))) := hD
  refine lv_astore (lv' := [(16, .ref n2), (14, .double x1), (0, .ref b), (1, .int pt), (2, .ref oh), (3, .ref ot), (5, .int pk), (6, .int pn), (10, .ref qa), (11, .int pp), (13, .int 1)]) hx hb dL_law_322 hl (by decide) rfl (fun ls hl => ?_)
  refine lv_iconst (v := 4) hx hb dL_law_324 (by decide) ?_
  refine sb_newi hx hb (hts _ zq4) hK hP hD hS hA (N' := 4) (by decide) (by decide) (Nat.le_of_ble_eq_true rfl) (Nat.le_trans (show (cc + 1) + 1 ≤ 600000 by omega) (Nat.le_of_ble_eq_true rfl)) (Nat.le_trans (show (ss + 4) + 4 ≤ 7000000 by omega) (Nat.le_of_ble_eq_true rfl)) dL_law_325 (fun n11 H hP hD hS => ?_)
  refine W.widen (k := (cc + 2)) (n := (ss + 8)) (by omega) (by omega) ?_
  have hP : va_P (dC, dI) vwCl (wTD cI cF cJ ot oh b ou od ow oa ob ok os T ++ (wHB cI cF cJ oh fa tr rw Hb ++ (wFR cI cF cJ q0 q1 q2 q3 q4 q5 q6 q7 q8 F ++ (wFR cI cF cJ r0 r1 r2 r3 r4 r5 r6 r7 r8 F2 ++ (wFR cI cF cJ tr t1 t2 t3 t4 t5 t6 t7 t8 x9.2 ++ ([(qa, .inl (cD, 2, .inr (.inr (.inr (.inl tk)))))] ++ ([(n2, .inl (cI, 4, .inl (upd (upd (upd (upd (fun _ => 0) (Int32.toNatClampNeg 0) x3.1) (Int32.toNatClampNeg 1) x5.1) (Int32.toNatClampNeg 2) x7.1) (Int32.toNatClampNeg 3) x9.1)))] ++ ([(n11, .inl (cI, 4, .inl (fun _ => 0)))])))))))) H := hP
  have hD : va_D A (wTD cI cF cJ ot oh b ou od ow oa ob ok os T ++ (wHB cI cF cJ oh fa tr rw Hb ++ (wFR cI cF cJ q0 q1 q2 q3 q4 q5 q6 q7 q8 F ++ (wFR cI cF cJ r0 r1 r2 r3 r4 r5 r6 r7 r8 F2 ++ (wFR cI cF cJ tr t1 t2 t3 t4 t5 t6 t7 t8 x9.2 ++ ([(qa, .inl (cD, 2, .inr (.inr (.inr (.inl tk)))))] ++ ([(n2, .inl (cI, 4, .inl (upd (upd (upd (upd (fun _ => 0) (Int32.toNatClampNeg 0) x3.1) (Int32.toNatClampNeg 1) x5.1) (Int32.toNatClampNeg 2) x7.1) (Int32.toNatClampNeg 3) x9.1)))] ++ ([(n11, .inl (cI, 4, .inl (fun _ => 0)))])))))))) := hD
  refine lv_dup hx hb dL_law_327 rfl ?_
  refine lv_iconst (v := 0) hx hb dL_law_328 (by decide) ?_
  refine lv_aload_n hx hb dL_law_329 rfl (lv_at hl 4 rfl) ?_
  refine lv_iload hx hb dL_law_330 (lv_at hl 10 rfl) ?_
  refine lv_iconst (v := 2) hx hb dL_law_332 (by decide) ?_
  obtain ⟨x12, hx12, hf⟩ := obd_e hf
  refine sb_Vi (As := [.int 1, .int 2]) (rest := [.int 0, .ref n11, .ref n11]) ⟨hx, hb, hml, hown, hts⟩ (fun sz => c_X2_ofFrame l dC dI cI cF cJ cD oh fa tr r0 r1 r2 r3 r4 r5 r6 r7 r8 rw Hb F2 1 2 hq1 x12 hx12 sz) (cwV 2 hts (g_V q557 q558 q559 q172 q259) rfl rfl rfl pc_X2_ofFrame ⟨Nat.le_of_ble_eq_true rfl, Nat.le_of_ble_eq_true rfl⟩) 0 2 rfl rfl hK hP hD hS hA [7, 8, 18, 19, 20, 21, 22, 23, 24, 25, 26] [0, 1, 2, 3, 4, 5, 6, 9, 10, 11, 12, 13, 14, 15, 16, 17, 27, 28, 29, 30, 31, 32, 33, 34, 35, 36, 37, 38] rfl rfl (by decide) (by decide) (by decide) (fun _ _ _ _ h => h) (fun _ _ _ => trivial) rfl rfl hl.1 (Nat.le_of_ble_eq_true rfl) dL_law_333 ⟨Nat.le_trans (show (cc + 2) + 0 ≤ 600000 by omega) (Nat.le_of_ble_eq_true rfl), Nat.le_trans (show (ss + 8) + 0 ≤ 7000000 by omega) (Nat.le_of_ble_eq_true rfl)⟩ (fun r9 u H locs hr9 hP hD hS => ?_)
  have hr9 := Eq.symm hr9
  subst hr9
  have hP : va_P (dC, dI) vwCl (wTD cI cF cJ ot oh b ou od ow oa ob ok os T ++ (wHB cI cF cJ oh fa tr rw Hb ++ (wFR cI cF cJ q0 q1 q2 q3 q4 q5 q6 q7 q8 F ++ (wFR cI cF cJ r0 r1 r2 r3 r4 r5 r6 r7 r8 F2 ++ (wFR cI cF cJ tr t1 t2 t3 t4 t5 t6 t7 t8 x9.2 ++ ([(qa, .inl (cD, 2, .inr (.inr (.inr (.inl tk)))))] ++ ([(n2, .inl (cI, 4, .inl (upd (upd (upd (upd (fun _ => 0) (Int32.toNatClampNeg 0) x3.1) (Int32.toNatClampNeg 1) x5.1) (Int32.toNatClampNeg 2) x7.1) (Int32.toNatClampNeg 3) x9.1)))] ++ ([(n11, .inl (cI, 4, .inl (fun _ => 0)))])))))))) H := hP.sub [0, 1, 2, 3, 4, 5, 6, 28, 29, 7, 8, 9, 10, 11, 12, 13, 14, 15, 30, 31, 32, 33, 34, 35, 36, 37, 38, 16, 17, 18, 19, 20, 21, 22, 23, 24, 25, 26, 27] rfl
  have hD : va_D A (wTD cI cF cJ ot oh b ou od ow oa ob ok os T ++ (wHB cI cF cJ oh fa tr rw Hb ++ (wFR cI cF cJ q0 q1 q2 q3 q4 q5 q6 q7 q8 F ++ (wFR cI cF cJ r0 r1 r2 r3 r4 r5 r6 r7 r8 F2 ++ (wFR cI cF cJ tr t1 t2 t3 t4 t5 t6 t7 t8 x9.2 ++ ([(qa, .inl (cD, 2, .inr (.inr (.inr (.inl tk)))))] ++ ([(n2, .inl (cI, 4, .inl (upd (upd (upd (upd (fun _ => 0) (Int32.toNatClampNeg 0) x3.1) (Int32.toNatClampNeg 1) x5.1) (Int32.toNatClampNeg 2) x7.1) (Int32.toNatClampNeg 3) x9.1)))] ++ ([(n11, .inl (cI, 4, .inl (fun _ => 0)))])))))))) := hD.sub [0, 1, 2, 3, 4, 5, 6, 28, 29, 7, 8, 9, 10, 11, 12, 13, 14, 15, 30, 31, 32, 33, 34, 35, 36, 37, 38, 16, 17, 18, 19, 20, 21, 22, 23, 24, 25, 26, 27] (by decide) rfl
  obtain ⟨g13, hf⟩ := gd_e hf
  refine va_iast hx hb hK hP hD hS 38 0 rfl rfl (gin_in g13) dL_law_336 (fun H locs hP hD hS => ?_)
  have hP : va_P (dC, dI) vwCl (wTD cI cF cJ ot oh b ou od ow oa ob ok os T ++ (wHB cI cF cJ oh fa tr rw Hb ++ (wFR cI cF cJ q0 q1 q2 q3 q4 q5 q6 q7 q8 F ++ (wFR cI cF cJ r0 r1 r2 r3 r4 r5 r6 r7 r8 F2 ++ (wFR cI cF cJ tr t1 t2 t3 t4 t5 t6 t7 t8 x9.2 ++ ([(qa, .inl (cD, 2, .inr (.inr (.inr (.inl tk)))))] ++ ([(n2, .inl (cI, 4, .inl (upd (upd (upd (upd (fun _ => 0) (Int32.toNatClampNeg 0) x3.1) (Int32.toNatClampNeg 1) x5.1) (Int32.toNatClampNeg 2) x7.1) (Int32.toNatClampNeg 3) x9.1)))] ++ ([(n11, .inl (cI, 4, .inl (upd (fun _ => 0) (Int32.toNatClampNeg 0) x12)))])))))))) H := hP
  have hD : va_D A (wTD cI cF cJ ot oh b ou od ow oa ob ok os T ++ (wHB cI cF cJ oh fa tr rw Hb ++ (wFR cI cF cJ q0 q1 q2 q3 q4 q5 q6 q7 q8 F ++ (wFR cI cF cJ r0 r1 r2 r3 r4 r5 r6 r7 r8 F2 ++ (wFR cI cF cJ tr t1 t2 t3 t4 t5 t6 t7 t8 x9.2 ++ ([(qa, .inl (cD, 2, .inr (.inr (.inr (.inl tk)))))] ++ ([(n2, .inl (cI, 4, .inl (upd (upd (upd (upd (fun _ => 0) (Int32.toNatClampNeg 0) x3.1) (Int32.toNatClampNeg 1) x5.1) (Int32.toNatClampNeg 2) x7.1) (Int32.toNatClampNeg 3) x9.1)))] ++ ([(n11, .inl (cI, 4, .inl (upd (fun _ => 0) (Int32.toNatClampNeg 0) x12)))])))))))) := hD
  refine lv_dup hx hb dL_law_337 rfl ?_
  refine lv_iconst (v := 1) hx hb dL_law_338 (by decide) ?_
  refine lv_aload_n hx hb dL_law_339 rfl (lv_at hl 4 rfl) ?_
  refine lv_iload hx hb dL_law_340 (lv_at hl 10 rfl) ?_
  refine lv_iconst (v := 3) hx hb dL_law_342 (by decide) ?_
  obtain ⟨x14, hx14, hf⟩ := obd_e hf
  refine sb_Vi (As := [.int 1, .int 3]) (rest := [.int 1, .ref n11, .ref n11]) ⟨hx, hb, hml, hown, hts⟩ (fun sz => c_X2_ofFrame l dC dI cI cF cJ cD oh fa tr r0 r1 r2 r3 r4 r5 r6 r7 r8 rw Hb F2 1 3 hq1 x14 hx14 sz) (cwV 2 hts (g_V q557 q558 q559 q172 q259) rfl rfl rfl pc_X2_ofFrame ⟨Nat.le_of_ble_eq_true rfl, Nat.le_of_ble_eq_true rfl⟩) 0 2 rfl rfl hK hP hD hS hA [7, 8, 18, 19, 20, 21, 22, 23, 24, 25, 26] [0, 1, 2, 3, 4, 5, 6, 9, 10, 11, 12, 13, 14, 15, 16, 17, 27, 28, 29, 30, 31, 32, 33, 34, 35, 36, 37, 38] rfl rfl (by decide) (by decide) (by decide) (fun _ _ _ _ h => h) (fun _ _ _ => trivial) rfl rfl hl.1 (Nat.le_of_ble_eq_true rfl) dL_law_343 ⟨Nat.le_trans (show (cc + 2) + 0 ≤ 600000 by omega) (Nat.le_of_ble_eq_true rfl), Nat.le_trans (show (ss + 8) + 0 ≤ 7000000 by omega) (Nat.le_of_ble_eq_true rfl)⟩ (fun r9 u H locs hr9 hP hD hS => ?_)
  have hr9 := Eq.symm hr9
  subst hr9
  have hP : va_P (dC, dI) vwCl (wTD cI cF cJ ot oh b ou od ow oa ob ok os T ++ (wHB cI cF cJ oh fa tr rw Hb ++ (wFR cI cF cJ q0 q1 q2 q3 q4 q5 q6 q7 q8 F ++ (wFR cI cF cJ r0 r1 r2 r3 r4 r5 r6 r7 r8 F2 ++ (wFR cI cF cJ tr t1 t2 t3 t4 t5 t6 t7 t8 x9.2 ++ ([(qa, .inl (cD, 2, .inr (.inr (.inr (.inl tk)))))] ++ ([(n2, .inl (cI, 4, .inl (upd (upd (upd (upd (fun _ => 0) (Int32.toNatClampNeg 0) x3.1) (Int32.toNatClampNeg 1) x5.1) (Int32.toNatClampNeg 2) x7.1) (Int32.toNatClampNeg 3) x9.1)))] ++ ([(n11, .inl (cI, 4, .inl (upd (fun _ => 0) (Int32.toNatClampNeg 0) x12)))])))))))) H := hP.sub [0, 1, 2, 3, 4, 5, 6, 28, 29, 7, 8, 9, 10, 11, 12, 13, 14, 15, 30, 31, 32, 33, 34, 35, 36, 37, 38, 16, 17, 18, 19, 20, 21, 22, 23, 24, 25, 26, 27] rfl
  have hD : va_D A (wTD cI cF cJ ot oh b ou od ow oa ob ok os T ++ (wHB cI cF cJ oh fa tr rw Hb ++ (wFR cI cF cJ q0 q1 q2 q3 q4 q5 q6 q7 q8 F ++ (wFR cI cF cJ r0 r1 r2 r3 r4 r5 r6 r7 r8 F2 ++ (wFR cI cF cJ tr t1 t2 t3 t4 t5 t6 t7 t8 x9.2 ++ ([(qa, .inl (cD, 2, .inr (.inr (.inr (.inl tk)))))] ++ ([(n2, .inl (cI, 4, .inl (upd (upd (upd (upd (fun _ => 0) (Int32.toNatClampNeg 0) x3.1) (Int32.toNatClampNeg 1) x5.1) (Int32.toNatClampNeg 2) x7.1) (Int32.toNatClampNeg 3) x9.1)))] ++ ([(n11, .inl (cI, 4, .inl (upd (fun _ => 0) (Int32.toNatClampNeg 0) x12)))])))))))) := hD.sub [0, 1, 2, 3, 4, 5, 6, 28, 29, 7, 8, 9, 10, 11, 12, 13, 14, 15, 30, 31, 32, 33, 34, 35, 36, 37, 38, 16, 17, 18, 19, 20, 21, 22, 23, 24, 25, 26, 27] (by decide) rfl
  obtain ⟨g15, hf⟩ := gd_e hf
  refine va_iast hx hb hK hP hD hS 38 0 rfl rfl (gin_in g15) dL_law_346 (fun H locs hP hD hS => ?_)
  have hP : va_P (dC, dI) vwCl (wTD cI cF cJ ot oh b ou od ow oa ob ok os T ++ (wHB cI cF cJ oh fa tr rw Hb ++ (wFR cI cF cJ q0 q1 q2 q3 q4 q5 q6 q7 q8 F ++ (wFR cI cF cJ r0 r1 r2 r3 r4 r5 r6 r7 r8 F2 ++ (wFR cI cF cJ tr t1 t2 t3 t4 t5 t6 t7 t8 x9.2 ++ ([(qa, .inl (cD, 2, .inr (.inr (.inr (.inl tk)))))] ++ ([(n2, .inl (cI, 4, .inl (upd (upd (upd (upd (fun _ => 0) (Int32.toNatClampNeg 0) x3.1) (Int32.toNatClampNeg 1) x5.1) (Int32.toNatClampNeg 2) x7.1) (Int32.toNatClampNeg 3) x9.1)))] ++ ([(n11, .inl (cI, 4, .inl (upd (upd (fun _ => 0) (Int32.toNatClampNeg 0) x12) (Int32.toNatClampNeg 1) x14)))])))))))) H := hP
  have hD : va_D A (wTD cI cF cJ ot oh b ou od ow oa ob ok os T ++ (wHB cI cF cJ oh fa tr rw Hb ++ (wFR cI cF cJ q0 q1 q2 q3 q4 q5 q6 q7 q8 F ++ (wFR cI cF cJ r0 r1 r2 r3 r4 r5 r6 r7 r8 F2 ++ (wFR cI cF cJ tr t1 t2 t3 t4 t5 t6 t7 t8 x9.2 ++ ([(qa, .inl (cD, 2, .inr (.inr (.inr (.inl tk)))))] ++ ([(n2, .inl (cI, 4, .inl (upd (upd (upd (upd (fun _ => 0) (Int32.toNatClampNeg 0) x3.1) (Int32.toNatClampNeg 1) x5.1) (Int32.toNatClampNeg 2) x7.1) (Int32.toNatClampNeg 3) x9.1)))] ++ ([(n11, .inl (cI, 4, .inl (upd (upd (fun _ => 0) (Int32.toNatClampNeg 0) x12) (Int32.toNatClampNeg 1) x14)))])))))))) := hD
  refine lv_dup hx hb dL_law_347 rfl ?_
  refine lv_iconst (v := 2) hx hb dL_law_348 (by decide) ?_
  refine lv_aload_n hx hb dL_law_349 rfl (lv_at hl 4 rfl) ?_
  refine lv_iload hx hb dL_law_350 (lv_at hl 10 rfl) ?_
  refine lv_iconst (v := 4) hx hb dL_law_352 (by decide) ?_
  obtain ⟨x16, hx16, hf⟩ := obd_e hf
  refine sb_Vi (As := [.int 1, .int 4]) (rest := [.int 2, .ref n11, .ref n11]) ⟨hx, hb, hml, hown, hts⟩ (fun sz => c_X2_ofFrame l dC dI cI cF cJ cD oh fa tr r0 r1 r2 r3 r4 r5 r6 r7 r8 rw Hb F2 1 4 hq1 x16 hx16 sz) (cwV 2 hts (g_V q557 q558 q559 q172 q259) rfl rfl rfl pc_X2_ofFrame ⟨Nat.le_of_ble_eq_true rfl, Nat.le_of_ble_eq_true rfl⟩) 0 2 rfl rfl hK hP hD hS hA [7, 8, 18, 19, 20, 21, 22, 23, 24, 25, 26] [0, 1, 2, 3, 4, 5, 6, 9, 10, 11, 12, 13, 14, 15, 16, 17, 27, 28, 29, 30, 31, 32, 33, 34, 35, 36, 37, 38] rfl rfl (by decide) (by decide) (by decide) (fun _ _ _ _ h => h) (fun _ _ _ => trivial) rfl rfl hl.1 (Nat.le_of_ble_eq_true rfl) dL_law_353 ⟨Nat.le_trans (show (cc + 2) + 0 ≤ 600000 by omega) (Nat.le_of_ble_eq_true rfl), Nat.le_trans (show (ss + 8) + 0 ≤ 7000000 by omega) (Nat.le_of_ble_eq_true rfl)⟩ (fun r9 u H locs hr9 hP hD hS => ?_)
  have hr9 := Eq.symm hr9
  subst hr9
  have hP : va_P (dC, dI) vwCl (wTD cI cF cJ ot oh b ou od ow oa ob ok os T ++ (wHB cI cF cJ oh fa tr rw Hb ++ (wFR cI cF cJ q0 q1 q2 q3 q4 q5 q6 q7 q8 F ++ (wFR cI cF cJ r0 r1 r2 r3 r4 r5 r6 r7 r8 F2 ++ (wFR cI cF cJ tr t1 t2 t3 t4 t5 t6 t7 t8 x9.2 ++ ([(qa, .inl (cD, 2, .inr (.inr (.inr (.inl tk)))))] ++ ([(n2, .inl (cI, 4, .inl (upd (upd (upd (upd (fun _ => 0) (Int32.toNatClampNeg 0) x3.1) (Int32.toNatClampNeg 1) x5.1) (Int32.toNatClampNeg 2) x7.1) (Int32.toNatClampNeg 3) x9.1)))] ++ ([(n11, .inl (cI, 4, .inl (upd (upd (fun _ => 0) (Int32.toNatClampNeg 0) x12) (Int32.toNatClampNeg 1) x14)))])))))))) H := hP.sub [0, 1, 2, 3, 4, 5, 6, 28, 29, 7, 8, 9, 10, 11, 12, 13, 14, 15, 30, 31, 32, 33, 34, 35, 36, 37, 38, 16, 17, 18, 19, 20, 21, 22, 23, 24, 25, 26, 27] rfl
  have hD : va_D A (wTD cI cF cJ ot oh b ou od ow oa ob ok os T ++ (wHB cI cF cJ oh fa tr rw Hb ++ (wFR cI cF cJ q0 q1 q2 q3 q4 q5 q6 q7 q8 F ++ (wFR cI cF cJ r0 r1 r2 r3 r4 r5 r6 r7 r8 F2 ++ (wFR cI cF cJ tr t1 t2 t3 t4 t5 t6 t7 t8 x9.2 ++ ([(qa, .inl (cD, 2, .inr (.inr (.inr (.inl tk)))))] ++ ([(n2, .inl (cI, 4, .inl (upd (upd (upd (upd (fun _ => 0) (Int32.toNatClampNeg 0) x3.1) (Int32.toNatClampNeg 1) x5.1) (Int32.toNatClampNeg 2) x7.1) (Int32.toNatClampNeg 3) x9.1)))] ++ ([(n11, .inl (cI, 4, .inl (upd (upd (fun _ => 0) (Int32.toNatClampNeg 0) x12) (Int32.toNatClampNeg 1) x14)))])))))))) := hD.sub [0, 1, 2, 3, 4, 5, 6, 28, 29, 7, 8, 9, 10, 11, 12, 13, 14, 15, 30, 31, 32, 33, 34, 35, 36, 37, 38, 16, 17, 18, 19, 20, 21, 22, 23, 24, 25, 26, 27] (by decide) rfl
  obtain ⟨g17, hf⟩ := gd_e hf
  refine va_iast hx hb hK hP hD hS 38 0 rfl rfl (gin_in g17) dL_law_356 (fun H locs hP hD hS => ?_)
  have hP : va_P (dC, dI) vwCl (wTD cI cF cJ ot oh b ou od ow oa ob ok os T ++ (wHB cI cF cJ oh fa tr rw Hb ++ (wFR cI cF cJ q0 q1 q2 q3 q4 q5 q6 q7 q8 F ++ (wFR cI cF cJ r0 r1 r2 r3 r4 r5 r6 r7 r8 F2 ++ (wFR cI cF cJ tr t1 t2 t3 t4 t5 t6 t7 t8 x9.2 ++ ([(qa, .inl (cD, 2, .inr (.inr (.inr (.inl tk)))))] ++ ([(n2, .inl (cI, 4, .inl (upd (upd (upd (upd (fun _ => 0) (Int32.toNatClampNeg 0) x3.1) (Int32.toNatClampNeg 1) x5.1) (Int32.toNatClampNeg 2) x7.1) (Int32.toNatClampNeg 3) x9.1)))] ++ ([(n11, .inl (cI, 4, .inl (upd (upd (upd (fun _ => 0) (Int32.toNatClampNeg 0) x12) (Int32.toNatClampNeg 1) x14) (Int32.toNatClampNeg 2) x16)))])))))))) H := hP
  have hD : va_D A (wTD cI cF cJ ot oh b ou od ow oa ob ok os T ++ (wHB cI cF cJ oh fa tr rw Hb ++ (wFR cI cF cJ q0 q1 q2 q3 q4 q5 q6 q7 q8 F ++ (wFR cI cF cJ r0 r1 r2 r3 r4 r5 r6 r7 r8 F2 ++ (wFR cI cF cJ tr t1 t2 t3 t4 t5 t6 t7 t8 x9.2 ++ ([(qa, .inl (cD, 2, .inr (.inr (.inr (.inl tk)))))] ++ ([(n2, .inl (cI, 4, .inl (upd (upd (upd (upd (fun _ => 0) (Int32.toNatClampNeg 0) x3.1) (Int32.toNatClampNeg 1) x5.1) (Int32.toNatClampNeg 2) x7.1) (Int32.toNatClampNeg 3) x9.1)))] ++ ([(n11, .inl (cI, 4, .inl (upd (upd (upd (fun _ => 0) (Int32.toNatClampNeg 0) x12) (Int32.toNatClampNeg 1) x14) (Int32.toNatClampNeg 2) x16)))])))))))) := hD
  refine lv_dup hx hb dL_law_357 rfl ?_
  refine lv_iconst (v := 3) hx hb dL_law_358 (by decide) ?_
  refine lv_aload_n hx hb dL_law_359 rfl (lv_at hl 4 rfl) ?_
  refine lv_iload hx hb dL_law_360 (lv_at hl 10 rfl) ?_
  refine lv_bipush (v := 6) hx hb dL_law_362 (by decide) ?_
  obtain ⟨x18, hx18, hf⟩ := obd_e hf
  refine sb_Vi (As := [.int 1, .int 6]) (rest := [.int 3, .ref n11, .ref n11]) ⟨hx, hb, hml, hown, hts⟩ (fun sz => c_X2_ofFrame l dC dI cI cF cJ cD oh fa tr r0 r1 r2 r3 r4 r5 r6 r7 r8 rw Hb F2 1 6 hq1 x18 hx18 sz) (cwV 2 hts (g_V q557 q558 q559 q172 q259) rfl rfl rfl pc_X2_ofFrame ⟨Nat.le_of_ble_eq_true rfl, Nat.le_of_ble_eq_true rfl⟩) 0 2 rfl rfl hK hP hD hS hA [7, 8, 18, 19, 20, 21, 22, 23, 24, 25, 26] [0, 1, 2, 3, 4, 5, 6, 9, 10, 11, 12, 13, 14, 15, 16, 17, 27, 28, 29, 30, 31, 32, 33, 34, 35, 36, 37, 38] rfl rfl (by decide) (by decide) (by decide) (fun _ _ _ _ h => h) (fun _ _ _ => trivial) rfl rfl hl.1 (Nat.le_of_ble_eq_true rfl) dL_law_364 ⟨Nat.le_trans (show (cc + 2) + 0 ≤ 600000 by omega) (Nat.le_of_ble_eq_true rfl), Nat.le_trans (show (ss + 8) + 0 ≤ 7000000 by omega) (Nat.le_of_ble_eq_true rfl)⟩ (fun r9 u H locs hr9 hP hD hS => ?_)
  have hr9 := Eq.symm hr9
  subst hr9
  have hP : va_P (dC, dI) vwCl (wTD cI cF cJ ot oh b ou od ow oa ob ok os T ++ (wHB cI cF cJ oh fa tr rw Hb ++ (wFR cI cF cJ q0 q1 q2 q3 q4 q5 q6 q7 q8 F ++ (wFR cI cF cJ r0 r1 r2 r3 r4 r5 r6 r7 r8 F2 ++ (wFR cI cF cJ tr t1 t2 t3 t4 t5 t6 t7 t8 x9.2 ++ ([(qa, .inl (cD, 2, .inr (.inr (.inr (.inl tk)))))] ++ ([(n2, .inl (cI, 4, .inl (upd (upd (upd (upd (fun _ => 0) (Int32.toNatClampNeg 0) x3.1) (Int32.toNatClampNeg 1) x5.1) (Int32.toNatClampNeg 2) x7.1) (Int32.toNatClampNeg 3) x9.1)))] ++ ([(n11, .inl (cI, 4, .inl (upd (upd (upd (fun _ => 0) (Int32.toNatClampNeg 0) x12) (Int32.toNatClampNeg 1) x14) (Int32.toNatClampNeg 2) x16)))])))))))) H := hP.sub [0, 1, 2, 3, 4, 5, 6, 28, 29, 7, 8, 9, 10, 11, 12, 13, 14, 15, 30, 31, 32, 33, 34, 35, 36, 37, 38, 16, 17, 18, 19, 20, 21, 22, 23, 24, 25, 26, 27] rfl
  have hD : va_D A (wTD cI cF cJ ot oh b ou od ow oa ob ok os T ++ (wHB cI cF cJ oh fa tr rw Hb ++ (wFR cI cF cJ q0 q1 q2 q3 q4 q5 q6 q7 q8 F ++ (wFR cI cF cJ r0 r1 r2 r3 r4 r5 r6 r7 r8 F2 ++ (wFR cI cF cJ tr t1 t2 t3 t4 t5 t6 t7 t8 x9.2 ++ ([(qa, .inl (cD, 2, .inr (.inr (.inr (.inl tk)))))] ++ ([(n2, .inl (cI, 4, .inl (upd (upd (upd (upd (fun _ => 0) (Int32.toNatClampNeg 0) x3.1) (Int32.toNatClampNeg 1) x5.1) (Int32.toNatClampNeg 2) x7.1) (Int32.toNatClampNeg 3) x9.1)))] ++ ([(n11, .inl (cI, 4, .inl (upd (upd (upd (fun _ => 0) (Int32.toNatClampNeg 0) x12) (Int32.toNatClampNeg 1) x14) (Int32.toNatClampNeg 2) x16)))])))))))) := hD.sub [0, 1, 2, 3, 4, 5, 6, 28, 29, 7, 8, 9, 10, 11, 12, 13, 14, 15, 30, 31, 32, 33, 34, 35, 36, 37, 38, 16, 17, 18, 19, 20, 21, 22, 23, 24, 25, 26, 27] (by decide) rfl
  obtain ⟨g19, hf⟩ := gd_e hf
  refine va_iast hx hb hK hP hD hS 38 0 rfl rfl (gin_in g19) dL_law_367 (fun H locs hP hD hS => ?_)
  have hP : va_P (dC, dI) vwCl (wTD cI cF cJ ot oh b ou od ow oa ob ok os T ++ (wHB cI cF cJ oh fa tr rw Hb ++ (wFR cI cF cJ q0 q1 q2 q3 q4 q5 q6 q7 q8 F ++ (wFR cI cF cJ r0 r1 r2 r3 r4 r5 r6 r7 r8 F2 ++ (wFR cI cF cJ tr t1 t2 t3 t4 t5 t6 t7 t8 x9.2 ++ ([(qa, .inl (cD, 2, .inr (.inr (.inr (.inl tk)))))] ++ ([(n2, .inl (cI, 4, .inl (upd (upd (upd (upd (fun _ => 0) (Int32.toNatClampNeg 0) x3.1) (Int32.toNatClampNeg 1) x5.1) (Int32.toNatClampNeg 2) x7.1) (Int32.toNatClampNeg 3) x9.1)))] ++ ([(n11, .inl (cI, 4, .inl (upd (upd (upd (upd (fun _ => 0) (Int32.toNatClampNeg 0) x12) (Int32.toNatClampNeg 1) x14) (Int32.toNatClampNeg 2) x16) (Int32.toNatClampNeg 3) x18)))])))))))) H := hP
  have hD : va_D A (wTD cI cF cJ ot oh b ou od ow oa ob ok os T ++ (wHB cI cF cJ oh fa tr rw Hb ++ (wFR cI cF cJ q0 q1 q2 q3 q4 q5 q6 q7 q8 F ++ (wFR cI cF cJ r0 r1 r2 r3 r4 r5 r6 r7 r8 F2 ++ (wFR cI cF cJ tr t1 t2 t3 t4 t5 t6 t7 t8 x9.2 ++ ([(qa, .inl (cD, 2, .inr (.inr (.inr (.inl tk)))))] ++ ([(n2, .inl (cI, 4, .inl (upd (upd (upd (upd (fun _ => 0) (Int32.toNatClampNeg 0) x3.1) (Int32.toNatClampNeg 1) x5.1) (Int32.toNatClampNeg 2) x7.1) (Int32.toNatClampNeg 3) x9.1)))] ++ ([(n11, .inl (cI, 4, .inl (upd (upd (upd (upd (fun _ => 0) (Int32.toNatClampNeg 0) x12) (Int32.toNatClampNeg 1) x14) (Int32.toNatClampNeg 2) x16) (Int32.toNatClampNeg 3) x18)))])))))))) := hD
  refine lv_astore (lv' := [(17, .ref n11), (16, .ref n2), (14, .double x1), (0, .ref b), (1, .int pt), (2, .ref oh), (3, .ref ot), (5, .int pk), (6, .int pn), (10, .ref qa), (11, .int pp), (13, .int 1)]) hx hb dL_law_368 hl (by decide) rfl (fun ls hl => ?_)
  refine lv_aload_n hx hb dL_law_370 rfl (lv_at hl 5 rfl) ?_
  refine lv_iload hx hb dL_law_371 (lv_at hl 11 rfl) ?_
  refine lv_iload hx hb dL_law_373 (lv_at hl 8 rfl) ?_
  obtain ⟨x20, hx20, hf⟩ := obd_e hf
  refine sb_Vi (As := [.int 1, .int pn]) (rest := []) ⟨hx, hb, hml, hown, hts⟩ (fun sz => c_X2_add l dC dI cI cF cJ cD oh fa tr r0 r1 r2 r3 r4 r5 r6 r7 r8 rw Hb F2 1 pn hq1 x20 hx20 sz) (cwV 2 hts (g_V q511 q416 q417 q172 q210) rfl rfl rfl pc_X2_add ⟨Nat.le_of_ble_eq_true rfl, Nat.le_of_ble_eq_true rfl⟩) 0 2 rfl rfl hK hP hD hS hA [7, 8, 18, 19, 20, 21, 22, 23, 24, 25, 26] [0, 1, 2, 3, 4, 5, 6, 9, 10, 11, 12, 13, 14, 15, 16, 17, 27, 28, 29, 30, 31, 32, 33, 34, 35, 36, 37, 38] rfl rfl (by decide) (by decide) (by decide) (fun _ _ _ _ h => h) (fun _ _ _ => trivial) rfl rfl hl.1 (Nat.le_of_ble_eq_true rfl) dL_law_375 ⟨Nat.le_trans (show (cc + 2) + 0 ≤ 600000 by omega) (Nat.le_of_ble_eq_true rfl), Nat.le_trans (show (ss + 8) + 0 ≤ 7000000 by omega) (Nat.le_of_ble_eq_true rfl)⟩ (fun r9 u H locs hr9 hP hD hS => ?_)
  have hr9 := Eq.symm hr9
  subst hr9
  have hP : va_P (dC, dI) vwCl (wTD cI cF cJ ot oh b ou od ow oa ob ok os T ++ (wHB cI cF cJ oh fa tr rw Hb ++ (wFR cI cF cJ q0 q1 q2 q3 q4 q5 q6 q7 q8 F ++ (wFR cI cF cJ r0 r1 r2 r3 r4 r5 r6 r7 r8 x20.2 ++ (wFR cI cF cJ tr t1 t2 t3 t4 t5 t6 t7 t8 x9.2 ++ ([(qa, .inl (cD, 2, .inr (.inr (.inr (.inl tk)))))] ++ ([(n2, .inl (cI, 4, .inl (upd (upd (upd (upd (fun _ => 0) (Int32.toNatClampNeg 0) x3.1) (Int32.toNatClampNeg 1) x5.1) (Int32.toNatClampNeg 2) x7.1) (Int32.toNatClampNeg 3) x9.1)))] ++ ([(n11, .inl (cI, 4, .inl (upd (upd (upd (upd (fun _ => 0) (Int32.toNatClampNeg 0) x12) (Int32.toNatClampNeg 1) x14) (Int32.toNatClampNeg 2) x16) (Int32.toNatClampNeg 3) x18)))])))))))) H := hP.sub [0, 1, 2, 3, 4, 5, 6, 28, 29, 7, 8, 9, 10, 11, 12, 13, 14, 15, 30, 31, 32, 33, 34, 35, 36, 37, 38, 16, 17, 18, 19, 20, 21, 22, 23, 24, 25, 26, 27] rfl
  have hD : va_D A (wTD cI cF cJ ot oh b ou od ow oa ob ok os T ++ (wHB cI cF cJ oh fa tr rw Hb ++ (wFR cI cF cJ q0 q1 q2 q3 q4 q5 q6 q7 q8 F ++ (wFR cI cF cJ r0 r1 r2 r3 r4 r5 r6 r7 r8 x20.2 ++ (wFR cI cF cJ tr t1 t2 t3 t4 t5 t6 t7 t8 x9.2 ++ ([(qa, .inl (cD, 2, .inr (.inr (.inr (.inl tk)))))] ++ ([(n2, .inl (cI, 4, .inl (upd (upd (upd (upd (fun _ => 0) (Int32.toNatClampNeg 0) x3.1) (Int32.toNatClampNeg 1) x5.1) (Int32.toNatClampNeg 2) x7.1) (Int32.toNatClampNeg 3) x9.1)))] ++ ([(n11, .inl (cI, 4, .inl (upd (upd (upd (upd (fun _ => 0) (Int32.toNatClampNeg 0) x12) (Int32.toNatClampNeg 1) x14) (Int32.toNatClampNeg 2) x16) (Int32.toNatClampNeg 3) x18)))])))))))) := hD.sub [0, 1, 2, 3, 4, 5, 6, 28, 29, 7, 8, 9, 10, 11, 12, 13, 14, 15, 30, 31, 32, 33, 34, 35, 36, 37, 38, 16, 17, 18, 19, 20, 21, 22, 23, 24, 25, 26, 27] (by decide) rfl
  refine lv_aload hx hb dL_law_378 (lv_at hl 1 rfl) ?_
  refine lv_iconst (v := 0) hx hb dL_law_380 (by decide) ?_
  obtain ⟨g21, hf⟩ := gd_e hf
  refine va_iald hx hb hK hP 37 0 rfl rfl (gin_in g21) dL_law_381 ?_
  refine lv_topi (fun v22 ev22 => ?_)
  have hf := bnd_all hf v22 ev22
  refine lv_icmp_ne (tgt := 403) hx hb dL_law_382 (by decide) (fun c23 => ?_) (fun c23 => ?_)
  · have hf := ite_f hf c23
    refine lv_iconst (v := 0) hx hb dL_law_403 (by decide) ?_
    cases hf
  · have hf := ite_t hf c23
    refine lv_aload_n hx hb dL_law_385 rfl (lv_at hl 5 rfl) ?_
    refine lv_iload hx hb dL_law_386 (lv_at hl 11 rfl) ?_
    obtain ⟨x24, hx24, hf⟩ := obd_e hf
    refine sb_Vd (As := [.int 1]) (rest := []) ⟨hx, hb, hml, hown, hts⟩ (fun sz => c_X2_seconds l dC dI cI cF cJ cD oh fa tr r0 r1 r2 r3 r4 r5 r6 r7 r8 rw Hb x20.2 1 hq1 x24 hx24 sz) (cwV 1 hts (g_V q551 q552 q553 q172 q260) rfl rfl rfl pc_X2_seconds ⟨Nat.le_of_ble_eq_true rfl, Nat.le_of_ble_eq_true rfl⟩) 0 2 rfl rfl hK hP hD hS hA [7, 8, 18, 19, 20, 21, 22, 23, 24, 25, 26] [0, 1, 2, 3, 4, 5, 6, 9, 10, 11, 12, 13, 14, 15, 16, 17, 27, 28, 29, 30, 31, 32, 33, 34, 35, 36, 37, 38] rfl rfl (by decide) (by decide) (by decide) (fun _ _ _ _ h => h) (fun _ _ _ => trivial) rfl rfl hl.1 (Nat.le_of_ble_eq_true rfl) dL_law_388 ⟨Nat.le_trans (show (cc + 2) + 0 ≤ 600000 by omega) (Nat.le_of_ble_eq_true rfl), Nat.le_trans (show (ss + 8) + 0 ≤ 7000000 by omega) (Nat.le_of_ble_eq_true rfl)⟩ (fun r9 u H locs hr9 hP hD hS => ?_)
    have hr9 := Eq.symm hr9
    subst hr9
    have hP : va_P (dC, dI) vwCl (wTD cI cF cJ ot oh b ou od ow oa ob ok os T ++ (wHB cI cF cJ oh fa tr rw Hb ++ (wFR cI cF cJ q0 q1 q2 q3 q4 q5 q6 q7 q8 F ++ (wFR cI cF cJ r0 r1 r2 r3 r4 r5 r6 r7 r8 x20.2 ++ (wFR cI cF cJ tr t1 t2 t3 t4 t5 t6 t7 t8 x9.2 ++ ([(qa, .inl (cD, 2, .inr (.inr (.inr (.inl tk)))))] ++ ([(n2, .inl (cI, 4, .inl (upd (upd (upd (upd (fun _ => 0) (Int32.toNatClampNeg 0) x3.1) (Int32.toNatClampNeg 1) x5.1) (Int32.toNatClampNeg 2) x7.1) (Int32.toNatClampNeg 3) x9.1)))] ++ ([(n11, .inl (cI, 4, .inl (upd (upd (upd (upd (fun _ => 0) (Int32.toNatClampNeg 0) x12) (Int32.toNatClampNeg 1) x14) (Int32.toNatClampNeg 2) x16) (Int32.toNatClampNeg 3) x18)))])))))))) H := hP.sub [0, 1, 2, 3, 4, 5, 6, 28, 29, 7, 8, 9, 10, 11, 12, 13, 14, 15, 30, 31, 32, 33, 34, 35, 36, 37, 38, 16, 17, 18, 19, 20, 21, 22, 23, 24, 25, 26, 27] rfl
    have hD : va_D A (wTD cI cF cJ ot oh b ou od ow oa ob ok os T ++ (wHB cI cF cJ oh fa tr rw Hb ++ (wFR cI cF cJ q0 q1 q2 q3 q4 q5 q6 q7 q8 F ++ (wFR cI cF cJ r0 r1 r2 r3 r4 r5 r6 r7 r8 x20.2 ++ (wFR cI cF cJ tr t1 t2 t3 t4 t5 t6 t7 t8 x9.2 ++ ([(qa, .inl (cD, 2, .inr (.inr (.inr (.inl tk)))))] ++ ([(n2, .inl (cI, 4, .inl (upd (upd (upd (upd (fun _ => 0) (Int32.toNatClampNeg 0) x3.1) (Int32.toNatClampNeg 1) x5.1) (Int32.toNatClampNeg 2) x7.1) (Int32.toNatClampNeg 3) x9.1)))] ++ ([(n11, .inl (cI, 4, .inl (upd (upd (upd (upd (fun _ => 0) (Int32.toNatClampNeg 0) x12) (Int32.toNatClampNeg 1) x14) (Int32.toNatClampNeg 2) x16) (Int32.toNatClampNeg 3) x18)))])))))))) := hD.sub [0, 1, 2, 3, 4, 5, 6, 28, 29, 7, 8, 9, 10, 11, 12, 13, 14, 15, 30, 31, 32, 33, 34, 35, 36, 37, 38, 16, 17, 18, 19, 20, 21, 22, 23, 24, 25, 26, 27] (by decide) rfl
    refine lv_dload hx hb dL_law_391 (lv_at hl 2 rfl) ?_
    refine lv_aload hx hb dL_law_393 (lv_at hl 9 rfl) ?_
    refine lv_iload hx hb dL_law_395 (lv_at hl 11 rfl) ?_
    obtain ⟨g25, hf⟩ := gd_e hf
    refine va_dald hx hb hK hP 36 3 rfl rfl (gin_in g25) dL_law_397 ?_
    refine lv_topd (fun v26 ev26 => ?_)
    have hf := bnd_all hf v26 ev26
    obtain ⟨g27, hf⟩ := gd_e hf
    refine lv_dadd hx hb dL_law_398 (nn64_e g27) ?_
    refine lv_topd (fun v28 ev28 => ?_)
    have hf := bnd_all hf v28 ev28
    refine lv_dcmp hx hb dL_law_399 ?_
    refine lv_topi (fun v29 ev29 => ?_)
    have hf := bnd_all hf v29 ev29
    refine lv_if_eq (tgt := 405) hx hb dL_law_400 (by decide) (fun c30 => ?_) (fun c30 => ?_)
    · have hf := ite_t hf c30
      refine lv_iconst (v := 0) hx hb dL_law_405 (by decide) ?_
      refine lv_istore (lv' := [(18, .int 0), (17, .ref n11), (16, .ref n2), (14, .double x1), (0, .ref b), (1, .int pt), (2, .ref oh), (3, .ref ot), (5, .int pk), (6, .int pn), (10, .ref qa), (11, .int pp), (13, .int 1)]) hx hb dL_law_406 hl (by decide) rfl (fun ls hl => ?_)
      refine lv_iload hx hb dL_law_408 (lv_at hl 0 rfl) ?_
      refine lv_iconst (v := 4) hx hb dL_law_410 (by decide) ?_
      refine lv_icmp_ge (tgt := 457) hx hb dL_law_411 (by decide) (fun c9 => absurd c9 (by decide)) (fun _ => ?_)
      refine lv_aload_n hx hb dL_law_414 rfl (lv_at hl 6 rfl) ?_
      refine lv_iload hx hb dL_law_415 (lv_at hl 12 rfl) ?_
      refine lv_iload hx hb dL_law_417 (lv_at hl 0 rfl) ?_
      refine lv_iconst (v := 3) hx hb dL_law_419 (by decide) ?_
      refine lv_icmp_ne (tgt := 428) hx hb dL_law_420 (by decide) (fun _ => ?_) (fun c9 => absurd c9 (by decide))
      refine lv_iconst (v := 2) hx hb dL_law_428 (by decide) ?_
      refine lv_iload hx hb dL_law_429 (lv_at hl 0 rfl) ?_
      refine lv_iadd hx hb dL_law_431 ?_
      refine lv_topi (fun v31 ev31 => ?_)
      have ev31 : v31 = 2 := ev31.trans (by decide)
      subst ev31
      obtain ⟨x32, hx32, hf⟩ := obd_e hf
      refine sb_Vi (As := [.int 1, .int 2]) (rest := []) ⟨hx, hb, hml, hown, hts⟩ (fun sz => c_X2_ofFrame l dC dI cI cF cJ cD oh fa tr r0 r1 r2 r3 r4 r5 r6 r7 r8 rw Hb x20.2 1 2 hq1 x32 hx32 sz) (cwV 2 hts (g_V q557 q558 q559 q172 q259) rfl rfl rfl pc_X2_ofFrame ⟨Nat.le_of_ble_eq_true rfl, Nat.le_of_ble_eq_true rfl⟩) 0 2 rfl rfl hK hP hD hS hA [7, 8, 18, 19, 20, 21, 22, 23, 24, 25, 26] [0, 1, 2, 3, 4, 5, 6, 9, 10, 11, 12, 13, 14, 15, 16, 17, 27, 28, 29, 30, 31, 32, 33, 34, 35, 36, 37, 38] rfl rfl (by decide) (by decide) (by decide) (fun _ _ _ _ h => h) (fun _ _ _ => trivial) rfl rfl hl.1 (Nat.le_of_ble_eq_true rfl) dL_law_432 ⟨Nat.le_trans (show (cc + 2) + 0 ≤ 600000 by omega) (Nat.le_of_ble_eq_true rfl), Nat.le_trans (show (ss + 8) + 0 ≤ 7000000 by omega) (Nat.le_of_ble_eq_true rfl)⟩ (fun r9 u H locs hr9 hP hD hS => ?_)
      have hr9 := Eq.symm hr9
      subst hr9
      have hP : va_P (dC, dI) vwCl (wTD cI cF cJ ot oh b ou od ow oa ob ok os T ++ (wHB cI cF cJ oh fa tr rw Hb ++ (wFR cI cF cJ q0 q1 q2 q3 q4 q5 q6 q7 q8 F ++ (wFR cI cF cJ r0 r1 r2 r3 r4 r5 r6 r7 r8 x20.2 ++ (wFR cI cF cJ tr t1 t2 t3 t4 t5 t6 t7 t8 x9.2 ++ ([(qa, .inl (cD, 2, .inr (.inr (.inr (.inl tk)))))] ++ ([(n2, .inl (cI, 4, .inl (upd (upd (upd (upd (fun _ => 0) (Int32.toNatClampNeg 0) x3.1) (Int32.toNatClampNeg 1) x5.1) (Int32.toNatClampNeg 2) x7.1) (Int32.toNatClampNeg 3) x9.1)))] ++ ([(n11, .inl (cI, 4, .inl (upd (upd (upd (upd (fun _ => 0) (Int32.toNatClampNeg 0) x12) (Int32.toNatClampNeg 1) x14) (Int32.toNatClampNeg 2) x16) (Int32.toNatClampNeg 3) x18)))])))))))) H := hP.sub [0, 1, 2, 3, 4, 5, 6, 28, 29, 7, 8, 9, 10, 11, 12, 13, 14, 15, 30, 31, 32, 33, 34, 35, 36, 37, 38, 16, 17, 18, 19, 20, 21, 22, 23, 24, 25, 26, 27] rfl
      have hD : va_D A (wTD cI cF cJ ot oh b ou od ow oa ob ok os T ++ (wHB cI cF cJ oh fa tr rw Hb ++ (wFR cI cF cJ q0 q1 q2 q3 q4 q5 q6 q7 q8 F ++ (wFR cI cF cJ r0 r1 r2 r3 r4 r5 r6 r7 r8 x20.2 ++ (wFR cI cF cJ tr t1 t2 t3 t4 t5 t6 t7 t8 x9.2 ++ ([(qa, .inl (cD, 2, .inr (.inr (.inr (.inl tk)))))] ++ ([(n2, .inl (cI, 4, .inl (upd (upd (upd (upd (fun _ => 0) (Int32.toNatClampNeg 0) x3.1) (Int32.toNatClampNeg 1) x5.1) (Int32.toNatClampNeg 2) x7.1) (Int32.toNatClampNeg 3) x9.1)))] ++ ([(n11, .inl (cI, 4, .inl (upd (upd (upd (upd (fun _ => 0) (Int32.toNatClampNeg 0) x12) (Int32.toNatClampNeg 1) x14) (Int32.toNatClampNeg 2) x16) (Int32.toNatClampNeg 3) x18)))])))))))) := hD.sub [0, 1, 2, 3, 4, 5, 6, 28, 29, 7, 8, 9, 10, 11, 12, 13, 14, 15, 30, 31, 32, 33, 34, 35, 36, 37, 38, 16, 17, 18, 19, 20, 21, 22, 23, 24, 25, 26, 27] (by decide) rfl
      refine lv_aload hx hb dL_law_435 (lv_at hl 1 rfl) ?_
      refine lv_iload hx hb dL_law_437 (lv_at hl 0 rfl) ?_
      obtain ⟨g33, hf⟩ := gd_e hf
      refine va_iald hx hb hK hP 38 0 rfl rfl (gin_in g33) dL_law_439 ?_
      refine lv_topi (fun v34 ev34 => ?_)
      have hf := bnd_all hf v34 ev34
      refine lv_aload hx hb dL_law_440 (lv_at hl 2 rfl) ?_
      refine lv_iload hx hb dL_law_442 (lv_at hl 0 rfl) ?_
      obtain ⟨g35, hf⟩ := gd_e hf
      refine va_iald hx hb hK hP 37 0 rfl rfl (gin_in g35) dL_law_444 ?_
      refine lv_topi (fun v36 ev36 => ?_)
      have hf := bnd_all hf v36 ev36
      refine lv_iadd hx hb dL_law_445 ?_
      refine lv_topi (fun v37 ev37 => ?_)
      have hf := bnd_all hf v37 ev37
      refine lv_icmp_eq (tgt := 451) hx hb dL_law_446 (by decide) (fun c38 => ?_) (fun c38 => ?_)
      · have hf := ite_t hf c38
        refine lv_iinc (v := 1) (lv' := [(18, .int 1), (17, .ref n11), (16, .ref n2), (14, .double x1), (0, .ref b), (1, .int pt), (2, .ref oh), (3, .ref ot), (5, .int pk), (6, .int pn), (10, .ref qa), (11, .int pp), (13, .int 1)]) hx hb dL_law_451 hl (k := 0) rfl (by decide) (by decide) rfl (fun ls hl => ?_)
        refine lv_goto (tgt := 408) hx hb dL_law_454 (by decide) ?_
        refine lv_iload hx hb dL_law_408 (lv_at hl 0 rfl) ?_
        refine lv_iconst (v := 4) hx hb dL_law_410 (by decide) ?_
        refine lv_icmp_ge (tgt := 457) hx hb dL_law_411 (by decide) (fun c9 => absurd c9 (by decide)) (fun _ => ?_)
        refine lv_aload_n hx hb dL_law_414 rfl (lv_at hl 6 rfl) ?_
        refine lv_iload hx hb dL_law_415 (lv_at hl 12 rfl) ?_
        refine lv_iload hx hb dL_law_417 (lv_at hl 0 rfl) ?_
        refine lv_iconst (v := 3) hx hb dL_law_419 (by decide) ?_
        refine lv_icmp_ne (tgt := 428) hx hb dL_law_420 (by decide) (fun _ => ?_) (fun c9 => absurd c9 (by decide))
        refine lv_iconst (v := 2) hx hb dL_law_428 (by decide) ?_
        refine lv_iload hx hb dL_law_429 (lv_at hl 0 rfl) ?_
        refine lv_iadd hx hb dL_law_431 ?_
        refine lv_topi (fun v39 ev39 => ?_)
        have ev39 : v39 = 3 := ev39.trans (by decide)
        subst ev39
        obtain ⟨x40, hx40, hf⟩ := obd_e hf
        refine sb_Vi (As := [.int 1, .int 3]) (rest := []) ⟨hx, hb, hml, hown, hts⟩ (fun sz => c_X2_ofFrame l dC dI cI cF cJ cD oh fa tr r0 r1 r2 r3 r4 r5 r6 r7 r8 rw Hb x20.2 1 3 hq1 x40 hx40 sz) (cwV 2 hts (g_V q557 q558 q559 q172 q259) rfl rfl rfl pc_X2_ofFrame ⟨Nat.le_of_ble_eq_true rfl, Nat.le_of_ble_eq_true rfl⟩) 0 2 rfl rfl hK hP hD hS hA [7, 8, 18, 19, 20, 21, 22, 23, 24, 25, 26] [0, 1, 2, 3, 4, 5, 6, 9, 10, 11, 12, 13, 14, 15, 16, 17, 27, 28, 29, 30, 31, 32, 33, 34, 35, 36, 37, 38] rfl rfl (by decide) (by decide) (by decide) (fun _ _ _ _ h => h) (fun _ _ _ => trivial) rfl rfl hl.1 (Nat.le_of_ble_eq_true rfl) dL_law_432 ⟨Nat.le_trans (show (cc + 2) + 0 ≤ 600000 by omega) (Nat.le_of_ble_eq_true rfl), Nat.le_trans (show (ss + 8) + 0 ≤ 7000000 by omega) (Nat.le_of_ble_eq_true rfl)⟩ (fun r9 u H locs hr9 hP hD hS => ?_)
        have hr9 := Eq.symm hr9
        subst hr9
        have hP : va_P (dC, dI) vwCl (wTD cI cF cJ ot oh b ou od ow oa ob ok os T ++ (wHB cI cF cJ oh fa tr rw Hb ++ (wFR cI cF cJ q0 q1 q2 q3 q4 q5 q6 q7 q8 F ++ (wFR cI cF cJ r0 r1 r2 r3 r4 r5 r6 r7 r8 x20.2 ++ (wFR cI cF cJ tr t1 t2 t3 t4 t5 t6 t7 t8 x9.2 ++ ([(qa, .inl (cD, 2, .inr (.inr (.inr (.inl tk)))))] ++ ([(n2, .inl (cI, 4, .inl (upd (upd (upd (upd (fun _ => 0) (Int32.toNatClampNeg 0) x3.1) (Int32.toNatClampNeg 1) x5.1) (Int32.toNatClampNeg 2) x7.1) (Int32.toNatClampNeg 3) x9.1)))] ++ ([(n11, .inl (cI, 4, .inl (upd (upd (upd (upd (fun _ => 0) (Int32.toNatClampNeg 0) x12) (Int32.toNatClampNeg 1) x14) (Int32.toNatClampNeg 2) x16) (Int32.toNatClampNeg 3) x18)))])))))))) H := hP.sub [0, 1, 2, 3, 4, 5, 6, 28, 29, 7, 8, 9, 10, 11, 12, 13, 14, 15, 30, 31, 32, 33, 34, 35, 36, 37, 38, 16, 17, 18, 19, 20, 21, 22, 23, 24, 25, 26, 27] rfl
        have hD : va_D A (wTD cI cF cJ ot oh b ou od ow oa ob ok os T ++ (wHB cI cF cJ oh fa tr rw Hb ++ (wFR cI cF cJ q0 q1 q2 q3 q4 q5 q6 q7 q8 F ++ (wFR cI cF cJ r0 r1 r2 r3 r4 r5 r6 r7 r8 x20.2 ++ (wFR cI cF cJ tr t1 t2 t3 t4 t5 t6 t7 t8 x9.2 ++ ([(qa, .inl (cD, 2, .inr (.inr (.inr (.inl tk)))))] ++ ([(n2, .inl (cI, 4, .inl (upd (upd (upd (upd (fun _ => 0) (Int32.toNatClampNeg 0) x3.1) (Int32.toNatClampNeg 1) x5.1) (Int32.toNatClampNeg 2) x7.1) (Int32.toNatClampNeg 3) x9.1)))] ++ ([(n11, .inl (cI, 4, .inl (upd (upd (upd (upd (fun _ => 0) (Int32.toNatClampNeg 0) x12) (Int32.toNatClampNeg 1) x14) (Int32.toNatClampNeg 2) x16) (Int32.toNatClampNeg 3) x18)))])))))))) := hD.sub [0, 1, 2, 3, 4, 5, 6, 28, 29, 7, 8, 9, 10, 11, 12, 13, 14, 15, 30, 31, 32, 33, 34, 35, 36, 37, 38, 16, 17, 18, 19, 20, 21, 22, 23, 24, 25, 26, 27] (by decide) rfl
        refine lv_aload hx hb dL_law_435 (lv_at hl 1 rfl) ?_
        refine lv_iload hx hb dL_law_437 (lv_at hl 0 rfl) ?_
        obtain ⟨g41, hf⟩ := gd_e hf
        refine va_iald hx hb hK hP 38 0 rfl rfl (gin_in g41) dL_law_439 ?_
        refine lv_topi (fun v42 ev42 => ?_)
        have hf := bnd_all hf v42 ev42
        refine lv_aload hx hb dL_law_440 (lv_at hl 2 rfl) ?_
        refine lv_iload hx hb dL_law_442 (lv_at hl 0 rfl) ?_
        obtain ⟨g43, hf⟩ := gd_e hf
        refine va_iald hx hb hK hP 37 0 rfl rfl (gin_in g43) dL_law_444 ?_
        refine lv_topi (fun v44 ev44 => ?_)
        have hf := bnd_all hf v44 ev44
        refine lv_iadd hx hb dL_law_445 ?_
        refine lv_topi (fun v45 ev45 => ?_)
        have hf := bnd_all hf v45 ev45
        refine lv_icmp_eq (tgt := 451) hx hb dL_law_446 (by decide) (fun c46 => ?_) (fun c46 => ?_)
        · have hf := ite_t hf c46
          refine lv_iinc (v := 2) (lv' := [(18, .int 2), (17, .ref n11), (16, .ref n2), (14, .double x1), (0, .ref b), (1, .int pt), (2, .ref oh), (3, .ref ot), (5, .int pk), (6, .int pn), (10, .ref qa), (11, .int pp), (13, .int 1)]) hx hb dL_law_451 hl (k := 0) rfl (by decide) (by decide) rfl (fun ls hl => ?_)
          refine lv_goto (tgt := 408) hx hb dL_law_454 (by decide) ?_
          refine lv_iload hx hb dL_law_408 (lv_at hl 0 rfl) ?_
          refine lv_iconst (v := 4) hx hb dL_law_410 (by decide) ?_
          refine lv_icmp_ge (tgt := 457) hx hb dL_law_411 (by decide) (fun c9 => absurd c9 (by decide)) (fun _ => ?_)
          refine lv_aload_n hx hb dL_law_414 rfl (lv_at hl 6 rfl) ?_
          refine lv_iload hx hb dL_law_415 (lv_at hl 12 rfl) ?_
          refine lv_iload hx hb dL_law_417 (lv_at hl 0 rfl) ?_
          refine lv_iconst (v := 3) hx hb dL_law_419 (by decide) ?_
          refine lv_icmp_ne (tgt := 428) hx hb dL_law_420 (by decide) (fun _ => ?_) (fun c9 => absurd c9 (by decide))
          refine lv_iconst (v := 2) hx hb dL_law_428 (by decide) ?_
          refine lv_iload hx hb dL_law_429 (lv_at hl 0 rfl) ?_
          refine lv_iadd hx hb dL_law_431 ?_
          refine lv_topi (fun v47 ev47 => ?_)
          have ev47 : v47 = 4 := ev47.trans (by decide)
          subst ev47
          obtain ⟨x48, hx48, hf⟩ := obd_e hf
          refine sb_Vi (As := [.int 1, .int 4]) (rest := []) ⟨hx, hb, hml, hown, hts⟩ (fun sz => c_X2_ofFrame l dC dI cI cF cJ cD oh fa tr r0 r1 r2 r3 r4 r5 r6 r7 r8 rw Hb x20.2 1 4 hq1 x48 hx48 sz) (cwV 2 hts (g_V q557 q558 q559 q172 q259) rfl rfl rfl pc_X2_ofFrame ⟨Nat.le_of_ble_eq_true rfl, Nat.le_of_ble_eq_true rfl⟩) 0 2 rfl rfl hK hP hD hS hA [7, 8, 18, 19, 20, 21, 22, 23, 24, 25, 26] [0, 1, 2, 3, 4, 5, 6, 9, 10, 11, 12, 13, 14, 15, 16, 17, 27, 28, 29, 30, 31, 32, 33, 34, 35, 36, 37, 38] rfl rfl (by decide) (by decide) (by decide) (fun _ _ _ _ h => h) (fun _ _ _ => trivial) rfl rfl hl.1 (Nat.le_of_ble_eq_true rfl) dL_law_432 ⟨Nat.le_trans (show (cc + 2) + 0 ≤ 600000 by omega) (Nat.le_of_ble_eq_true rfl), Nat.le_trans (show (ss + 8) + 0 ≤ 7000000 by omega) (Nat.le_of_ble_eq_true rfl)⟩ (fun r9 u H locs hr9 hP hD hS => ?_)
          have hr9 := Eq.symm hr9
          subst hr9
          have hP : va_P (dC, dI) vwCl (wTD cI cF cJ ot oh b ou od ow oa ob ok os T ++ (wHB cI cF cJ oh fa tr rw Hb ++ (wFR cI cF cJ q0 q1 q2 q3 q4 q5 q6 q7 q8 F ++ (wFR cI cF cJ r0 r1 r2 r3 r4 r5 r6 r7 r8 x20.2 ++ (wFR cI cF cJ tr t1 t2 t3 t4 t5 t6 t7 t8 x9.2 ++ ([(qa, .inl (cD, 2, .inr (.inr (.inr (.inl tk)))))] ++ ([(n2, .inl (cI, 4, .inl (upd (upd (upd (upd (fun _ => 0) (Int32.toNatClampNeg 0) x3.1) (Int32.toNatClampNeg 1) x5.1) (Int32.toNatClampNeg 2) x7.1) (Int32.toNatClampNeg 3) x9.1)))] ++ ([(n11, .inl (cI, 4, .inl (upd (upd (upd (upd (fun _ => 0) (Int32.toNatClampNeg 0) x12) (Int32.toNatClampNeg 1) x14) (Int32.toNatClampNeg 2) x16) (Int32.toNatClampNeg 3) x18)))])))))))) H := hP.sub [0, 1, 2, 3, 4, 5, 6, 28, 29, 7, 8, 9, 10, 11, 12, 13, 14, 15, 30, 31, 32, 33, 34, 35, 36, 37, 38, 16, 17, 18, 19, 20, 21, 22, 23, 24, 25, 26, 27] rfl
          have hD : va_D A (wTD cI cF cJ ot oh b ou od ow oa ob ok os T ++ (wHB cI cF cJ oh fa tr rw Hb ++ (wFR cI cF cJ q0 q1 q2 q3 q4 q5 q6 q7 q8 F ++ (wFR cI cF cJ r0 r1 r2 r3 r4 r5 r6 r7 r8 x20.2 ++ (wFR cI cF cJ tr t1 t2 t3 t4 t5 t6 t7 t8 x9.2 ++ ([(qa, .inl (cD, 2, .inr (.inr (.inr (.inl tk)))))] ++ ([(n2, .inl (cI, 4, .inl (upd (upd (upd (upd (fun _ => 0) (Int32.toNatClampNeg 0) x3.1) (Int32.toNatClampNeg 1) x5.1) (Int32.toNatClampNeg 2) x7.1) (Int32.toNatClampNeg 3) x9.1)))] ++ ([(n11, .inl (cI, 4, .inl (upd (upd (upd (upd (fun _ => 0) (Int32.toNatClampNeg 0) x12) (Int32.toNatClampNeg 1) x14) (Int32.toNatClampNeg 2) x16) (Int32.toNatClampNeg 3) x18)))])))))))) := hD.sub [0, 1, 2, 3, 4, 5, 6, 28, 29, 7, 8, 9, 10, 11, 12, 13, 14, 15, 30, 31, 32, 33, 34, 35, 36, 37, 38, 16, 17, 18, 19, 20, 21, 22, 23, 24, 25, 26, 27] (by decide) rfl
          refine lv_aload hx hb dL_law_435 (lv_at hl 1 rfl) ?_
          refine lv_iload hx hb dL_law_437 (lv_at hl 0 rfl) ?_
          obtain ⟨g49, hf⟩ := gd_e hf
          refine va_iald hx hb hK hP 38 0 rfl rfl (gin_in g49) dL_law_439 ?_
          refine lv_topi (fun v50 ev50 => ?_)
          have hf := bnd_all hf v50 ev50
          refine lv_aload hx hb dL_law_440 (lv_at hl 2 rfl) ?_
          refine lv_iload hx hb dL_law_442 (lv_at hl 0 rfl) ?_
          obtain ⟨g51, hf⟩ := gd_e hf
          refine va_iald hx hb hK hP 37 0 rfl rfl (gin_in g51) dL_law_444 ?_
          refine lv_topi (fun v52 ev52 => ?_)
          have hf := bnd_all hf v52 ev52
          refine lv_iadd hx hb dL_law_445 ?_
          refine lv_topi (fun v53 ev53 => ?_)
          have hf := bnd_all hf v53 ev53
          refine lv_icmp_eq (tgt := 451) hx hb dL_law_446 (by decide) (fun c54 => ?_) (fun c54 => ?_)
          · have hf := ite_t hf c54
            refine lv_iinc (v := 3) (lv' := [(18, .int 3), (17, .ref n11), (16, .ref n2), (14, .double x1), (0, .ref b), (1, .int pt), (2, .ref oh), (3, .ref ot), (5, .int pk), (6, .int pn), (10, .ref qa), (11, .int pp), (13, .int 1)]) hx hb dL_law_451 hl (k := 0) rfl (by decide) (by decide) rfl (fun ls hl => ?_)
            refine lv_goto (tgt := 408) hx hb dL_law_454 (by decide) ?_
            refine lv_iload hx hb dL_law_408 (lv_at hl 0 rfl) ?_
            refine lv_iconst (v := 4) hx hb dL_law_410 (by decide) ?_
            refine lv_icmp_ge (tgt := 457) hx hb dL_law_411 (by decide) (fun c9 => absurd c9 (by decide)) (fun _ => ?_)
            refine lv_aload_n hx hb dL_law_414 rfl (lv_at hl 6 rfl) ?_
            refine lv_iload hx hb dL_law_415 (lv_at hl 12 rfl) ?_
            refine lv_iload hx hb dL_law_417 (lv_at hl 0 rfl) ?_
            refine lv_iconst (v := 3) hx hb dL_law_419 (by decide) ?_
            refine lv_icmp_ne (tgt := 428) hx hb dL_law_420 (by decide) (fun c9 => absurd (by decide) c9) (fun _ => ?_)
            refine lv_bipush (v := 6) hx hb dL_law_423 (by decide) ?_
            refine lv_goto (tgt := 432) hx hb dL_law_425 (by decide) ?_
            obtain ⟨x55, hx55, hf⟩ := obd_e hf
            refine sb_Vi (As := [.int 1, .int 6]) (rest := []) ⟨hx, hb, hml, hown, hts⟩ (fun sz => c_X2_ofFrame l dC dI cI cF cJ cD oh fa tr r0 r1 r2 r3 r4 r5 r6 r7 r8 rw Hb x20.2 1 6 hq1 x55 hx55 sz) (cwV 2 hts (g_V q557 q558 q559 q172 q259) rfl rfl rfl pc_X2_ofFrame ⟨Nat.le_of_ble_eq_true rfl, Nat.le_of_ble_eq_true rfl⟩) 0 2 rfl rfl hK hP hD hS hA [7, 8, 18, 19, 20, 21, 22, 23, 24, 25, 26] [0, 1, 2, 3, 4, 5, 6, 9, 10, 11, 12, 13, 14, 15, 16, 17, 27, 28, 29, 30, 31, 32, 33, 34, 35, 36, 37, 38] rfl rfl (by decide) (by decide) (by decide) (fun _ _ _ _ h => h) (fun _ _ _ => trivial) rfl rfl hl.1 (Nat.le_of_ble_eq_true rfl) dL_law_432 ⟨Nat.le_trans (show (cc + 2) + 0 ≤ 600000 by omega) (Nat.le_of_ble_eq_true rfl), Nat.le_trans (show (ss + 8) + 0 ≤ 7000000 by omega) (Nat.le_of_ble_eq_true rfl)⟩ (fun r9 u H locs hr9 hP hD hS => ?_)
            have hr9 := Eq.symm hr9
            subst hr9
            have hP : va_P (dC, dI) vwCl (wTD cI cF cJ ot oh b ou od ow oa ob ok os T ++ (wHB cI cF cJ oh fa tr rw Hb ++ (wFR cI cF cJ q0 q1 q2 q3 q4 q5 q6 q7 q8 F ++ (wFR cI cF cJ r0 r1 r2 r3 r4 r5 r6 r7 r8 x20.2 ++ (wFR cI cF cJ tr t1 t2 t3 t4 t5 t6 t7 t8 x9.2 ++ ([(qa, .inl (cD, 2, .inr (.inr (.inr (.inl tk)))))] ++ ([(n2, .inl (cI, 4, .inl (upd (upd (upd (upd (fun _ => 0) (Int32.toNatClampNeg 0) x3.1) (Int32.toNatClampNeg 1) x5.1) (Int32.toNatClampNeg 2) x7.1) (Int32.toNatClampNeg 3) x9.1)))] ++ ([(n11, .inl (cI, 4, .inl (upd (upd (upd (upd (fun _ => 0) (Int32.toNatClampNeg 0) x12) (Int32.toNatClampNeg 1) x14) (Int32.toNatClampNeg 2) x16) (Int32.toNatClampNeg 3) x18)))])))))))) H := hP.sub [0, 1, 2, 3, 4, 5, 6, 28, 29, 7, 8, 9, 10, 11, 12, 13, 14, 15, 30, 31, 32, 33, 34, 35, 36, 37, 38, 16, 17, 18, 19, 20, 21, 22, 23, 24, 25, 26, 27] rfl
            have hD : va_D A (wTD cI cF cJ ot oh b ou od ow oa ob ok os T ++ (wHB cI cF cJ oh fa tr rw Hb ++ (wFR cI cF cJ q0 q1 q2 q3 q4 q5 q6 q7 q8 F ++ (wFR cI cF cJ r0 r1 r2 r3 r4 r5 r6 r7 r8 x20.2 ++ (wFR cI cF cJ tr t1 t2 t3 t4 t5 t6 t7 t8 x9.2 ++ ([(qa, .inl (cD, 2, .inr (.inr (.inr (.inl tk)))))] ++ ([(n2, .inl (cI, 4, .inl (upd (upd (upd (upd (fun _ => 0) (Int32.toNatClampNeg 0) x3.1) (Int32.toNatClampNeg 1) x5.1) (Int32.toNatClampNeg 2) x7.1) (Int32.toNatClampNeg 3) x9.1)))] ++ ([(n11, .inl (cI, 4, .inl (upd (upd (upd (upd (fun _ => 0) (Int32.toNatClampNeg 0) x12) (Int32.toNatClampNeg 1) x14) (Int32.toNatClampNeg 2) x16) (Int32.toNatClampNeg 3) x18)))])))))))) := hD.sub [0, 1, 2, 3, 4, 5, 6, 28, 29, 7, 8, 9, 10, 11, 12, 13, 14, 15, 30, 31, 32, 33, 34, 35, 36, 37, 38, 16, 17, 18, 19, 20, 21, 22, 23, 24, 25, 26, 27] (by decide) rfl
            refine lv_aload hx hb dL_law_435 (lv_at hl 1 rfl) ?_
            refine lv_iload hx hb dL_law_437 (lv_at hl 0 rfl) ?_
            obtain ⟨g56, hf⟩ := gd_e hf
            refine va_iald hx hb hK hP 38 0 rfl rfl (gin_in g56) dL_law_439 ?_
            refine lv_topi (fun v57 ev57 => ?_)
            have hf := bnd_all hf v57 ev57
            refine lv_aload hx hb dL_law_440 (lv_at hl 2 rfl) ?_
            refine lv_iload hx hb dL_law_442 (lv_at hl 0 rfl) ?_
            obtain ⟨g58, hf⟩ := gd_e hf
            refine va_iald hx hb hK hP 37 0 rfl rfl (gin_in g58) dL_law_444 ?_
            refine lv_topi (fun v59 ev59 => ?_)
            have hf := bnd_all hf v59 ev59
            refine lv_iadd hx hb dL_law_445 ?_
            refine lv_topi (fun v60 ev60 => ?_)
            have hf := bnd_all hf v60 ev60
            refine lv_icmp_eq (tgt := 451) hx hb dL_law_446 (by decide) (fun c61 => ?_) (fun c61 => ?_)
            · have hf := ite_t hf c61
              refine lv_iinc (v := 4) (lv' := [(18, .int 4), (17, .ref n11), (16, .ref n2), (14, .double x1), (0, .ref b), (1, .int pt), (2, .ref oh), (3, .ref ot), (5, .int pk), (6, .int pn), (10, .ref qa), (11, .int pp), (13, .int 1)]) hx hb dL_law_451 hl (k := 0) rfl (by decide) (by decide) rfl (fun ls hl => ?_)
              refine lv_goto (tgt := 408) hx hb dL_law_454 (by decide) ?_
              refine lv_iload hx hb dL_law_408 (lv_at hl 0 rfl) ?_
              refine lv_iconst (v := 4) hx hb dL_law_410 (by decide) ?_
              refine lv_icmp_ge (tgt := 457) hx hb dL_law_411 (by decide) (fun _ => ?_) (fun c9 => absurd (by decide) c9)
              refine lv_iinc (v := 2) (lv' := [(13, .int 2), (18, .int 4), (17, .ref n11), (16, .ref n2), (14, .double x1), (0, .ref b), (1, .int pt), (2, .ref oh), (3, .ref ot), (5, .int pk), (6, .int pn), (10, .ref qa), (11, .int pp)]) hx hb dL_law_457 hl (k := 12) rfl (by decide) (by decide) rfl (fun ls hl => ?_)
              obtain rfl := Option.some.inj hf
              have hP : va_P (dC, dI) vwCl (wTD cI cF cJ ot oh b ou od ow oa ob ok os T ++ (wHB cI cF cJ oh fa tr rw Hb ++ (wFR cI cF cJ q0 q1 q2 q3 q4 q5 q6 q7 q8 F ++ (wFR cI cF cJ r0 r1 r2 r3 r4 r5 r6 r7 r8 x20.2 ++ (wFR cI cF cJ tr t1 t2 t3 t4 t5 t6 t7 t8 x9.2 ++ ([(qa, .inl (cD, 2, .inr (.inr (.inr (.inl tk)))))])))))) H := hP.sub [0, 1, 2, 3, 4, 5, 6, 7, 8, 9, 10, 11, 12, 13, 14, 15, 16, 17, 18, 19, 20, 21, 22, 23, 24, 25, 26, 27, 28, 29, 30, 31, 32, 33, 34, 35, 36] rfl
              have hD : va_D A (wTD cI cF cJ ot oh b ou od ow oa ob ok os T ++ (wHB cI cF cJ oh fa tr rw Hb ++ (wFR cI cF cJ q0 q1 q2 q3 q4 q5 q6 q7 q8 F ++ (wFR cI cF cJ r0 r1 r2 r3 r4 r5 r6 r7 r8 x20.2 ++ (wFR cI cF cJ tr t1 t2 t3 t4 t5 t6 t7 t8 x9.2 ++ ([(qa, .inl (cD, 2, .inr (.inr (.inr (.inl tk)))))])))))) := hD.sub [0, 1, 2, 3, 4, 5, 6, 7, 8, 9, 10, 11, 12, 13, 14, 15, 16, 17, 18, 19, 20, 21, 22, 23, 24, 25, 26, 27, 28, 29, 30, 31, 32, 33, 34, 35, 36] (by decide) rfl
              exact kk  _ _ _ hP hD hS (lv_sub hl [5, 6, 7, 8, 9, 10, 11, 12, 0] rfl)
            · have hf := ite_f hf c61
              refine lv_iconst (v := 0) hx hb dL_law_449 (by decide) ?_
              cases hf
          · have hf := ite_f hf c54
            refine lv_iconst (v := 0) hx hb dL_law_449 (by decide) ?_
            cases hf
        · have hf := ite_f hf c46
          refine lv_iconst (v := 0) hx hb dL_law_449 (by decide) ?_
          cases hf
      · have hf := ite_f hf c38
        refine lv_iconst (v := 0) hx hb dL_law_449 (by decide) ?_
        cases hf
    · have hf := ite_f hf c30
      refine lv_iconst (v := 0) hx hb dL_law_403 (by decide) ?_
      cases hf
