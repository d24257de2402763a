-- laid by wip/p30/law.py
noncomputable def f_C1 (L : Nat) (xs : Nat → Int32) (T : TD) (Hb : HB) (F : FR) (F2 : FR) (Tr : FR) : Option (Int32 × Int32 × (Nat → UInt64) × TD × FR) := obd (f_X3_draw L xs T 3) fun x1 => jn (fun (b2 : Int32) (F3 : TD) (F4 : FR) => obd (f_X2_digest Hb F F2 F4) fun x5 => obd (f_X2_quicker Hb F F2 x5.2 b2) fun x6 => obd (f_X2_wouldTake Hb F x6.2 0 b2) fun x8 => gd (gin 0 2) <| obd (f_X2_wouldTake Hb F2 x8.2 1 b2) fun x10 => gd (gin 1 2) <| obd (f_X3_draw L xs F3 (nI (tN F3))) fun x12 => obd (f_X2_hardest Hb F x10.2 0 x12.1) fun x13 => obd (f_X2_digest Hb F F2 x13.2) fun x14 => bnd (lg_cmp x14.1 x5.1) fun (v15 : Int32) => if v15 = 0 then (gd (gin x6.1 2) <| bnd ((vf_upd (vf_upd (fun _ => 0) (Int32.toNatClampNeg 0) x8.1) (Int32.toNatClampNeg 1) x10.1) (Int32.toNatClampNeg x6.1)) fun (v18 : UInt64) => bnd (1 - x6.1) fun (v19 : Int32) => gd (gin v19 2) <| bnd ((vf_upd (vf_upd (fun _ => 0) (Int32.toNatClampNeg 0) x8.1) (Int32.toNatClampNeg 1) x10.1) (Int32.toNatClampNeg v19)) fun (v21 : UInt64) => bnd (Op.cmpValue (FP.dcmp v18 v21) CmpOp.l) fun (v22 : Int32) => if (0 : Int32) < v22 then (none) else (gd (gin 0 2) <| bnd ((vf_upd (vf_upd (fun _ => 0) (Int32.toNatClampNeg 0) x8.1) (Int32.toNatClampNeg 1) x10.1) (Int32.toNatClampNeg 0)) fun (v25 : UInt64) => gd (gin 1 2) <| bnd ((vf_upd (vf_upd (fun _ => 0) (Int32.toNatClampNeg 0) x8.1) (Int32.toNatClampNeg 1) x10.1) (Int32.toNatClampNeg 1)) fun (v27 : UInt64) => bnd (Op.cmpValue (FP.dcmp v25 v27) CmpOp.l) fun (v28 : Int32) => jn (fun (F29 : TD) (F30 : FR) => if x13.1 < 1 then (none) else (if x13.1 ≤ 9 then (some (b2, x12.1, (vf_upd (vf_upd (fun _ => 0) (Int32.toNatClampNeg 0) x8.1) (Int32.toNatClampNeg 1) x10.1), F29, F30)) else (none))) fun J239 => if v28 = 0 then (if x6.1 = 0 then (J239 x12.2 x14.2) else (none)) else (J239 x12.2 x14.2))) else (none)) fun J133 => if x1.1 = 0 then (obd (f_X3_draw L xs x1.2 100) fun x78 => J133 x78.1 x78.2 Tr) else (obd (f_X3_draw L xs x1.2 10) fun x77 => J133 x77.1 x77.2 Tr)
set_option maxHeartbeats 8000000 in
set_option maxRecDepth 100000 in
theorem w_C1 {p : Program} {l : Launch} {e : Env} {s : State} {m : MethodId} {args : Array Value} {below : List Frame} {meth : Method} {c : Code} {Q : State → Prop} {A : Nat → Prop} {dC : Nat → ClassId} {dI : Nat → Nat → Nat} {cI cF cJ cD : ClassId} {b L : Nat} {xs : Nat → Int32} {tA tB : Nat} (hx : p.tables.exec = Jvm.exec) (hb : c.code = cL_law) (hml : c.maxLocals = 19) (hts : ∀ w ∈ LW, w.before args s = true) (hown : s.vm.findClass RL = some m.cls) (hK : va_K (dC, dI) vwCl (TY cI cF cJ cD) s) (hA : ∀ q : Nat, s.heap.size ≤ q → A q) (hE : EX b L xs tA tB A s) {ot oh ou od ow oa ob ok os fa tr q0 q1 q2 q3 q4 q5 q6 q7 q8 r0 r1 r2 r3 r4 r5 r6 r7 r8 t1 t2 t3 t4 t5 t6 t7 t8 : Nat} {rw : Nat → Option Nat} {T : TD} {Hb : HB} {F : FR} {F2 : FR} {Tr : FR} {pt pk : Int32} (hq0 : f_X2_frameAt rw 0 = some (some q0)) (hq1 : f_X2_frameAt rw 1 = some (some r0)) (hr0 : rw (Int32.toNatClampNeg 0) = some q0) (hr1 : rw (Int32.toNatClampNeg 1) = some r0) (hr2 : rw (Int32.toNatClampNeg 2) = none) (hr3 : rw (Int32.toNatClampNeg 3) = none) (hfc : (hFc Hb) = 2) {res : (Int32 × Int32 × (Nat → UInt64) × TD × FR)} (hf : f_C1 L xs T Hb F F2 Tr = some res) {H : Heap} {locs : List Loc} {ls : Array Slot} {cc ss : Nat} (hcc : cc + 1 ≤ 600000) (hss : ss + 2 ≤ 7000000) (hP : va_P (dC, dI) vwCl (wTD cI cF cJ ot oh b ou od ow oa ob ok os T ++ (wHB cI cF cJ oh fa tr rw Hb ++ (wFR cI cF cJ q0 q1 q2 q3 q4 q5 q6 q7 q8 F ++ (wFR cI cF cJ r0 r1 r2 r3 r4 r5 r6 r7 r8 F2 ++ (wFR cI cF cJ tr t1 t2 t3 t4 t5 t6 t7 t8 Tr))))) H) (hD : va_D A (wTD cI cF cJ ot oh b ou od ow oa ob ok os T ++ (wHB cI cF cJ oh fa tr rw Hb ++ (wFR cI cF cJ q0 q1 q2 q3 q4 q5 q6 q7 q8 F ++ (wFR cI cF cJ r0 r1 r2 r3 r4 r5 r6 r7 r8 F2 ++ (wFR cI cF cJ tr t1 t2 t3 t4 t5 t6 t7 t8 Tr)))))) (hS : va_S A s.heap H locs) (hl : lv_has ls 19 [(0, .ref b), (1, .int pt), (2, .ref oh), (3, .ref ot), (5, .int pk)])
    (kk : ∀ (qa : Nat) (H : Heap) (locs : List Loc) (ls : Array Slot), va_P (dC, dI) vwCl (wTD cI cF cJ ot oh b ou od ow oa ob ok os res.2.2.2.1 ++ (wHB cI cF cJ oh fa tr rw Hb ++ (wFR cI cF cJ q0 q1 q2 q3 q4 q5 q6 q7 q8 F ++ (wFR cI cF cJ r0 r1 r2 r3 r4 r5 r6 r7 r8 F2 ++ (wFR cI cF cJ tr t1 t2 t3 t4 t5 t6 t7 t8 res.2.2.2.2 ++ ([(qa, .inl (cD, 2, .inr (.inr (.inr (.inl res.2.2.1)))))])))))) H → va_D A (wTD cI cF cJ ot oh b ou od ow oa ob ok os res.2.2.2.1 ++ (wHB cI cF cJ oh fa tr rw Hb ++ (wFR cI cF cJ q0 q1 q2 q3 q4 q5 q6 q7 q8 F ++ (wFR cI cF cJ r0 r1 r2 r3 r4 r5 r6 r7 r8 F2 ++ (wFR cI cF cJ tr t1 t2 t3 t4 t5 t6 t7 t8 res.2.2.2.2 ++ ([(qa, .inl (cD, 2, .inr (.inr (.inr (.inl res.2.2.1)))))])))))) → va_S A s.heap H locs → lv_has ls 19 [(0, .ref b), (1, .int pt), (2, .ref oh), (3, .ref ot), (5, .int pk), (6, .int res.1), (10, .ref qa), (11, .int res.2.1)] → W p l e room_1 s m args below meth c H locs ((cc + 1)) ((ss + 2)) Q (F0 m 254 ls [])) : W p l e room_1 s m args below meth c H locs cc ss Q (F0 m 110 ls []) := by
  have hkc := Nat.zero_le room_1.cells
  have hks := Nat.zero_le room_1.slots
  rw [f_C1] at hf
  refine lv_aload_n hx hb dL_law_110 rfl (lv_at hl 3 rfl) ?_
  refine lv_iconst (v := 3) hx hb dL_law_111 (by decide) ?_
  obtain ⟨x1, hx1, hf⟩ := obd_e hf
  refine sb_Vi (As := [.int 3]) (rest := []) ⟨hx, hb, hml, hown, hts⟩ (fun sz => c_X3_draw l dC dI cI cF cJ cD b L xs tA tB ot oh ou od ow oa ob ok os T 3  x1 hx1 sz) (cwV 1 hts (g_V q510 q350 q351 q352 q339) rfl rfl rfl pc_X3_draw ⟨Nat.le_of_ble_eq_true rfl, Nat.le_of_ble_eq_true rfl⟩) 0 3 rfl rfl hK hP hD hS hA [0, 1, 2, 3, 4, 5, 6] [7, 8, 9, 10, 11, 12, 13, 14, 15, 16, 17, 18, 19, 20, 21, 22, 23, 24, 25, 26, 27, 28, 29, 30, 31, 32, 33, 34, 35] rfl rfl (by decide) (by decide) (by decide) EX_blind (fun U hU hW => EX_pass hE hS (va_free hD hS hA [0, 1, 2, 3, 4, 5, 6] rfl) hU hW) rfl rfl hl.1 (Nat.le_of_ble_eq_true rfl) dL_law_112 ⟨Nat.le_trans (show cc + 0 ≤ 600000 by omega) (Nat.le_of_ble_eq_true rfl), Nat.le_trans (show ss + 0 ≤ 7000000 by omega) (Nat.le_of_ble_eq_true rfl)⟩ (fun r9 u H locs hr9 hP hD hS => ?_)
  have hr9 := Eq.symm hr9
  subst hr9
  have hP : va_P (dC, dI) vwCl (wTD cI cF cJ ot oh b ou od ow oa ob ok os x1.2 ++ (wHB cI cF cJ oh fa tr rw Hb ++ (wFR cI cF cJ q0 q1 q2 q3 q4 q5 q6 q7 q8 F ++ (wFR cI cF cJ r0 r1 r2 r3 r4 r5 r6 r7 r8 F2 ++ (wFR cI cF cJ tr t1 t2 t3 t4 t5 t6 t7 t8 Tr))))) H := hP.sub [29, 30, 31, 32, 33, 34, 35, 0, 1, 2, 3, 4, 5, 6, 7, 8, 9, 10, 11, 12, 13, 14, 15, 16, 17, 18, 19, 20, 21, 22, 23, 24, 25, 26, 27, 28] rfl
  have hD : va_D A (wTD cI cF cJ ot oh b ou od ow oa ob ok os x1.2 ++ (wHB cI cF cJ oh fa tr rw Hb ++ (wFR cI cF cJ q0 q1 q2 q3 q4 q5 q6 q7 q8 F ++ (wFR cI cF cJ r0 r1 r2 r3 r4 r5 r6 r7 r8 F2 ++ (wFR cI cF cJ tr t1 t2 t3 t4 t5 t6 t7 t8 Tr))))) := hD.sub [29, 30, 31, 32, 33, 34, 35, 0, 1, 2, 3, 4, 5, 6, 7, 8, 9, 10, 11, 12, 13, 14, 15, 16, 17, 18, 19, 20, 21, 22, 23, 24, 25, 26, 27, 28] (by decide) rfl
  obtain ⟨J133, eJ133, hf⟩ := jn_e hf
  have hJ133 : ∀ (b39 : Int32) (F40 : TD) (F41 : FR) (H : Heap) (locs : List Loc) (ls : Array Slot), va_P (dC, dI) vwCl (wTD cI cF cJ ot oh b ou od ow oa ob ok os F40 ++ (wHB cI cF cJ oh fa tr rw Hb ++ (wFR cI cF cJ q0 q1 q2 q3 q4 q5 q6 q7 q8 F ++ (wFR cI cF cJ r0 r1 r2 r3 r4 r5 r6 r7 r8 F2 ++ (wFR cI cF cJ tr t1 t2 t3 t4 t5 t6 t7 t8 F41))))) H → va_D A (wTD cI cF cJ ot oh b ou od ow oa ob ok os F40 ++ (wHB cI cF cJ oh fa tr rw Hb ++ (wFR cI cF cJ q0 q1 q2 q3 q4 q5 q6 q7 q8 F ++ (wFR cI cF cJ r0 r1 r2 r3 r4 r5 r6 r7 r8 F2 ++ (wFR cI cF cJ tr t1 t2 t3 t4 t5 t6 t7 t8 F41))))) → va_S A s.heap H locs → lv_has ls 19 [(0, .ref b), (1, .int pt), (2, .ref oh), (3, .ref ot), (5, .int pk)] → J133 b39 F40 F41 = some res → W p l e room_1 s m args below meth c H locs cc ss Q (F0 m 133 ls [.int b39]) := by
    intro b39 F40 F41 H locs ls hP hD hS hl hf
    subst eJ133
    refine lv_istore (lv' := [(6, .int b39), (0, .ref b), (1, .int pt), (2, .ref oh), (3, .ref ot), (5, .int pk)]) hx hb dL_law_133 hl (by decide) rfl (fun ls hl => ?_)
    refine lv_aload_n hx hb dL_law_135 rfl (lv_at hl 3 rfl) ?_
    obtain ⟨x42, hx42, hf⟩ := obd_e hf
    refine sb_Vl (As := []) (rest := []) ⟨hx, hb, hml, hown, hts⟩ (fun sz => c_X2_digest l dC dI cI cF cJ cD oh fa tr q0 q1 q2 q3 q4 q5 q6 q7 q8 r0 r1 r2 r3 r4 r5 r6 r7 r8 t1 t2 t3 t4 t5 t6 t7 t8 rw Hb F F2 F41 hq0 hq1 hr0 hr1 hr2 hr3 hfc x42 hx42 sz) (cwV 0 hts (g_V q539 q540 q541 q172 q326) rfl rfl rfl pc_X2_digest ⟨Nat.le_of_ble_eq_true rfl, Nat.le_of_ble_eq_true rfl⟩) 0 2 rfl rfl hK hP hD hS hA [7, 8, 9, 10, 11, 12, 13, 14, 15, 16, 17, 18, 19, 20, 21, 22, 23, 24, 25, 26, 27, 28, 29, 30, 31, 32, 33, 34, 35] [0, 1, 2, 3, 4, 5, 6] rfl rfl (by decide) (by decide) (by decide) (fun _ _ _ _ h => h) (fun _ _ _ => trivial) rfl rfl hl.1 (Nat.le_of_ble_eq_true rfl) dL_law_136 ⟨Nat.le_trans (show cc + 0 ≤ 600000 by omega) (Nat.le_of_ble_eq_true rfl), Nat.le_trans (show ss + 0 ≤ 7000000 by omega) (Nat.le_of_ble_eq_true rfl)⟩ (fun r9 u H locs hr9 hP hD hS => ?_)
    have hr9 := Eq.symm hr9
    subst hr9
    have hP : va_P (dC, dI) vwCl (wTD cI cF cJ ot oh b ou od ow oa ob ok os F40 ++ (wHB cI cF cJ oh fa tr rw Hb ++ (wFR cI cF cJ q0 q1 q2 q3 q4 q5 q6 q7 q8 F ++ (wFR cI cF cJ r0 r1 r2 r3 r4 r5 r6 r7 r8 F2 ++ (wFR cI cF cJ tr t1 t2 t3 t4 t5 t6 t7 t8 x42.2))))) H := hP
    have hD : va_D A (wTD cI cF cJ ot oh b ou od ow oa ob ok os F40 ++ (wHB cI cF cJ oh fa tr rw Hb ++ (wFR cI cF cJ q0 q1 q2 q3 q4 q5 q6 q7 q8 F ++ (wFR cI cF cJ r0 r1 r2 r3 r4 r5 r6 r7 r8 F2 ++ (wFR cI cF cJ tr t1 t2 t3 t4 t5 t6 t7 t8 x42.2))))) := hD
    refine lv_lstore (lv' := [(7, .long x42.1), (6, .int b39), (0, .ref b), (1, .int pt), (2, .ref oh), (3, .ref ot), (5, .int pk)]) hx hb dL_law_139 hl (by decide) rfl (fun ls hl => ?_)
    refine lv_aload_n hx hb dL_law_141 rfl (lv_at hl 4 rfl) ?_
    refine lv_iconst (v := 0) hx hb dL_law_142 (by decide) ?_
    refine lv_iconst (v := 1) hx hb dL_law_143 (by decide) ?_
    refine lv_iload hx hb dL_law_144 (lv_at hl 1 rfl) ?_
    obtain ⟨x43, hx43, hf⟩ := obd_e hf
    refine sb_Vi (As := [.int 0, .int 1, .int b39]) (rest := []) ⟨hx, hb, hml, hown, hts⟩ (fun sz => c_X2_quicker l dC dI cI cF cJ cD oh fa tr q0 q1 q2 q3 q4 q5 q6 q7 q8 r0 r1 r2 r3 r4 r5 r6 r7 r8 t1 t2 t3 t4 t5 t6 t7 t8 rw Hb F F2 x42.2 b39 hq0 hq1 x43 hx43 sz) (cwV 3 hts (g_V q542 q543 q544 q172 q299) rfl rfl rfl pc_X2_quicker ⟨Nat.le_of_ble_eq_true rfl, Nat.le_of_ble_eq_true rfl⟩) 0 2 rfl rfl hK hP hD hS hA [7, 8, 9, 10, 11, 12, 13, 14, 15, 16, 17, 18, 19, 20, 21, 22, 23, 24, 25, 26, 27, 28, 29, 30, 31, 32, 33, 34, 35] [0, 1, 2, 3, 4, 5, 6] rfl rfl (by decide) (by decide) (by decide) (fun _ _ _ _ h => h) (fun _ _ _ => trivial) rfl rfl hl.1 (Nat.le_of_ble_eq_true rfl) dL_law_146 ⟨Nat.le_trans (show cc + 0 ≤ 600000 by omega) (Nat.le_of_ble_eq_true rfl), Nat.le_trans (show ss + 0 ≤ 7000000 by omega) (Nat.le_of_ble_eq_true rfl)⟩ (fun r9 u H locs hr9 hP hD hS => ?_)
    have hr9 := Eq.symm hr9
    subst hr9
    have hP : va_P (dC, dI) vwCl (wTD cI cF cJ ot oh b ou od ow oa ob ok os F40 ++ (wHB cI cF cJ oh fa tr rw Hb ++ (wFR cI cF cJ q0 q1 q2 q3 q4 q5 q6 q7 q8 F ++ (wFR cI cF cJ r0 r1 r2 r3 r4 r5 r6 r7 r8 F2 ++ (wFR cI cF cJ tr t1 t2 t3 t4 t5 t6 t7 t8 x43.2))))) H := hP
    have hD : va_D A (wTD cI cF cJ ot oh b ou od ow oa ob ok os F40 ++ (wHB cI cF cJ oh fa tr rw Hb ++ (wFR cI cF cJ q0 q1 q2 q3 q4 q5 q6 q7 q8 F ++ (wFR cI cF cJ r0 r1 r2 r3 r4 r5 r6 r7 r8 F2 ++ (wFR cI cF cJ tr t1 t2 t3 t4 t5 t6 t7 t8 x43.2))))) := hD
    refine lv_istore (lv' := [(9, .int x43.1), (7, .long x42.1), (6, .int b39), (0, .ref b), (1, .int pt), (2, .ref oh), (3, .ref ot), (5, .int pk)]) hx hb dL_law_149 hl (by decide) rfl (fun ls hl => ?_)
    refine lv_iconst (v := 2) hx hb dL_law_151 (by decide) ?_
    refine sb_newd hx hb (hts _ q527) hK hP hD hS hA (N' := 2) (by decide) (by decide) (Nat.le_of_ble_eq_true rfl) (Nat.le_trans (show cc + 1 ≤ 600000 by omega) (Nat.le_of_ble_eq_true rfl)) (Nat.le_trans (show ss + 2 ≤ 7000000 by omega) (Nat.le_of_ble_eq_true rfl)) dL_law_152 (fun n44 H hP hD hS => ?_)
    refine W.widen (k := (cc + 1)) (n := (ss + 2)) (by omega) (by omega) ?_
    have hP : va_P (dC, dI) vwCl (wTD cI cF cJ ot oh b ou od ow oa ob ok os F40 ++ (wHB cI cF cJ oh fa tr rw Hb ++ (wFR cI cF cJ q0 q1 q2 q3 q4 q5 q6 q7 q8 F ++ (wFR cI cF cJ r0 r1 r2 r3 r4 r5 r6 r7 r8 F2 ++ (wFR cI cF cJ tr t1 t2 t3 t4 t5 t6 t7 t8 x43.2 ++ ([(n44, .inl (cD, 2, .inr (.inr (.inr (.inl (fun _ => 0))))))])))))) H := hP
    have hD : va_D A (wTD cI cF cJ ot oh b ou od ow oa ob ok os F40 ++ (wHB cI cF cJ oh fa tr rw Hb ++ (wFR cI cF cJ q0 q1 q2 q3 q4 q5 q6 q7 q8 F ++ (wFR cI cF cJ r0 r1 r2 r3 r4 r5 r6 r7 r8 F2 ++ (wFR cI cF cJ tr t1 t2 t3 t4 t5 t6 t7 t8 x43.2 ++ ([(n44, .inl (cD, 2, .inr (.inr (.inr (.inl (fun _ => 0))))))])))))) := hD
    refine lv_dup hx hb dL_law_154 rfl ?_
    refine lv_iconst (v := 0) hx hb dL_law_155 (by decide) ?_
    refine lv_aload_n hx hb dL_law_156 rfl (lv_at hl 5 rfl) ?_
    refine lv_iconst (v := 0) hx hb dL_law_157 (by decide) ?_
    refine lv_iload hx hb dL_law_158 (lv_at hl 2 rfl) ?_
    obtain ⟨x45, hx45, hf⟩ := obd_e hf
    refine sb_Vd (As := [.int 0, .int b39]) (rest := [.int 0, .ref n44, .ref n44]) ⟨hx, hb, hml, hown, hts⟩ (fun sz => c_X2_wouldTake l dC dI cI cF cJ cD oh fa tr q0 q1 q2 q3 q4 q5 q6 q7 q8 t1 t2 t3 t4 t5 t6 t7 t8 rw Hb F x43.2 0 b39 hq0 x45 hx45 sz) (cwV 2 hts (g_V q545 q546 q547 q172 q293) rfl rfl rfl pc_X2_wouldTake ⟨Nat.le_of_ble_eq_true rfl, Nat.le_of_ble_eq_true rfl⟩) 0 2 rfl rfl hK hP hD hS hA [7, 8, 9, 10, 11, 12, 13, 14, 15, 16, 17, 27, 28, 29, 30, 31, 32, 33, 34, 35] [0, 1, 2, 3, 4, 5, 6, 18, 19, 20, 21, 22, 23, 24, 25, 26, 36] rfl rfl (by decide) (by decide) (by decide) (fun _ _ _ _ h => h) (fun _ _ _ => trivial) rfl rfl hl.1 (Nat.le_of_ble_eq_true rfl) dL_law_160 ⟨Nat.le_trans (show (cc + 1) + 0 ≤ 600000 by omega) (Nat.le_of_ble_eq_true rfl), Nat.le_trans (show (ss + 2) + 0 ≤ 7000000 by omega) (Nat.le_of_ble_eq_true rfl)⟩ (fun r9 u H locs hr9 hP hD hS => ?_)
    have hr9 := Eq.symm hr9
    subst hr9
    have hP : va_P (dC, dI) vwCl (wTD cI cF cJ ot oh b ou od ow oa ob ok os F40 ++ (wHB cI cF cJ oh fa tr rw Hb ++ (wFR cI cF cJ q0 q1 q2 q3 q4 q5 q6 q7 q8 F ++ (wFR cI cF cJ r0 r1 r2 r3 r4 r5 r6 r7 r8 F2 ++ (wFR cI cF cJ tr t1 t2 t3 t4 t5 t6 t7 t8 x45.2 ++ ([(n44, .inl (cD, 2, .inr (.inr (.inr (.inl (fun _ => 0))))))])))))) H := hP.sub [0, 1, 2, 3, 4, 5, 6, 17, 18, 19, 20, 21, 22, 23, 24, 25, 26, 27, 7, 8, 9, 10, 11, 12, 13, 14, 15, 28, 29, 30, 31, 32, 33, 34, 35, 36, 16] rfl
    have hD : va_D A (wTD cI cF cJ ot oh b ou od ow oa ob ok os F40 ++ (wHB cI cF cJ oh fa tr rw Hb ++ (wFR cI cF cJ q0 q1 q2 q3 q4 q5 q6 q7 q8 F ++ (wFR cI cF cJ r0 r1 r2 r3 r4 r5 r6 r7 r8 F2 ++ (wFR cI cF cJ tr t1 t2 t3 t4 t5 t6 t7 t8 x45.2 ++ ([(n44, .inl (cD, 2, .inr (.inr (.inr (.inl (fun _ => 0))))))])))))) := hD.sub [0, 1, 2, 3, 4, 5, 6, 17, 18, 19, 20, 21, 22, 23, 24, 25, 26, 27, 7, 8, 9, 10, 11, 12, 13, 14, 15, 28, 29, 30, 31, 32, 33, 34, 35, 36, 16] (by decide) rfl
    obtain ⟨g46, hf⟩ := gd_e hf
    refine va_dast hx hb hK hP hD hS 36 3 rfl rfl (gin_in g46) dL_law_163 (fun H locs hP hD hS => ?_)
    have hP : va_P (dC, dI) vwCl (wTD cI cF cJ ot oh b ou od ow oa ob ok os F40 ++ (wHB cI cF cJ oh fa tr rw Hb ++ (wFR cI cF cJ q0 q1 q2 q3 q4 q5 q6 q7 q8 F ++ (wFR cI cF cJ r0 r1 r2 r3 r4 r5 r6 r7 r8 F2 ++ (wFR cI cF cJ tr t1 t2 t3 t4 t5 t6 t7 t8 x45.2 ++ ([(n44, .inl (cD, 2, .inr (.inr (.inr (.inl (vf_upd (fun _ => 0) (Int32.toNatClampNeg 0) x45.1))))))])))))) H := hP
    have hD : va_D A (wTD cI cF cJ ot oh b ou od ow oa ob ok os F40 ++ (wHB cI cF cJ oh fa tr rw Hb ++ (wFR cI cF cJ q0 q1 q2 q3 q4 q5 q6 q7 q8 F ++ (wFR cI cF cJ r0 r1 r2 r3 r4 r5 r6 r7 r8 F2 ++ (wFR cI cF cJ tr t1 t2 t3 t4 t5 t6 t7 t8 x45.2 ++ ([(n44, .inl (cD, 2, .inr (.inr (.inr (.inl (vf_upd (fun _ => 0) (Int32.toNatClampNeg 0) x45.1))))))])))))) := hD
    refine lv_dup hx hb dL_law_164 rfl ?_
    refine lv_iconst (v := 1) hx hb dL_law_165 (by decide) ?_
    refine lv_aload_n hx hb dL_law_166 rfl (lv_at hl 5 rfl) ?_
    refine lv_iconst (v := 1) hx hb dL_law_167 (by decide) ?_
    refine lv_iload hx hb dL_law_168 (lv_at hl 2 rfl) ?_
    obtain ⟨x47, hx47, hf⟩ := obd_e hf
    refine sb_Vd (As := [.int 1, .int b39]) (rest := [.int 1, .ref n44, .ref n44]) ⟨hx, hb, hml, hown, hts⟩ (fun sz => c_X2_wouldTake l dC dI cI cF cJ cD oh fa tr r0 r1 r2 r3 r4 r5 r6 r7 r8 t1 t2 t3 t4 t5 t6 t7 t8 rw Hb F2 x45.2 1 b39 hq1 x47 hx47 sz) (cwV 2 hts (g_V q545 q546 q547 q172 q293) rfl rfl rfl pc_X2_wouldTake ⟨Nat.le_of_ble_eq_true rfl, Nat.le_of_ble_eq_true rfl⟩) 0 2 rfl rfl hK hP hD hS hA [7, 8, 18, 19, 20, 21, 22, 23, 24, 25, 26, 27, 28, 29, 30, 31, 32, 33, 34, 35] [0, 1, 2, 3, 4, 5, 6, 9, 10, 11, 12, 13, 14, 15, 16, 17, 36] rfl rfl (by decide) (by decide) (by decide) (fun _ _ _ _ h => h) (fun _ _ _ => trivial) rfl rfl hl.1 (Nat.le_of_ble_eq_true rfl) dL_law_170 ⟨Nat.le_trans (show (cc + 1) + 0 ≤ 600000 by omega) (Nat.le_of_ble_eq_true rfl), Nat.le_trans (show (ss + 2) + 0 ≤ 7000000 by omega) (Nat.le_of_ble_eq_true rfl)⟩ (fun r9 u H locs hr9 hP hD hS => ?_)
    have hr9 := Eq.symm hr9
    subst hr9
    have hP : va_P (dC, dI) vwCl (wTD cI cF cJ ot oh b ou od ow oa ob ok os F40 ++ (wHB cI cF cJ oh fa tr rw Hb ++ (wFR cI cF cJ q0 q1 q2 q3 q4 q5 q6 q7 q8 F ++ (wFR cI cF cJ r0 r1 r2 r3 r4 r5 r6 r7 r8 F2 ++ (wFR cI cF cJ tr t1 t2 t3 t4 t5 t6 t7 t8 x47.2 ++ ([(n44, .inl (cD, 2, .inr (.inr (.inr (.inl (vf_upd (fun _ => 0) (Int32.toNatClampNeg 0) x45.1))))))])))))) H := hP.sub [0, 1, 2, 3, 4, 5, 6, 17, 18, 7, 8, 9, 10, 11, 12, 13, 14, 15, 19, 20, 21, 22, 23, 24, 25, 26, 27, 28, 29, 30, 31, 32, 33, 34, 35, 36, 16] rfl
    have hD : va_D A (wTD cI cF cJ ot oh b ou od ow oa ob ok os F40 ++ (wHB cI cF cJ oh fa tr rw Hb ++ (wFR cI cF cJ q0 q1 q2 q3 q4 q5 q6 q7 q8 F ++ (wFR cI cF cJ r0 r1 r2 r3 r4 r5 r6 r7 r8 F2 ++ (wFR cI cF cJ tr t1 t2 t3 t4 t5 t6 t7 t8 x47.2 ++ ([(n44, .inl (cD, 2, .inr (.inr (.inr (.inl (vf_upd (fun _ => 0) (Int32.toNatClampNeg 0) x45.1))))))])))))) := hD.sub [0, 1, 2, 3, 4, 5, 6, 17, 18, 7, 8, 9, 10, 11, 12, 13, 14, 15, 19, 20, 21, 22, 23, 24, 25, 26, 27, 28, 29, 30, 31, 32, 33, 34, 35, 36, 16] (by decide) rfl
    obtain ⟨g48, hf⟩ := gd_e hf
    refine va_dast hx hb hK hP hD hS 36 3 rfl rfl (gin_in g48) dL_law_173 (fun H locs hP hD hS => ?_)
    have hP : va_P (dC, dI) vwCl (wTD cI cF cJ ot oh b ou od ow oa ob ok os F40 ++ (wHB cI cF cJ oh fa tr rw Hb ++ (wFR cI cF cJ q0 q1 q2 q3 q4 q5 q6 q7 q8 F ++ (wFR cI cF cJ r0 r1 r2 r3 r4 r5 r6 r7 r8 F2 ++ (wFR cI cF cJ tr t1 t2 t3 t4 t5 t6 t7 t8 x47.2 ++ ([(n44, .inl (cD, 2, .inr (.inr (.inr (.inl (vf_upd (vf_upd (fun _ => 0) (Int32.toNatClampNeg 0) x45.1) (Int32.toNatClampNeg 1) x47.1))))))])))))) H := hP
    have hD : va_D A (wTD cI cF cJ ot oh b ou od ow oa ob ok os F40 ++ (wHB cI cF cJ oh fa tr rw Hb ++ (wFR cI cF cJ q0 q1 q2 q3 q4 q5 q6 q7 q8 F ++ (wFR cI cF cJ r0 r1 r2 r3 r4 r5 r6 r7 r8 F2 ++ (wFR cI cF cJ tr t1 t2 t3 t4 t5 t6 t7 t8 x47.2 ++ ([(n44, .inl (cD, 2, .inr (.inr (.inr (.inl (vf_upd (vf_upd (fun _ => 0) (Int32.toNatClampNeg 0) x45.1) (Int32.toNatClampNeg 1) x47.1))))))])))))) := hD
    refine lv_astore (lv' := [(10, .ref n44), (9, .int x43.1), (7, .long x42.1), (6, .int b39), (0, .ref b), (1, .int pt), (2, .ref oh), (3, .ref ot), (5, .int pk)]) hx hb dL_law_174 hl (by decide) rfl (fun ls hl => ?_)
    refine lv_aload_n hx hb dL_law_176 rfl (lv_at hl 7 rfl) ?_
    refine lv_aload_n hx hb dL_law_177 rfl (lv_at hl 7 rfl) ?_
    refine va_get (D := (dC, dI)) (ci := 3) (v := .ref ou) (C := RX3) (T := TX3) (N := 12) hx hb hts iX3 hown hK hP 0 rfl rfl 5 (by decide) (hts _ q528) (fun _ h9 => h9) rfl dL_law_178 ?_
    refine va_alen (v := (nI (tN F40))) hx hb hK hP 1 0 rfl rfl rfl dL_law_181 ?_
    obtain ⟨x49, hx49, hf⟩ := obd_e hf
    refine sb_Vi (As := [.int (nI (tN F40))]) (rest := []) ⟨hx, hb, hml, hown, hts⟩ (fun sz => c_X3_draw l dC dI cI cF cJ cD b L xs tA tB ot oh ou od ow oa ob ok os F40 (nI (tN F40))  x49 hx49 sz) (cwV 1 hts (g_V q510 q350 q351 q352 q339) rfl rfl rfl pc_X3_draw ⟨Nat.le_of_ble_eq_true rfl, Nat.le_of_ble_eq_true rfl⟩) 0 3 rfl rfl hK hP hD hS hA [0, 1, 2, 3, 4, 5, 6] [7, 8, 9, 10, 11, 12, 13, 14, 15, 16, 17, 18, 19, 20, 21, 22, 23, 24, 25, 26, 27, 28, 29, 30, 31, 32, 33, 34, 35, 36] rfl rfl (by decide) (by decide) (by decide) EX_blind (fun U hU hW => EX_pass hE hS (va_free hD hS hA [0, 1, 2, 3, 4, 5, 6] rfl) hU hW) rfl rfl hl.1 (Nat.le_of_ble_eq_true rfl) dL_law_182 ⟨Nat.le_trans (show (cc + 1) + 0 ≤ 600000 by omega) (Nat.le_of_ble_eq_true rfl), Nat.le_trans (show (ss + 2) + 0 ≤ 7000000 by omega) (Nat.le_of_ble_eq_true rfl)⟩ (fun r9 u H locs hr9 hP hD hS => ?_)
    have hr9 := Eq.symm hr9
    subst hr9
    have hP : va_P (dC, dI) vwCl (wTD cI cF cJ ot oh b ou od ow oa ob ok os x49.2 ++ (wHB cI cF cJ oh fa tr rw Hb ++ (wFR cI cF cJ q0 q1 q2 q3 q4 q5 q6 q7 q8 F ++ (wFR cI cF cJ r0 r1 r2 r3 r4 r5 r6 r7 r8 F2 ++ (wFR cI cF cJ tr t1 t2 t3 t4 t5 t6 t7 t8 x47.2 ++ ([(n44, .inl (cD, 2, .inr (.inr (.inr (.inl (vf_upd (vf_upd (fun _ => 0) (Int32.toNatClampNeg 0) x45.1) (Int32.toNatClampNeg 1) x47.1))))))])))))) H := hP.sub [30, 31, 32, 33, 34, 35, 36, 0, 1, 2, 3, 4, 5, 6, 7, 8, 9, 10, 11, 12, 13, 14, 15, 16, 17, 18, 19, 20, 21, 22, 23, 24, 25, 26, 27, 28, 29] rfl
    have hD : va_D A (wTD cI cF cJ ot oh b ou od ow oa ob ok os x49.2 ++ (wHB cI cF cJ oh fa tr rw Hb ++ (wFR cI cF cJ q0 q1 q2 q3 q4 q5 q6 q7 q8 F ++ (wFR cI cF cJ r0 r1 r2 r3 r4 r5 r6 r7 r8 F2 ++ (wFR cI cF cJ tr t1 t2 t3 t4 t5 t6 t7 t8 x47.2 ++ ([(n44, .inl (cD, 2, .inr (.inr (.inr (.inl (vf_upd (vf_upd (fun _ => 0) (Int32.toNatClampNeg 0) x45.1) (Int32.toNatClampNeg 1) x47.1))))))])))))) := hD.sub [30, 31, 32, 33, 34, 35, 36, 0, 1, 2, 3, 4, 5, 6, 7, 8, 9, 10, 11, 12, 13, 14, 15, 16, 17, 18, 19, 20, 21, 22, 23, 24, 25, 26, 27, 28, 29] (by decide) rfl
    refine lv_istore (lv' := [(11, .int x49.1), (10, .ref n44), (9, .int x43.1), (7, .long x42.1), (6, .int b39), (0, .ref b), (1, .int pt), (2, .ref oh), (3, .ref ot), (5, .int pk)]) hx hb dL_law_185 hl (by decide) rfl (fun ls hl => ?_)
    refine lv_aload_n hx hb dL_law_187 rfl (lv_at hl 7 rfl) ?_
    refine lv_iconst (v := 0) hx hb dL_law_188 (by decide) ?_
    refine lv_iload hx hb dL_law_189 (lv_at hl 0 rfl) ?_
    obtain ⟨x50, hx50, hf⟩ := obd_e hf
    refine sb_Vi (As := [.int 0, .int x49.1]) (rest := []) ⟨hx, hb, hml, hown, hts⟩ (fun sz => c_X2_hardest l dC dI cI cF cJ cD oh fa tr q0 q1 q2 q3 q4 q5 q6 q7 q8 t1 t2 t3 t4 t5 t6 t7 t8 rw Hb F x47.2 0 x49.1 hq0 x50 hx50 sz) (cwV 2 hts (g_V q548 q549 q550 q172 q305) rfl rfl rfl pc_X2_hardest ⟨Nat.le_of_ble_eq_true rfl, Nat.le_of_ble_eq_true rfl⟩) 0 2 rfl rfl hK hP hD hS hA [7, 8, 9, 10, 11, 12, 13, 14, 15, 16, 17, 27, 28, 29, 30, 31, 32, 33, 34, 35] [0, 1, 2, 3, 4, 5, 6, 18, 19, 20, 21, 22, 23, 24, 25, 26, 36] rfl rfl (by decide) (by decide) (by decide) (fun _ _ _ _ h => h) (fun _ _ _ => trivial) rfl rfl hl.1 (Nat.le_of_ble_eq_true rfl) dL_law_191 ⟨Nat.le_trans (show (cc + 1) + 0 ≤ 600000 by omega) (Nat.le_of_ble_eq_true rfl), Nat.le_trans (show (ss + 2) + 0 ≤ 7000000 by omega) (Nat.le_of_ble_eq_true rfl)⟩ (fun r9 u H locs hr9 hP hD hS => ?_)
    have hr9 := Eq.symm hr9
    subst hr9
    have hP : va_P (dC, dI) vwCl (wTD cI cF cJ ot oh b ou od ow oa ob ok os x49.2 ++ (wHB cI cF cJ oh fa tr rw Hb ++ (wFR cI cF cJ q0 q1 q2 q3 q4 q5 q6 q7 q8 F ++ (wFR cI cF cJ r0 r1 r2 r3 r4 r5 r6 r7 r8 F2 ++ (wFR cI cF cJ tr t1 t2 t3 t4 t5 t6 t7 t8 x50.2 ++ ([(n44, .inl (cD, 2, .inr (.inr (.inr (.inl (vf_upd (vf_upd (fun _ => 0) (Int32.toNatClampNeg 0) x45.1) (Int32.toNatClampNeg 1) x47.1))))))])))))) H := hP.sub [0, 1, 2, 3, 4, 5, 6, 17, 18, 19, 20, 21, 22, 23, 24, 25, 26, 27, 7, 8, 9, 10, 11, 12, 13, 14, 15, 28, 29, 30, 31, 32, 33, 34, 35, 36, 16] rfl
    have hD : va_D A (wTD cI cF cJ ot oh b ou od ow oa ob ok os x49.2 ++ (wHB cI cF cJ oh fa tr rw Hb ++ (wFR cI cF cJ q0 q1 q2 q3 q4 q5 q6 q7 q8 F ++ (wFR cI cF cJ r0 r1 r2 r3 r4 r5 r6 r7 r8 F2 ++ (wFR cI cF cJ tr t1 t2 t3 t4 t5 t6 t7 t8 x50.2 ++ ([(n44, .inl (cD, 2, .inr (.inr (.inr (.inl (vf_upd (vf_upd (fun _ => 0) (Int32.toNatClampNeg 0) x45.1) (Int32.toNatClampNeg 1) x47.1))))))])))))) := hD.sub [0, 1, 2, 3, 4, 5, 6, 17, 18, 19, 20, 21, 22, 23, 24, 25, 26, 27, 7, 8, 9, 10, 11, 12, 13, 14, 15, 28, 29, 30, 31, 32, 33, 34, 35, 36, 16] (by decide) rfl
    refine lv_istore (lv' := [(12, .int x50.1), (11, .int x49.1), (10, .ref n44), (9, .int x43.1), (7, .long x42.1), (6, .int b39), (0, .ref b), (1, .int pt), (2, .ref oh), (3, .ref ot), (5, .int pk)]) hx hb dL_law_194 hl (by decide) rfl (fun ls hl => ?_)
    refine lv_aload_n hx hb dL_law_196 rfl (lv_at hl 8 rfl) ?_
    obtain ⟨x51, hx51, hf⟩ := obd_e hf
    refine sb_Vl (As := []) (rest := []) ⟨hx, hb, hml, hown, hts⟩ (fun sz => c_X2_digest l dC dI cI cF cJ cD oh fa tr q0 q1 q2 q3 q4 q5 q6 q7 q8 r0 r1 r2 r3 r4 r5 r6 r7 r8 t1 t2 t3 t4 t5 t6 t7 t8 rw Hb F F2 x50.2 hq0 hq1 hr0 hr1 hr2 hr3 hfc x51 hx51 sz) (cwV 0 hts (g_V q539 q540 q541 q172 q326) rfl rfl rfl pc_X2_digest ⟨Nat.le_of_ble_eq_true rfl, Nat.le_of_ble_eq_true rfl⟩) 0 2 rfl rfl hK hP hD hS hA [7, 8, 9, 10, 11, 12, 13, 14, 15, 16, 17, 18, 19, 20, 21, 22, 23, 24, 25, 26, 27, 28, 29, 30, 31, 32, 33, 34, 35] [0, 1, 2, 3, 4, 5, 6, 36] rfl rfl (by decide) (by decide) (by decide) (fun _ _ _ _ h => h) (fun _ _ _ => trivial) rfl rfl hl.1 (Nat.le_of_ble_eq_true rfl) dL_law_197 ⟨Nat.le_trans (show (cc + 1) + 0 ≤ 600000 by omega) (Nat.le_of_ble_eq_true rfl), Nat.le_trans (show (ss + 2) + 0 ≤ 7000000 by omega) (Nat.le_of_ble_eq_true rfl)⟩ (fun r9 u H locs hr9 hP hD hS => ?_)
    have hr9 := Eq.symm hr9
    subst hr9
    have hP : va_P (dC, dI) vwCl (wTD cI cF cJ ot oh b ou od ow oa ob ok os x49.2 ++ (wHB cI cF cJ oh fa tr rw Hb ++ (wFR cI cF cJ q0 q1 q2 q3 q4 q5 q6 q7 q8 F ++ (wFR cI cF cJ r0 r1 r2 r3 r4 r5 r6 r7 r8 F2 ++ (wFR cI cF cJ tr t1 t2 t3 t4 t5 t6 t7 t8 x51.2 ++ ([(n44, .inl (cD, 2, .inr (.inr (.inr (.inl (vf_upd (vf_upd (fun _ => 0) (Int32.toNatClampNeg 0) x45.1) (Int32.toNatClampNeg 1) x47.1))))))])))))) H := hP.sub [0, 1, 2, 3, 4, 5, 6, 8, 9, 10, 11, 12, 13, 14, 15, 16, 17, 18, 19, 20, 21, 22, 23, 24, 25, 26, 27, 28, 29, 30, 31, 32, 33, 34, 35, 36, 7] rfl
    have hD : va_D A (wTD cI cF cJ ot oh b ou od ow oa ob ok os x49.2 ++ (wHB cI cF cJ oh fa tr rw Hb ++ (wFR cI cF cJ q0 q1 q2 q3 q4 q5 q6 q7 q8 F ++ (wFR cI cF cJ r0 r1 r2 r3 r4 r5 r6 r7 r8 F2 ++ (wFR cI cF cJ tr t1 t2 t3 t4 t5 t6 t7 t8 x51.2 ++ ([(n44, .inl (cD, 2, .inr (.inr (.inr (.inl (vf_upd (vf_upd (fun _ => 0) (Int32.toNatClampNeg 0) x45.1) (Int32.toNatClampNeg 1) x47.1))))))])))))) := hD.sub [0, 1, 2, 3, 4, 5, 6, 8, 9, 10, 11, 12, 13, 14, 15, 16, 17, 18, 19, 20, 21, 22, 23, 24, 25, 26, 27, 28, 29, 30, 31, 32, 33, 34, 35, 36, 7] (by decide) rfl
    refine lv_lload hx hb dL_law_200 (lv_at hl 4 rfl) ?_
    refine W.lcmp hx hb dL_law_202 ?_
    refine lv_topi (fun v52 ev52 => ?_)
    have hf := bnd_all hf v52 ev52
    refine lv_if_ne (tgt := 252) hx hb dL_law_203 (by decide) (fun c53 => ?_) (fun c53 => ?_)
    · have hf := ite_f hf c53
      refine lv_iconst (v := 0) hx hb dL_law_252 (by decide) ?_
      cases hf
    · have hf := ite_t hf c53
      refine lv_aload hx hb dL_law_206 (lv_at hl 2 rfl) ?_
      refine lv_iload hx hb dL_law_208 (lv_at hl 3 rfl) ?_
      obtain ⟨g54, hf⟩ := gd_e hf
      refine va_dald hx hb hK hP 36 3 rfl rfl (gin_in g54) dL_law_210 ?_
      refine lv_topd (fun v55 ev55 => ?_)
      have hf := bnd_all hf v55 ev55
      refine lv_aload hx hb dL_law_211 (lv_at hl 2 rfl) ?_
      refine lv_iconst (v := 1) hx hb dL_law_213 (by decide) ?_
      refine lv_iload hx hb dL_law_214 (lv_at hl 3 rfl) ?_
      refine lv_isub hx hb dL_law_216 ?_
      refine lv_topi (fun v56 ev56 => ?_)
      have hf := bnd_all hf v56 ev56
      obtain ⟨g57, hf⟩ := gd_e hf
      refine va_dald hx hb hK hP 36 3 rfl rfl (gin_in g57) dL_law_217 ?_
      refine lv_topd (fun v58 ev58 => ?_)
      have hf := bnd_all hf v58 ev58
      refine lv_dcmp hx hb dL_law_218 ?_
      refine lv_topi (fun v59 ev59 => ?_)
      have hf := bnd_all hf v59 ev59
      refine lv_if_gt (tgt := 252) hx hb dL_law_219 (by decide) (fun c60 => ?_) (fun c60 => ?_)
      · have hf := ite_t hf c60
        refine lv_iconst (v := 0) hx hb dL_law_252 (by decide) ?_
        cases hf
      · have hf := ite_f hf c60
        refine lv_aload hx hb dL_law_222 (lv_at hl 2 rfl) ?_
        refine lv_iconst (v := 0) hx hb dL_law_224 (by decide) ?_
        obtain ⟨g61, hf⟩ := gd_e hf
        refine va_dald hx hb hK hP 36 3 rfl rfl (gin_in g61) dL_law_225 ?_
        refine lv_topd (fun v62 ev62 => ?_)
        have hf := bnd_all hf v62 ev62
        refine lv_aload hx hb dL_law_226 (lv_at hl 2 rfl) ?_
        refine lv_iconst (v := 1) hx hb dL_law_228 (by decide) ?_
        obtain ⟨g63, hf⟩ := gd_e hf
        refine va_dald hx hb hK hP 36 3 rfl rfl (gin_in g63) dL_law_229 ?_
        refine lv_topd (fun v64 ev64 => ?_)
        have hf := bnd_all hf v64 ev64
        refine lv_dcmp hx hb dL_law_230 ?_
        refine lv_topi (fun v65 ev65 => ?_)
        have hf := bnd_all hf v65 ev65
        obtain ⟨J239, eJ239, hf⟩ := jn_e hf
        have hJ239 : ∀ (F70 : TD) (F71 : FR) (H : Heap) (locs : List Loc) (ls : Array Slot), va_P (dC, dI) vwCl (wTD cI cF cJ ot oh b ou od ow oa ob ok os F70 ++ (wHB cI cF cJ oh fa tr rw Hb ++ (wFR cI cF cJ q0 q1 q2 q3 q4 q5 q6 q7 q8 F ++ (wFR cI cF cJ r0 r1 r2 r3 r4 r5 r6 r7 r8 F2 ++ (wFR cI cF cJ tr t1 t2 t3 t4 t5 t6 t7 t8 F71 ++ ([(n44, .inl (cD, 2, .inr (.inr (.inr (.inl (vf_upd (vf_upd (fun _ => 0) (Int32.toNatClampNeg 0) x45.1) (Int32.toNatClampNeg 1) x47.1))))))])))))) H → va_D A (wTD cI cF cJ ot oh b ou od ow oa ob ok os F70 ++ (wHB cI cF cJ oh fa tr rw Hb ++ (wFR cI cF cJ q0 q1 q2 q3 q4 q5 q6 q7 q8 F ++ (wFR cI cF cJ r0 r1 r2 r3 r4 r5 r6 r7 r8 F2 ++ (wFR cI cF cJ tr t1 t2 t3 t4 t5 t6 t7 t8 F71 ++ ([(n44, .inl (cD, 2, .inr (.inr (.inr (.inl (vf_upd (vf_upd (fun _ => 0) (Int32.toNatClampNeg 0) x45.1) (Int32.toNatClampNeg 1) x47.1))))))])))))) → va_S A s.heap H locs → lv_has ls 19 [(0, .ref b), (1, .int pt), (2, .ref oh), (3, .ref ot), (5, .int pk), (6, .int b39), (10, .ref n44), (11, .int x49.1), (12, .int x50.1)] → J239 F70 F71 = some res → W p l e room_1 s m args below meth c H locs (cc + 1) (ss + 2) Q (F0 m 239 ls []) := by
          intro F70 F71 H locs ls hP hD hS hl hf
          subst eJ239
          refine lv_iload hx hb dL_law_239 (lv_at hl 8 rfl) ?_
          refine lv_iconst (v := 1) hx hb dL_law_241 (by decide) ?_
          refine lv_icmp_lt (tgt := 252) hx hb dL_law_242 (by decide) (fun c72 => ?_) (fun c72 => ?_)
          · have hf := ite_t hf c72
            refine lv_iconst (v := 0) hx hb dL_law_252 (by decide) ?_
            cases hf
          · have hf := ite_f hf c72
            refine lv_iload hx hb dL_law_245 (lv_at hl 8 rfl) ?_
            refine lv_bipush (v := 9) hx hb dL_law_247 (by decide) ?_
            refine lv_icmp_le (tgt := 254) hx hb dL_law_249 (by decide) (fun c73 => ?_) (fun c73 => ?_)
            · have hf := ite_t hf c73
              obtain rfl := Option.some.inj hf
              exact kk n44 _ _ _ hP hD hS (lv_sub hl [0, 1, 2, 3, 4, 5, 6, 7] rfl)
            · have hf := ite_f hf c73
              refine lv_iconst (v := 0) hx hb dL_law_252 (by decide) ?_
              cases hf
        refine lv_if_ne (tgt := 239) hx hb dL_law_231 (by decide) (fun c74 => ?_) (fun c74 => ?_)
        · have hf := ite_f hf c74
          exact hJ239 x49.2 x51.2 _ _ _ hP hD hS (lv_sub hl [6, 7, 8, 9, 10, 5, 2, 1, 0] rfl) hf
        · have hf := ite_t hf c74
          refine lv_iload hx hb dL_law_234 (lv_at hl 3 rfl) ?_
          refine lv_if_ne (tgt := 252) hx hb dL_law_236 (by decide) (fun c75 => ?_) (fun c75 => ?_)
          · have hf := ite_f hf c75
            refine lv_iconst (v := 0) hx hb dL_law_252 (by decide) ?_
            cases hf
          · have hf := ite_t hf c75
            exact hJ239 x49.2 x51.2 _ _ _ hP hD hS (lv_sub hl [6, 7, 8, 9, 10, 5, 2, 1, 0] rfl) hf
  refine lv_if_ne (tgt := 127) hx hb dL_law_115 (by decide) (fun c76 => ?_) (fun c76 => ?_)
  · have hf := ite_f hf c76
    refine lv_aload_n hx hb dL_law_127 rfl (lv_at hl 3 rfl) ?_
    refine lv_bipush (v := 10) hx hb dL_law_128 (by decide) ?_
    obtain ⟨x77, hx77, hf⟩ := obd_e hf
    refine sb_Vi (As := [.int 10]) (rest := []) ⟨hx, hb, hml, hown, hts⟩ (fun sz => c_X3_draw l dC dI cI cF cJ cD b L xs tA tB ot oh ou od ow oa ob ok os x1.2 10  x77 hx77 sz) (cwV 1 hts (g_V q510 q350 q351 q352 q339) rfl rfl rfl pc_X3_draw ⟨Nat.le_of_ble_eq_true rfl, Nat.le_of_ble_eq_true rfl⟩) 0 3 rfl rfl hK hP hD hS hA [0, 1, 2, 3, 4, 5, 6] [7, 8, 9, 10, 11, 12, 13, 14, 15, 16, 17, 18, 19, 20, 21, 22, 23, 24, 25, 26, 27, 28, 29, 30, 31, 32, 33, 34, 35] rfl rfl (by decide) (by decide) (by decide) EX_blind (fun U hU hW => EX_pass hE hS (va_free hD hS hA [0, 1, 2, 3, 4, 5, 6] rfl) hU hW) rfl rfl hl.1 (Nat.le_of_ble_eq_true rfl) dL_law_130 ⟨Nat.le_trans (show cc + 0 ≤ 600000 by omega) (Nat.le_of_ble_eq_true rfl), Nat.le_trans (show ss + 0 ≤ 7000000 by omega) (Nat.le_of_ble_eq_true rfl)⟩ (fun r9 u H locs hr9 hP hD hS => ?_)
    have hr9 := Eq.symm hr9
    subst hr9
    have hP : va_P (dC, dI) vwCl (wTD cI cF cJ ot oh b ou od ow oa ob ok os x77.2 ++ (wHB cI cF cJ oh fa tr rw Hb ++ (wFR cI cF cJ q0 q1 q2 q3 q4 q5 q6 q7 q8 F ++ (wFR cI cF cJ r0 r1 r2 r3 r4 r5 r6 r7 r8 F2 ++ (wFR cI cF cJ tr t1 t2 t3 t4 t5 t6 t7 t8 Tr))))) H := hP.sub [29, 30, 31, 32, 33, 34, 35, 0, 1, 2, 3, 4, 5, 6, 7, 8, 9, 10, 11, 12, 13, 14, 15, 16, 17, 18, 19, 20, 21, 22, 23, 24, 25, 26, 27, 28] rfl
    have hD : va_D A (wTD cI cF cJ ot oh b ou od ow oa ob ok os x77.2 ++ (wHB cI cF cJ oh fa tr rw Hb ++ (wFR cI cF cJ q0 q1 q2 q3 q4 q5 q6 q7 q8 F ++ (wFR cI cF cJ r0 r1 r2 r3 r4 r5 r6 r7 r8 F2 ++ (wFR cI cF cJ tr t1 t2 t3 t4 t5 t6 t7 t8 Tr))))) := hD.sub [29, 30, 31, 32, 33, 34, 35, 0, 1, 2, 3, 4, 5, 6, 7, 8, 9, 10, 11, 12, 13, 14, 15, 16, 17, 18, 19, 20, 21, 22, 23, 24, 25, 26, 27, 28] (by decide) rfl
    exact hJ133 x77.1 x77.2 Tr _ _ _ hP hD hS (lv_sub hl [0, 1, 2, 3, 4] rfl) hf
  · have hf := ite_t hf c76
    refine lv_aload_n hx hb dL_law_118 rfl (lv_at hl 3 rfl) ?_
    refine lv_bipush (v := 100) hx hb dL_law_119 (by decide) ?_
    obtain ⟨x78, hx78, hf⟩ := obd_e hf
    refine sb_Vi (As := [.int 100]) (rest := []) ⟨hx, hb, hml, hown, hts⟩ (fun sz => c_X3_draw l dC dI cI cF cJ cD b L xs tA tB ot oh ou od ow oa ob ok os x1.2 100  x78 hx78 sz) (cwV 1 hts (g_V q510 q350 q351 q352 q339) rfl rfl rfl pc_X3_draw ⟨Nat.le_of_ble_eq_true rfl, Nat.le_of_ble_eq_true rfl⟩) 0 3 rfl rfl hK hP hD hS hA [0, 1, 2, 3, 4, 5, 6] [7, 8, 9, 10, 11, 12, 13, 14, 15, 16, 17, 18, 19, 20, 21, 22, 23, 24, 25, 26, 27, 28, 29, 30, 31, 32, 33, 34, 35] rfl rfl (by decide) (by decide) (by decide) EX_blind (fun U hU hW => EX_pass hE hS (va_free hD hS hA [0, 1, 2, 3, 4, 5, 6] rfl) hU hW) rfl rfl hl.1 (Nat.le_of_ble_eq_true rfl) dL_law_121 ⟨Nat.le_trans (show cc + 0 ≤ 600000 by omega) (Nat.le_of_ble_eq_true rfl), Nat.le_trans (show ss + 0 ≤ 7000000 by omega) (Nat.le_of_ble_eq_true rfl)⟩ (fun r9 u H locs hr9 hP hD hS => ?_)
    have hr9 := Eq.symm hr9
    subst hr9
    have hP : va_P (dC, dI) vwCl (wTD cI cF cJ ot oh b ou od ow oa ob ok os x78.2 ++ (wHB cI cF cJ oh fa tr rw Hb ++ (wFR cI cF cJ q0 q1 q2 q3 q4 q5 q6 q7 q8 F ++ (wFR cI cF cJ r0 r1 r2 r3 r4 r5 r6 r7 r8 F2 ++ (wFR cI cF cJ tr t1 t2 t3 t4 t5 t6 t7 t8 Tr))))) H := hP.sub [29, 30, 31, 32, 33, 34, 35, 0, 1, 2, 3, 4, 5, 6, 7, 8, 9, 10, 11, 12, 13, 14, 15, 16, 17, 18, 19, 20, 21, 22, 23, 24, 25, 26, 27, 28] rfl
    have hD : va_D A (wTD cI cF cJ ot oh b ou od ow oa ob ok os x78.2 ++ (wHB cI cF cJ oh fa tr rw Hb ++ (wFR cI cF cJ q0 q1 q2 q3 q4 q5 q6 q7 q8 F ++ (wFR cI cF cJ r0 r1 r2 r3 r4 r5 r6 r7 r8 F2 ++ (wFR cI cF cJ tr t1 t2 t3 t4 t5 t6 t7 t8 Tr))))) := hD.sub [29, 30, 31, 32, 33, 34, 35, 0, 1, 2, 3, 4, 5, 6, 7, 8, 9, 10, 11, 12, 13, 14, 15, 16, 17, 18, 19, 20, 21, 22, 23, 24, 25, 26, 27, 28] (by decide) rfl
    refine lv_goto (tgt := 133) hx hb dL_law_124 (by decide) ?_
    exact hJ133 x78.1 x78.2 Tr _ _ _ hP hD hS (lv_sub hl [0, 1, 2, 3, 4] rfl) hf
