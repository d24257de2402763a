-- laid by wip/p30/law.py
noncomputable def f_A1 (L : Nat) (xs : Nat → Int32) (pt : Int32) : Option (TD × TD × HB × FR × FR × FR) := obd (f_X2_init) fun x2 => bnd (31 * pt) fun (v16 : Int32) => bnd (v16 + 7) fun (v17 : Int32) => obd (f_X3_init v17) fun x18 => bnd (31 * pt) fun (v24 : Int32) => bnd (v24 + 111) fun (v25 : Int32) => obd (f_X3_init v25) fun x26 => obd (f_X3_frame L xs x18 x2.1 0) fun x31 => if x31.1 = 0 then (none) else (obd (f_X3_frame L xs x26 x31.2.2.1 1) fun x52 => if x52.1 = 0 then (none) else (gd (gdec ((hFc x2.1) = 0)) <| gd (gdec ((hFc x31.2.2.1) = 1)) <| gd (gdec ((tNu x31.2.1) = 0)) <| gd (gdec ((tNu x52.2.1) = 1)) <| gd (gdec ((hFc x52.2.2.1) = 2)) <| some (x31.2.1, x52.2.1, x52.2.2.1, x31.2.2.2, x52.2.2.2, x2.2)))
set_option maxHeartbeats 8000000 in
set_option maxRecDepth 100000 in
theorem w_A1 {p : Program} {l : Launch} {e : Env} {s : State} {m : MethodId} {args : Array Value} {below : List Frame} {meth : Method} {c : Code} {Q : State → Prop} {A : Nat → Prop} {dC : Nat → ClassId} {dI : Nat → Nat → Nat} {cI cF cJ cD : ClassId} {b L : Nat} {xs : Nat → Int32} {tA tB : Nat} (hx : p.tables.exec = Jvm.exec) (hb : c.code = cL_law) (hml : c.maxLocals = 19) (hts : ∀ w ∈ LW, w.before args s = true) (hown : s.vm.findClass RL = some m.cls) (hK : va_K (dC, dI) vwCl (TY cI cF cJ cD) s) (hA : ∀ q : Nat, s.heap.size ≤ q → A q) (hE : EX b L xs tA tB A s) {pt : Int32} {res : (TD × TD × HB × FR × FR × FR)} (hf : f_A1 L xs pt = some res) {H : Heap} {locs : List Loc} {ls : Array Slot} {cc ss : Nat} (hcc : cc + 45 ≤ 600000) (hss : ss + 845 ≤ 7000000) (hP : va_P (dC, dI) vwCl (([] : va_W)) H) (hD : va_D A (([] : va_W))) (hS : va_S A s.heap H locs) (hl : lv_has ls 19 [(0, .ref b), (1, .int pt)])
    (kk : ∀ (ot oh ou od ow oa ob ok os o2 u2 d2 w2 a2 b2 k2 s2 fa tr q0 q1 q2 q3 q4 q5 q6 q7 q8 r0 r1 r2 r3 r4 r5 r6 r7 r8 t1 t2 t3 t4 t5 t6 t7 t8 : Nat) (rw : Nat → Option Nat) (_ : rw (Int32.toNatClampNeg 0) = some q0) (_ : rw (Int32.toNatClampNeg 1) = some r0) (_ : rw (Int32.toNatClampNeg 2) = none) (_ : rw (Int32.toNatClampNeg 3) = none) (H : Heap) (locs : List Loc) (ls : Array Slot), va_P (dC, dI) vwCl (wTD cI cF cJ ot oh b ou od ow oa ob ok os res.1 ++ (wTD cI cF cJ o2 oh b u2 d2 w2 a2 b2 k2 s2 res.2.1 ++ (wHB cI cF cJ oh fa tr rw res.2.2.1 ++ (wFR cI cF cJ q0 q1 q2 q3 q4 q5 q6 q7 q8 res.2.2.2.1 ++ (wFR cI cF cJ r0 r1 r2 r3 r4 r5 r6 r7 r8 res.2.2.2.2.1 ++ (wFR cI cF cJ tr t1 t2 t3 t4 t5 t6 t7 t8 res.2.2.2.2.2 ++ ([kOut cJ ok ([] : RS)] ++ ([kOut cJ k2 ([] : RS)])))))))) H → va_D A (wTD cI cF cJ ot oh b ou od ow oa ob ok os res.1 ++ (wTD cI cF cJ o2 oh b u2 d2 w2 a2 b2 k2 s2 res.2.1 ++ (wHB cI cF cJ oh fa tr rw res.2.2.1 ++ (wFR cI cF cJ q0 q1 q2 q3 q4 q5 q6 q7 q8 res.2.2.2.1 ++ (wFR cI cF cJ r0 r1 r2 r3 r4 r5 r6 r7 r8 res.2.2.2.2.1 ++ (wFR cI cF cJ tr t1 t2 t3 t4 t5 t6 t7 t8 res.2.2.2.2.2 ++ ([kOut cJ ok ([] : RS)] ++ ([kOut cJ k2 ([] : RS)])))))))) → va_S A s.heap H locs → lv_has ls 19 [(0, .ref b), (1, .int pt), (2, .ref oh), (3, .ref ot), (4, .ref o2)] → W p l e room_1 s m args below meth c H locs ((cc + 45)) ((ss + 845)) Q (F0 m 69 ls [])) : W p l e room_1 s m args below meth c H locs cc ss Q (F0 m 7 ls []) := by
  have hkc := Nat.zero_le room_1.cells
  have hks := Nat.zero_le room_1.slots
  rw [f_A1] at hf
  refine va_new (ci := 2) (fs := [.null, .null, .int 0, .int 0]) (C := RX2) (T := TX2) (N := 4) hx hb hts iX2 tyX2 tyX2_ok hown (hts _ q523) (hts _ q524) (hts _ q172) hK hP hD hS hA rfl (fun j hj => by rcases (show j = 0 ∨ j = 1 ∨ j = 2 ∨ j = 3 by omega) with rfl | rfl | rfl | rfl <;> rfl) (Nat.le_trans (show cc + 1 ≤ 600000 by omega) (Nat.le_of_ble_eq_true rfl)) (Nat.le_trans (show ss + 4 ≤ 7000000 by omega) (Nat.le_of_ble_eq_true rfl)) dL_law_7 (fun n1 H hP hD hS => ?_)
  refine W.widen (k := (cc + 1)) (n := (ss + 4)) (by omega) (by omega) ?_
  have hP : va_P (dC, dI) vwCl (wNX2 n1) H := hP
  have hD : va_D A (wNX2 n1) := hD
  refine lv_dup hx hb dL_law_10 rfl ?_
  obtain ⟨x2, hx2, hf⟩ := obd_e hf
  refine sb_Iv (As := []) (rest := [.ref n1]) ⟨hx, hb, hml, hown, hts⟩ (fun sz => c_X2_init l dC dI cI cF cJ cD b L xs tA tB n1   x2 hx2 sz) (cwI 0 hts (g_ws q157) rfl rfl rfl (hts _ q172) (hts _ q529) (hts _ q530) rfl pi_X2_init ⟨Nat.le_of_ble_eq_true rfl, Nat.le_of_ble_eq_true rfl⟩)  hK hP hD hS hA [0] [] rfl rfl (by decide) (by decide) (by decide) EX_blind (fun U hU hW => EX_pass hE hS (va_free hD hS hA [0] rfl) hU hW) rfl rfl hl.1 (Nat.le_of_ble_eq_true rfl) dL_law_11 ⟨Nat.le_trans (show (cc + 1) + 10 ≤ 600000 by omega) (Nat.le_of_ble_eq_true rfl), Nat.le_trans (show (ss + 4) + 249 ≤ 7000000 by omega) (Nat.le_of_ble_eq_true rfl)⟩ (fun u H locs hr9 hP hD hS => ?_)
  refine W.widen (k := (cc + 11)) (n := (ss + 253)) (by omega) (by omega) ?_
  obtain ⟨n3, n4, n5, n6, n7, n8, n9, n10, n11, n12⟩ := u
  have hP : va_P (dC, dI) vwCl (wHB cI cF cJ n1 n3 n4 (fun _ => none) x2.1 ++ (wFR cI cF cJ n4 n5 n6 n7 n8 n9 n10 n11 n12 x2.2)) H := hP
  have hD : va_D A (wHB cI cF cJ n1 n3 n4 (fun _ => none) x2.1 ++ (wFR cI cF cJ n4 n5 n6 n7 n8 n9 n10 n11 n12 x2.2)) := hD
  refine lv_astore_n (lv' := [(2, .ref n1), (0, .ref b), (1, .int pt)]) hx hb dL_law_14 rfl hl (by decide) rfl (fun ls hl => ?_)
  refine va_new (ci := 3) (fs := [.null, .null, .int 0, .int 0, .int 0, .null, .null, .null, .null, .null, .int 0, .long 0]) (C := RX3) (T := TX3) (N := 12) hx hb hts iX3 tyX3 tyX3_ok hown (hts _ q525) (hts _ q526) (hts _ q352) hK hP hD hS hA rfl (fun j hj => by rcases (show j = 0 ∨ j = 1 ∨ j = 2 ∨ j = 3 ∨ j = 4 ∨ j = 5 ∨ j = 6 ∨ j = 7 ∨ j = 8 ∨ j = 9 ∨ j = 10 ∨ j = 11 by omega) with rfl | rfl | rfl | rfl | rfl | rfl | rfl | rfl | rfl | rfl | rfl | rfl <;> rfl) (Nat.le_trans (show (cc + 11) + 1 ≤ 600000 by omega) (Nat.le_of_ble_eq_true rfl)) (Nat.le_trans (show (ss + 253) + 12 ≤ 7000000 by omega) (Nat.le_of_ble_eq_true rfl)) dL_law_15 (fun n15 H hP hD hS => ?_)
  refine W.widen (k := (cc + 12)) (n := (ss + 265)) (by omega) (by omega) ?_
  have hP : va_P (dC, dI) vwCl (wHB cI cF cJ n1 n3 n4 (fun _ => none) x2.1 ++ (wFR cI cF cJ n4 n5 n6 n7 n8 n9 n10 n11 n12 x2.2 ++ (wNX3 n15))) H := hP
  have hD : va_D A (wHB cI cF cJ n1 n3 n4 (fun _ => none) x2.1 ++ (wFR cI cF cJ n4 n5 n6 n7 n8 n9 n10 n11 n12 x2.2 ++ (wNX3 n15))) := hD
  refine lv_dup hx hb dL_law_18 rfl ?_
  refine lv_aload_n hx hb dL_law_19 rfl (lv_at hl 0 rfl) ?_
  refine lv_aload_n hx hb dL_law_20 rfl (lv_at hl 1 rfl) ?_
  refine lv_bipush (v := 31) hx hb dL_law_21 (by decide) ?_
  refine lv_iload_n hx hb dL_law_23 rfl (lv_at hl 2 rfl) ?_
  refine lv_imul hx hb dL_law_24 ?_
  refine lv_topi (fun v16 ev16 => ?_)
  have hf := bnd_all hf v16 ev16
  refine lv_bipush (v := 7) hx hb dL_law_25 (by decide) ?_
  refine lv_iadd hx hb dL_law_27 ?_
  refine lv_topi (fun v17 ev17 => ?_)
  have hf := bnd_all hf v17 ev17
  obtain ⟨x18, hx18, hf⟩ := obd_e hf
  refine sb_Iv (As := [.ref n1, .ref b, .int v17]) (rest := [.ref n15]) ⟨hx, hb, hml, hown, hts⟩ (fun sz => c_X3_init l dC dI cI cF cJ cD b L xs tA tB n15 n1 v17  x18 hx18 sz) (cwI 3 hts (g_ws q327) rfl rfl rfl (hts _ q352) (hts _ q531) (hts _ q532) rfl pi_X3_init ⟨Nat.le_of_ble_eq_true rfl, Nat.le_of_ble_eq_true rfl⟩)  hK hP hD hS hA [11] [0, 1, 2, 3, 4, 5, 6, 7, 8, 9, 10] rfl rfl (by decide) (by decide) (by decide) EX_blind (fun U hU hW => EX_pass hE hS (va_free hD hS hA [11] rfl) hU hW) rfl rfl hl.1 (Nat.le_of_ble_eq_true rfl) dL_law_28 ⟨Nat.le_trans (show (cc + 12) + 2 ≤ 600000 by omega) (Nat.le_of_ble_eq_true rfl), Nat.le_trans (show (ss + 265) + 5 ≤ 7000000 by omega) (Nat.le_of_ble_eq_true rfl)⟩ (fun u H locs hr9 hP hD hS => ?_)
  refine W.widen (k := (cc + 14)) (n := (ss + 270)) (by omega) (by omega) ?_
  obtain ⟨n19, n20⟩ := u
  have hP : va_P (dC, dI) vwCl (wHB cI cF cJ n1 n3 n4 (fun _ => none) x2.1 ++ (wFR cI cF cJ n4 n5 n6 n7 n8 n9 n10 n11 n12 x2.2 ++ (wTF cI cF cJ n15 n1 b n19 n20 x18 ++ ([kOut cJ n19 ([] : RS)])))) H := hP
  have hD : va_D A (wHB cI cF cJ n1 n3 n4 (fun _ => none) x2.1 ++ (wFR cI cF cJ n4 n5 n6 n7 n8 n9 n10 n11 n12 x2.2 ++ (wTF cI cF cJ n15 n1 b n19 n20 x18 ++ ([kOut cJ n19 ([] : RS)])))) := hD
  refine lv_astore_n (lv' := [(3, .ref n15), (2, .ref n1), (0, .ref b), (1, .int pt)]) hx hb dL_law_31 rfl hl (by decide) rfl (fun ls hl => ?_)
  refine va_new (ci := 3) (fs := [.null, .null, .int 0, .int 0, .int 0, .null, .null, .null, .null, .null, .int 0, .long 0]) (C := RX3) (T := TX3) (N := 12) hx hb hts iX3 tyX3 tyX3_ok hown (hts _ q525) (hts _ q526) (hts _ q352) hK hP hD hS hA rfl (fun j hj => by rcases (show j = 0 ∨ j = 1 ∨ j = 2 ∨ j = 3 ∨ j = 4 ∨ j = 5 ∨ j = 6 ∨ j = 7 ∨ j = 8 ∨ j = 9 ∨ j = 10 ∨ j = 11 by omega) with rfl | rfl | rfl | rfl | rfl | rfl | rfl | rfl | rfl | rfl | rfl | rfl <;> rfl) (Nat.le_trans (show (cc + 14) + 1 ≤ 600000 by omega) (Nat.le_of_ble_eq_true rfl)) (Nat.le_trans (show (ss + 270) + 12 ≤ 7000000 by omega) (Nat.le_of_ble_eq_true rfl)) dL_law_32 (fun n23 H hP hD hS => ?_)
  refine W.widen (k := (cc + 15)) (n := (ss + 282)) (by omega) (by omega) ?_
  have hP : va_P (dC, dI) vwCl (wHB cI cF cJ n1 n3 n4 (fun _ => none) x2.1 ++ (wFR cI cF cJ n4 n5 n6 n7 n8 n9 n10 n11 n12 x2.2 ++ (wTF cI cF cJ n15 n1 b n19 n20 x18 ++ ([kOut cJ n19 ([] : RS)] ++ (wNX3 n23))))) H := hP
  have hD : va_D A (wHB cI cF cJ n1 n3 n4 (fun _ => none) x2.1 ++ (wFR cI cF cJ n4 n5 n6 n7 n8 n9 n10 n11 n12 x2.2 ++ (wTF cI cF cJ n15 n1 b n19 n20 x18 ++ ([kOut cJ n19 ([] : RS)] ++ (wNX3 n23))))) := hD
  refine lv_dup hx hb dL_law_35 rfl ?_
  refine lv_aload_n hx hb dL_law_36 rfl (lv_at hl 1 rfl) ?_
  refine lv_aload_n hx hb dL_law_37 rfl (lv_at hl 2 rfl) ?_
  refine lv_bipush (v := 31) hx hb dL_law_38 (by decide) ?_
  refine lv_iload_n hx hb dL_law_40 rfl (lv_at hl 3 rfl) ?_
  refine lv_imul hx hb dL_law_41 ?_
  refine lv_topi (fun v24 ev24 => ?_)
  have hf := bnd_all hf v24 ev24
  refine lv_bipush (v := 111) hx hb dL_law_42 (by decide) ?_
  refine lv_iadd hx hb dL_law_44 ?_
  refine lv_topi (fun v25 ev25 => ?_)
  have hf := bnd_all hf v25 ev25
  obtain ⟨x26, hx26, hf⟩ := obd_e hf
  refine sb_Iv (As := [.ref n1, .ref b, .int v25]) (rest := [.ref n23]) ⟨hx, hb, hml, hown, hts⟩ (fun sz => c_X3_init l dC dI cI cF cJ cD b L xs tA tB n23 n1 v25  x26 hx26 sz) (cwI 3 hts (g_ws q327) rfl rfl rfl (hts _ q352) (hts _ q531) (hts _ q532) rfl pi_X3_init ⟨Nat.le_of_ble_eq_true rfl, Nat.le_of_ble_eq_true rfl⟩)  hK hP hD hS hA [14] [0, 1, 2, 3, 4, 5, 6, 7, 8, 9, 10, 11, 12, 13] rfl rfl (by decide) (by decide) (by decide) EX_blind (fun U hU hW => EX_pass hE hS (va_free hD hS hA [14] rfl) hU hW) rfl rfl hl.1 (Nat.le_of_ble_eq_true rfl) dL_law_45 ⟨Nat.le_trans (show (cc + 15) + 2 ≤ 600000 by omega) (Nat.le_of_ble_eq_true rfl), Nat.le_trans (show (ss + 282) + 5 ≤ 7000000 by omega) (Nat.le_of_ble_eq_true rfl)⟩ (fun u H locs hr9 hP hD hS => ?_)
  refine W.widen (k := (cc + 17)) (n := (ss + 287)) (by omega) (by omega) ?_
  obtain ⟨n27, n28⟩ := u
  have hP : va_P (dC, dI) vwCl (wHB cI cF cJ n1 n3 n4 (fun _ => none) x2.1 ++ (wFR cI cF cJ n4 n5 n6 n7 n8 n9 n10 n11 n12 x2.2 ++ (wTF cI cF cJ n15 n1 b n19 n20 x18 ++ ([kOut cJ n19 ([] : RS)] ++ (wTF cI cF cJ n23 n1 b n27 n28 x26 ++ ([kOut cJ n27 ([] : RS)])))))) H := hP
  have hD : va_D A (wHB cI cF cJ n1 n3 n4 (fun _ => none) x2.1 ++ (wFR cI cF cJ n4 n5 n6 n7 n8 n9 n10 n11 n12 x2.2 ++ (wTF cI cF cJ n15 n1 b n19 n20 x18 ++ ([kOut cJ n19 ([] : RS)] ++ (wTF cI cF cJ n23 n1 b n27 n28 x26 ++ ([kOut cJ n27 ([] : RS)])))))) := hD
  refine lv_astore (lv' := [(4, .ref n23), (3, .ref n15), (2, .ref n1), (0, .ref b), (1, .int pt)]) hx hb dL_law_48 hl (by decide) rfl (fun ls hl => ?_)
  refine lv_aload_n hx hb dL_law_50 rfl (lv_at hl 1 rfl) ?_
  refine lv_iconst (v := 0) hx hb dL_law_51 (by decide) ?_
  obtain ⟨x31, hx31, hf⟩ := obd_e hf
  refine sb_Vi (As := [.int 0]) (rest := []) ⟨hx, hb, hml, hown, hts⟩ (fun sz => c_X3_frame l dC dI cI cF cJ cD b L xs tA tB n15 n1 n19 n20 n3 n4 (fun _ => none) x18 x2.1 0  x31 hx31 sz) (cwV 1 hts (g_V q533 q534 q535 q352 q356) rfl rfl rfl pc_X3_frame ⟨Nat.le_of_ble_eq_true rfl, Nat.le_of_ble_eq_true rfl⟩) 0 3 rfl rfl hK hP hD hS hA [11, 12, 0, 1] [2, 3, 4, 5, 6, 7, 8, 9, 10, 13, 14, 15, 16] rfl rfl (by decide) (by decide) (by decide) EX_blind (fun U hU hW => EX_pass hE hS (va_free hD hS hA [11, 12, 0, 1] rfl) hU hW) rfl rfl hl.1 (Nat.le_of_ble_eq_true rfl) dL_law_52 ⟨Nat.le_trans (show (cc + 17) + 14 ≤ 600000 by omega) (Nat.le_of_ble_eq_true rfl), Nat.le_trans (show (ss + 287) + 279 ≤ 7000000 by omega) (Nat.le_of_ble_eq_true rfl)⟩ (fun r9 u H locs hr9 hP hD hS => ?_)
  refine W.widen (k := (cc + 31)) (n := (ss + 566)) (by omega) (by omega) ?_
  have hr9 := Eq.symm hr9
  subst hr9
  obtain ⟨n32, n33, n34, n35, n36, n37, n38, n39, n40, n41, n42, n43, n44, n45⟩ := u
  have hP : va_P (dC, dI) vwCl (wHB cI cF cJ n1 n3 n4 (va_up (fun _ => none) (Int32.toNatClampNeg (hFc x2.1)) (some n32)) x31.2.2.1 ++ (wFR cI cF cJ n4 n5 n6 n7 n8 n9 n10 n11 n12 x2.2 ++ (wTD cI cF cJ n15 n1 b n41 n42 n43 n44 n45 n19 n20 x31.2.1 ++ ([kOut cJ n19 ([] : RS)] ++ (wTF cI cF cJ n23 n1 b n27 n28 x26 ++ ([kOut cJ n27 ([] : RS)] ++ (wFR cI cF cJ n32 n33 n34 n35 n36 n37 n38 n39 n40 x31.2.2.2))))))) H := hP.sub [20, 21, 0, 1, 2, 3, 4, 5, 6, 7, 8, 13, 14, 15, 16, 17, 18, 19, 9, 10, 11, 12, 22, 23, 24, 25, 26, 27, 28, 29, 30] rfl
  have hD : va_D A (wHB cI cF cJ n1 n3 n4 (va_up (fun _ => none) (Int32.toNatClampNeg (hFc x2.1)) (some n32)) x31.2.2.1 ++ (wFR cI cF cJ n4 n5 n6 n7 n8 n9 n10 n11 n12 x2.2 ++ (wTD cI cF cJ n15 n1 b n41 n42 n43 n44 n45 n19 n20 x31.2.1 ++ ([kOut cJ n19 ([] : RS)] ++ (wTF cI cF cJ n23 n1 b n27 n28 x26 ++ ([kOut cJ n27 ([] : RS)] ++ (wFR cI cF cJ n32 n33 n34 n35 n36 n37 n38 n39 n40 x31.2.2.2))))))) := hD.sub [20, 21, 0, 1, 2, 3, 4, 5, 6, 7, 8, 13, 14, 15, 16, 17, 18, 19, 9, 10, 11, 12, 22, 23, 24, 25, 26, 27, 28, 29, 30] (by decide) rfl
  refine lv_if_eq (tgt := 67) hx hb dL_law_55 (by decide) (fun c51 => ?_) (fun c51 => ?_)
  · have hf := ite_t hf c51
    refine lv_iconst (v := 0) hx hb dL_law_67 (by decide) ?_
    cases hf
  · have hf := ite_f hf c51
    refine lv_aload hx hb dL_law_58 (lv_at hl 0 rfl) ?_
    refine lv_iconst (v := 1) hx hb dL_law_60 (by decide) ?_
    obtain ⟨x52, hx52, hf⟩ := obd_e hf
    refine sb_Vi (As := [.int 1]) (rest := []) ⟨hx, hb, hml, hown, hts⟩ (fun sz => c_X3_frame l dC dI cI cF cJ cD b L xs tA tB n23 n1 n27 n28 n3 n4 (va_up (fun _ => none) (Int32.toNatClampNeg (hFc x2.1)) (some n32)) x26 x31.2.2.1 1  x52 hx52 sz) (cwV 1 hts (g_V q533 q534 q535 q352 q356) rfl rfl rfl pc_X3_frame ⟨Nat.le_of_ble_eq_true rfl, Nat.le_of_ble_eq_true rfl⟩) 0 3 rfl rfl hK hP hD hS hA [19, 20, 0, 1] [2, 3, 4, 5, 6, 7, 8, 9, 10, 11, 12, 13, 14, 15, 16, 17, 18, 21, 22, 23, 24, 25, 26, 27, 28, 29, 30] rfl rfl (by decide) (by decide) (by decide) EX_blind (fun U hU hW => EX_pass hE hS (va_free hD hS hA [19, 20, 0, 1] rfl) hU hW) rfl rfl hl.1 (Nat.le_of_ble_eq_true rfl) dL_law_61 ⟨Nat.le_trans (show (cc + 31) + 14 ≤ 600000 by omega) (Nat.le_of_ble_eq_true rfl), Nat.le_trans (show (ss + 566) + 279 ≤ 7000000 by omega) (Nat.le_of_ble_eq_true rfl)⟩ (fun r9 u H locs hr9 hP hD hS => ?_)
    refine W.widen (k := (cc + 45)) (n := (ss + 845)) (by omega) (by omega) ?_
    have hr9 := Eq.symm hr9
    subst hr9
    obtain ⟨n53, n54, n55, n56, n57, n58, n59, n60, n61, n62, n63, n64, n65, n66⟩ := u
    have hP : va_P (dC, dI) vwCl (wHB cI cF cJ n1 n3 n4 (va_up (va_up (fun _ => none) (Int32.toNatClampNeg (hFc x2.1)) (some n32)) (Int32.toNatClampNeg (hFc x31.2.2.1)) (some n53)) x52.2.2.1 ++ (wFR cI cF cJ n4 n5 n6 n7 n8 n9 n10 n11 n12 x2.2 ++ (wTD cI cF cJ n15 n1 b n41 n42 n43 n44 n45 n19 n20 x31.2.1 ++ ([kOut cJ n19 ([] : RS)] ++ (wTD cI cF cJ n23 n1 b n62 n63 n64 n65 n66 n27 n28 x52.2.1 ++ ([kOut cJ n27 ([] : RS)] ++ (wFR cI cF cJ n32 n33 n34 n35 n36 n37 n38 n39 n40 x31.2.2.2 ++ (wFR cI cF cJ n53 n54 n55 n56 n57 n58 n59 n60 n61 x52.2.2.2)))))))) H := hP.sub [34, 35, 0, 1, 2, 3, 4, 5, 6, 7, 8, 9, 10, 11, 12, 13, 14, 15, 16, 27, 28, 29, 30, 31, 32, 33, 17, 18, 19, 20, 21, 22, 23, 24, 25, 26, 36, 37, 38, 39, 40, 41, 42, 43, 44] rfl
    have hD : va_D A (wHB cI cF cJ n1 n3 n4 (va_up (va_up (fun _ => none) (Int32.toNatClampNeg (hFc x2.1)) (some n32)) (Int32.toNatClampNeg (hFc x31.2.2.1)) (some n53)) x52.2.2.1 ++ (wFR cI cF cJ n4 n5 n6 n7 n8 n9 n10 n11 n12 x2.2 ++ (wTD cI cF cJ n15 n1 b n41 n42 n43 n44 n45 n19 n20 x31.2.1 ++ ([kOut cJ n19 ([] : RS)] ++ (wTD cI cF cJ n23 n1 b n62 n63 n64 n65 n66 n27 n28 x52.2.1 ++ ([kOut cJ n27 ([] : RS)] ++ (wFR cI cF cJ n32 n33 n34 n35 n36 n37 n38 n39 n40 x31.2.2.2 ++ (wFR cI cF cJ n53 n54 n55 n56 n57 n58 n59 n60 n61 x52.2.2.2)))))))) := hD.sub [34, 35, 0, 1, 2, 3, 4, 5, 6, 7, 8, 9, 10, 11, 12, 13, 14, 15, 16, 27, 28, 29, 30, 31, 32, 33, 17, 18, 19, 20, 21, 22, 23, 24, 25, 26, 36, 37, 38, 39, 40, 41, 42, 43, 44] (by decide) rfl
    refine lv_if_ne (tgt := 69) hx hb dL_law_64 (by decide) (fun c72 => ?_) (fun c72 => ?_)
    · have hf := ite_f hf c72
      obtain ⟨g73, hf⟩ := gd_e hf
      obtain ⟨g74, hf⟩ := gd_e hf
      obtain ⟨g75, hf⟩ := gd_e hf
      obtain ⟨g76, hf⟩ := gd_e hf
      obtain ⟨g77, hf⟩ := gd_e hf
      obtain ⟨hr0, hr1, hr2, hr3⟩ := row2 (x := (hFc x2.1)) (y := (hFc x31.2.2.1)) (q := n32) (r := n53) (gdec_e g73) (gdec_e g74)
      have hP : va_P (dC, dI) vwCl (wTD cI cF cJ n15 n1 b n41 n42 n43 n44 n45 n19 n20 x31.2.1 ++ (wTD cI cF cJ n23 n1 b n62 n63 n64 n65 n66 n27 n28 x52.2.1 ++ (wHB cI cF cJ n1 n3 n4 (va_up (va_up (fun _ => none) (Int32.toNatClampNeg (hFc x2.1)) (some n32)) (Int32.toNatClampNeg (hFc x31.2.2.1)) (some n53)) x52.2.2.1 ++ (wFR cI cF cJ n32 n33 n34 n35 n36 n37 n38 n39 n40 x31.2.2.2 ++ (wFR cI cF cJ n53 n54 n55 n56 n57 n58 n59 n60 n61 x52.2.2.2 ++ (wFR cI cF cJ n4 n5 n6 n7 n8 n9 n10 n11 n12 x2.2 ++ ([kOut cJ n19 ([] : RS)] ++ ([kOut cJ n27 ([] : RS)])))))))) H := hP.sub [11, 12, 13, 14, 15, 16, 17, 19, 20, 21, 22, 23, 24, 25, 0, 1, 27, 28, 29, 30, 31, 32, 33, 34, 35, 36, 37, 38, 39, 40, 41, 42, 43, 44, 2, 3, 4, 5, 6, 7, 8, 9, 10, 18, 26] rfl
      have hD : va_D A (wTD cI cF cJ n15 n1 b n41 n42 n43 n44 n45 n19 n20 x31.2.1 ++ (wTD cI cF cJ n23 n1 b n62 n63 n64 n65 n66 n27 n28 x52.2.1 ++ (wHB cI cF cJ n1 n3 n4 (va_up (va_up (fun _ => none) (Int32.toNatClampNeg (hFc x2.1)) (some n32)) (Int32.toNatClampNeg (hFc x31.2.2.1)) (some n53)) x52.2.2.1 ++ (wFR cI cF cJ n32 n33 n34 n35 n36 n37 n38 n39 n40 x31.2.2.2 ++ (wFR cI cF cJ n53 n54 n55 n56 n57 n58 n59 n60 n61 x52.2.2.2 ++ (wFR cI cF cJ n4 n5 n6 n7 n8 n9 n10 n11 n12 x2.2 ++ ([kOut cJ n19 ([] : RS)] ++ ([kOut cJ n27 ([] : RS)])))))))) := hD.sub [11, 12, 13, 14, 15, 16, 17, 19, 20, 21, 22, 23, 24, 25, 0, 1, 27, 28, 29, 30, 31, 32, 33, 34, 35, 36, 37, 38, 39, 40, 41, 42, 43, 44, 2, 3, 4, 5, 6, 7, 8, 9, 10, 18, 26] (by decide) rfl
      have hn0 := gdec_e g75
      have hn1 := gdec_e g76
      have hfc := gdec_e g77
      obtain rfl := Option.some.inj hf
      exact kk n15 n1 n41 n42 n43 n44 n45 n19 n20 n23 n62 n63 n64 n65 n66 n27 n28 n3 n4 n32 n33 n34 n35 n36 n37 n38 n39 n40 n53 n54 n55 n56 n57 n58 n59 n60 n61 n5 n6 n7 n8 n9 n10 n11 n12 (va_up (va_up (fun _ => none) (Int32.toNatClampNeg (hFc x2.1)) (some n32)) (Int32.toNatClampNeg (hFc x31.2.2.1)) (some n53)) hr0 hr1 hr2 hr3 _ _ _ hP hD hS (lv_sub hl [3, 4, 2, 1, 0] rfl)
    · have hf := ite_t hf c72
      refine lv_iconst (v := 0) hx hb dL_law_67 (by decide) ?_
      cases hf
