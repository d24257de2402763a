-- laid by wip/p30/law.py
noncomputable def l_C4_469 (c1 : Int32) (c5 : Int32) (c11 : Int32) (R0 : TD) (R1 : HB) (R2 : FR) (R3 : FR) (R4 : FR) (L : Nat) (xs : (Nat → Int32)) (k : Int32 → Int32 → Option (TD × FR × FR × FR)) : Nat → Int32 → Int32 → Option (TD × FR × FR × FR)
  | 0, _, _ => none
  | n + 1, a1, a2 => if c11 ≤ a2 then (k a1 a2) else (bnd (a1 * 10) fun (v4 : Int32) => bnd (a2 + 1) fun (v5 : Int32) => l_C4_469 c1 c5 c11 R0 R1 R2 R3 R4 L xs k n v4 v5)
noncomputable def l_C4_514 (c1 : Int32) (c5 : Int32) (c12 : Int32) (c13 : Int32) (c14 : Int32) (R0 : TD) (R1 : HB) (R2 : FR) (R3 : FR) (L : Nat) (xs : (Nat → Int32)) (k : Int32 → FR → Option (TD × FR × FR × FR)) : Nat → Int32 → FR → Option (TD × FR × FR × FR)
  | 0, _, _ => none
  | n + 1, a18, F19 => if (10 : Int32) ≤ a18 then (k a18 F19) else (bnd (a18 * c13) fun (v21 : Int32) => obd (f_X2_would R1 R2 F19 0 v21 0) fun x22 => if c14 < x22.1 then (none) else (if x22.1 = c14 then (if c12 ≤ a18 then (bnd (a18 + 1) fun (v27 : Int32) => l_C4_514 c1 c5 c12 c13 c14 R0 R1 R2 R3 L xs k n v27 x22.2) else (none)) else (bnd (a18 + 1) fun (v25 : Int32) => l_C4_514 c1 c5 c12 c13 c14 R0 R1 R2 R3 L xs k n v25 x22.2)))
noncomputable def f_C4 (L : Nat) (xs : Nat → Int32) (pt : Int32) (pk : Int32) (pp : Int32) (T : TD) (Hb : HB) (F : FR) (F2 : FR) (Tr : FR) : Option (TD × FR × FR × FR) := l_C4_469 pt pk pp T Hb F F2 Tr L xs (fun (a13 : Int32) (a14 : Int32) => obd (f_X2_hardest Hb F Tr 0 pp) fun x15 => bnd (x15.1 * a13) fun (v16 : Int32) => obd (f_X2_would Hb F x15.2 0 v16 0) fun x17 => l_C4_514 pt pk x15.1 a13 x17.1 T Hb F F2 L xs (fun (a40 : Int32) (F41 : FR) => obd (f_L_isTogether L xs T Hb F F2) fun x42 => if x42.1 = 0 then (none) else (some (x42.2.1, x42.2.2.1, x42.2.2.2, F41))) 16 1 x17.2) 16 1 0
set_option maxHeartbeats 8000000 in
set_option maxRecDepth 100000 in
theorem w_C4 {p : Program} {l : Launch} {e : Env} {s : State} {m : MethodId} {args : Array Value} {below : List Frame} {meth : Method} {c : Code} {Q : State → Prop} {A : Nat → Prop} {dC : Nat → ClassId} {dI : Nat → Nat → Nat} {cI cF cJ cD : ClassId} {b L : Nat} {xs : Nat → Int32} {tA tB : Nat} (hx : p.tables.exec = Jvm.exec) (hb : c.code = cL_law) (hml : c.maxLocals = 19) (hts : ∀ w ∈ LW, w.before args s = true) (hown : s.vm.findClass RL = some m.cls) (hK : va_K (dC, dI) vwCl (TY cI cF cJ cD) s) (hA : ∀ q : Nat, s.heap.size ≤ q → A q) (hE : EX b L xs tA tB A s) {ot oh ou od ow oa ob ok os fa tr q0 q1 q2 q3 q4 q5 q6 q7 q8 r0 r1 r2 r3 r4 r5 r6 r7 r8 t1 t2 t3 t4 t5 t6 t7 t8 qa : Nat} {rw : Nat → Option Nat} {pt : Int32} {pk : Int32} {pp : Int32} {T : TD} {Hb : HB} {F : FR} {F2 : FR} {Tr : FR} {pn : Int32} {tk : Nat → UInt64} (hq0 : f_X2_frameAt rw 0 = some (some q0)) (hq1 : f_X2_frameAt rw 1 = some (some r0)) (hr0 : rw (Int32.toNatClampNeg 0) = some q0) (hr1 : rw (Int32.toNatClampNeg 1) = some r0) (hr2 : rw (Int32.toNatClampNeg 2) = none) (hr3 : rw (Int32.toNatClampNeg 3) = none) (hfc : (hFc Hb) = 2) {res : (TD × FR × FR × FR)} (hf : f_C4 L xs pt pk pp T Hb F F2 Tr = some res) {H : Heap} {locs : List Loc} {ls : Array Slot} {cc ss : Nat} (hcc : cc + 0 ≤ 600000) (hss : ss + 0 ≤ 7000000) (hP : va_P (dC, dI) vwCl (wTD cI cF cJ ot oh b ou od ow oa ob ok os T ++ (wHB cI cF cJ oh fa tr rw Hb ++ (wFR cI cF cJ q0 q1 q2 q3 q4 q5 q6 q7 q8 F ++ (wFR cI cF cJ r0 r1 r2 r3 r4 r5 r6 r7 r8 F2 ++ (wFR cI cF cJ tr t1 t2 t3 t4 t5 t6 t7 t8 Tr ++ ([(qa, .inl (cD, 2, .inr (.inr (.inr (.inl tk)))))])))))) H) (hD : va_D A (wTD cI cF cJ ot oh b ou od ow oa ob ok os T ++ (wHB cI cF cJ oh fa tr rw Hb ++ (wFR cI cF cJ q0 q1 q2 q3 q4 q5 q6 q7 q8 F ++ (wFR cI cF cJ r0 r1 r2 r3 r4 r5 r6 r7 r8 F2 ++ (wFR cI cF cJ tr t1 t2 t3 t4 t5 t6 t7 t8 Tr ++ ([(qa, .inl (cD, 2, .inr (.inr (.inr (.inl tk)))))]))))))) (hS : va_S A s.heap H locs) (hl : lv_has ls 19 [(0, .ref b), (1, .int pt), (2, .ref oh), (3, .ref ot), (5, .int pk), (6, .int pn), (10, .ref qa), (11, .int pp), (13, .int 2)])
    (kk : ∀ (H : Heap) (locs : List Loc) (ls : Array Slot), va_P (dC, dI) vwCl (wTD cI cF cJ ot oh b ou od ow oa ob ok os res.1 ++ (wHB cI cF cJ oh fa tr rw Hb ++ (wFR cI cF cJ q0 q1 q2 q3 q4 q5 q6 q7 q8 res.2.1 ++ (wFR cI cF cJ r0 r1 r2 r3 r4 r5 r6 r7 r8 res.2.2.1 ++ (wFR cI cF cJ tr t1 t2 t3 t4 t5 t6 t7 t8 res.2.2.2))))) H → va_D A (wTD cI cF cJ ot oh b ou od ow oa ob ok os res.1 ++ (wHB cI cF cJ oh fa tr rw Hb ++ (wFR cI cF cJ q0 q1 q2 q3 q4 q5 q6 q7 q8 res.2.1 ++ (wFR cI cF cJ r0 r1 r2 r3 r4 r5 r6 r7 r8 res.2.2.1 ++ (wFR cI cF cJ tr t1 t2 t3 t4 t5 t6 t7 t8 res.2.2.2))))) → va_S A s.heap H locs → lv_has ls 19 [(0, .ref b), (1, .int pt), (2, .ref oh), (3, .ref ot), (5, .int pk)] → W p l e room_1 s m args below meth c H locs (cc) (ss) Q (F0 m 573 ls [])) : W p l e room_1 s m args below meth c H locs cc ss Q (F0 m 460 ls []) := by
  have hkc := Nat.zero_le room_1.cells
  have hks := Nat.zero_le room_1.slots
  rw [f_C4] at hf
  refine lv_goto (tgt := 257) hx hb dL_law_460 (by decide) ?_
  refine lv_iload hx hb dL_law_257 (lv_at hl 8 rfl) ?_
  refine lv_iconst (v := 2) hx hb dL_law_259 (by decide) ?_
  refine lv_icmp_ge (tgt := 463) hx hb dL_law_260 (by decide) (fun _ => ?_) (fun c9 => absurd (by decide) c9)
  have hP : va_P (dC, dI) vwCl (wTD cI cF cJ ot oh b ou od ow oa ob ok os T ++ (wHB cI cF cJ oh fa tr rw Hb ++ (wFR cI cF cJ q0 q1 q2 q3 q4 q5 q6 q7 q8 F ++ (wFR cI cF cJ r0 r1 r2 r3 r4 r5 r6 r7 r8 F2 ++ (wFR cI cF cJ tr t1 t2 t3 t4 t5 t6 t7 t8 Tr))))) H := hP.sub [0, 1, 2, 3, 4, 5, 6, 7, 8, 9, 10, 11, 12, 13, 14, 15, 16, 17, 18, 19, 20, 21, 22, 23, 24, 25, 26, 27, 28, 29, 30, 31, 32, 33, 34, 35] rfl
  have hD : va_D A (wTD cI cF cJ ot oh b ou od ow oa ob ok os T ++ (wHB cI cF cJ oh fa tr rw Hb ++ (wFR cI cF cJ q0 q1 q2 q3 q4 q5 q6 q7 q8 F ++ (wFR cI cF cJ r0 r1 r2 r3 r4 r5 r6 r7 r8 F2 ++ (wFR cI cF cJ tr t1 t2 t3 t4 t5 t6 t7 t8 Tr))))) := hD.sub [0, 1, 2, 3, 4, 5, 6, 7, 8, 9, 10, 11, 12, 13, 14, 15, 16, 17, 18, 19, 20, 21, 22, 23, 24, 25, 26, 27, 28, 29, 30, 31, 32, 33, 34, 35] (by decide) rfl
  refine lv_iconst (v := 1) hx hb dL_law_463 (by decide) ?_
  refine lv_istore (lv' := [(13, .int 1), (0, .ref b), (1, .int pt), (2, .ref oh), (3, .ref ot), (5, .int pk), (6, .int pn), (10, .ref qa), (11, .int pp)]) hx hb dL_law_464 hl (by decide) rfl (fun ls hl => ?_)
  refine lv_iconst (v := 0) hx hb dL_law_466 (by decide) ?_
  refine lv_istore (lv' := [(14, .int 0), (13, .int 1), (0, .ref b), (1, .int pt), (2, .ref oh), (3, .ref ot), (5, .int pk), (6, .int pn), (10, .ref qa), (11, .int pp)]) hx hb dL_law_467 hl (by decide) rfl (fun ls hl => ?_)
  have L469 : ∀ (k : Int32 → Int32 → Option (TD × FR × FR × FR)), (∀ (a6 : Int32) (a7 : Int32) (H : Heap) (locs : List Loc) (ls : Array Slot), va_P (dC, dI) vwCl (wTD cI cF cJ ot oh b ou od ow oa ob ok os T ++ (wHB cI cF cJ oh fa tr rw Hb ++ (wFR cI cF cJ q0 q1 q2 q3 q4 q5 q6 q7 q8 F ++ (wFR cI cF cJ r0 r1 r2 r3 r4 r5 r6 r7 r8 F2 ++ (wFR cI cF cJ tr t1 t2 t3 t4 t5 t6 t7 t8 Tr))))) H → va_D A (wTD cI cF cJ ot oh b ou od ow oa ob ok os T ++ (wHB cI cF cJ oh fa tr rw Hb ++ (wFR cI cF cJ q0 q1 q2 q3 q4 q5 q6 q7 q8 F ++ (wFR cI cF cJ r0 r1 r2 r3 r4 r5 r6 r7 r8 F2 ++ (wFR cI cF cJ tr t1 t2 t3 t4 t5 t6 t7 t8 Tr))))) → va_S A s.heap H locs → lv_has ls 19 [(13, .int a6), (0, .ref b), (1, .int pt), (2, .ref oh), (3, .ref ot), (5, .int pk), (11, .int pp)] → k a6 a7 = some res → W p l e room_1 s m args below meth c H locs cc ss Q (F0 m 489 ls [])) → ∀ (n : Nat) (a6 : Int32) (a7 : Int32) (H : Heap) (locs : List Loc) (ls : Array Slot), va_P (dC, dI) vwCl (wTD cI cF cJ ot oh b ou od ow oa ob ok os T ++ (wHB cI cF cJ oh fa tr rw Hb ++ (wFR cI cF cJ q0 q1 q2 q3 q4 q5 q6 q7 q8 F ++ (wFR cI cF cJ r0 r1 r2 r3 r4 r5 r6 r7 r8 F2 ++ (wFR cI cF cJ tr t1 t2 t3 t4 t5 t6 t7 t8 Tr))))) H → va_D A (wTD cI cF cJ ot oh b ou od ow oa ob ok os T ++ (wHB cI cF cJ oh fa tr rw Hb ++ (wFR cI cF cJ q0 q1 q2 q3 q4 q5 q6 q7 q8 F ++ (wFR cI cF cJ r0 r1 r2 r3 r4 r5 r6 r7 r8 F2 ++ (wFR cI cF cJ tr t1 t2 t3 t4 t5 t6 t7 t8 Tr))))) → va_S A s.heap H locs → lv_has ls 19 [(13, .int a6), (14, .int a7), (0, .ref b), (1, .int pt), (2, .ref oh), (3, .ref ot), (5, .int pk), (11, .int pp)] → l_C4_469 pt pk pp T Hb F F2 Tr L xs k n a6 a7 = some res → W p l e room_1 s m args below meth c H locs cc ss Q (F0 m 469 ls []) := by
    intro k hk n
    induction n with
    | zero =>
      intro a8 a9 H locs ls hP hD hS hl hf
      rw [l_C4_469] at hf
      cases hf
    | succ n ih =>
      intro a8 a9 H locs ls hP hD hS hl hf
      rw [l_C4_469] at hf
      refine lv_iload hx hb dL_law_469 (lv_at hl 1 rfl) ?_
      refine lv_iload hx hb dL_law_471 (lv_at hl 7 rfl) ?_
      refine lv_icmp_ge (tgt := 489) hx hb dL_law_473 (by decide) (fun c10 => ?_) (fun c10 => ?_)
      · have hf := ite_t hf c10
        exact hk a8 a9 _ _ _ hP hD hS (lv_sub hl [0, 2, 3, 4, 5, 6, 7] rfl) hf
      · have hf := ite_f hf c10
        refine lv_iload hx hb dL_law_476 (lv_at hl 0 rfl) ?_
        refine lv_bipush (v := 10) hx hb dL_law_478 (by decide) ?_
        refine lv_imul hx hb dL_law_480 ?_
        refine lv_topi (fun v11 ev11 => ?_)
        have hf := bnd_all hf v11 ev11
        refine lv_istore (lv' := [(13, .int v11), (14, .int a9), (0, .ref b), (1, .int pt), (2, .ref oh), (3, .ref ot), (5, .int pk), (11, .int pp)]) hx hb dL_law_481 hl (by decide) rfl (fun ls hl => ?_)
        obtain ⟨v12, ev12⟩ : ∃ y : Int32, y = a9 + 1 := ⟨_, rfl⟩
        have hf := bnd_all hf v12 ev12
        refine lv_iinc (v := v12) (lv' := [(14, .int v12), (13, .int v11), (0, .ref b), (1, .int pt), (2, .ref oh), (3, .ref ot), (5, .int pk), (11, .int pp)]) hx hb dL_law_483 hl (k := 1) rfl (by rw [ev12]; rfl) (by decide) rfl (fun ls hl => ?_)
        refine lv_goto (tgt := 469) hx hb dL_law_486 (by decide) ?_
        exact ih v11 v12 _ _ _ hP hD hS (lv_sub hl [1, 0, 2, 3, 4, 5, 6, 7] rfl) hf
  refine L469 _ (fun a13 a14 H locs ls hP hD hS hl hf => ?_) 16 1 0 _ _ _ hP hD hS (lv_sub hl [1, 0, 2, 3, 4, 5, 6, 9] rfl) hf
  refine lv_aload_n hx hb dL_law_489 rfl (lv_at hl 3 rfl) ?_
  refine lv_iconst (v := 0) hx hb dL_law_490 (by decide) ?_
  refine lv_iload hx hb dL_law_491 (lv_at hl 6 rfl) ?_
  obtain ⟨x15, hx15, hf⟩ := obd_e hf
  refine sb_Vi (As := [.int 0, .int pp]) (rest := []) ⟨hx, hb, hml, hown, hts⟩ (fun sz => c_X2_hardest l dC dI cI cF cJ cD oh fa tr q0 q1 q2 q3 q4 q5 q6 q7 q8 t1 t2 t3 t4 t5 t6 t7 t8 rw Hb F Tr 0 pp hq0 x15 hx15 sz) (cwV 2 hts (g_V q548 q549 q550 q172 q305) rfl rfl rfl pc_X2_hardest ⟨Nat.le_of_ble_eq_true rfl, Nat.le_of_ble_eq_true rfl⟩) 0 2 rfl rfl hK hP hD hS hA [7, 8, 9, 10, 11, 12, 13, 14, 15, 16, 17, 27, 28, 29, 30, 31, 32, 33, 34, 35] [0, 1, 2, 3, 4, 5, 6, 18, 19, 20, 21, 22, 23, 24, 25, 26] rfl rfl (by decide) (by decide) (by decide) (fun _ _ _ _ h => h) (fun _ _ _ => trivial) rfl rfl hl.1 (Nat.le_of_ble_eq_true rfl) dL_law_493 ⟨Nat.le_trans (show cc + 0 ≤ 600000 by omega) (Nat.le_of_ble_eq_true rfl), Nat.le_trans (show ss + 0 ≤ 7000000 by omega) (Nat.le_of_ble_eq_true rfl)⟩ (fun r9 u H locs hr9 hP hD hS => ?_)
  have hr9 := Eq.symm hr9
  subst hr9
  have hP : va_P (dC, dI) vwCl (wTD cI cF cJ ot oh b ou od ow oa ob ok os T ++ (wHB cI cF cJ oh fa tr rw Hb ++ (wFR cI cF cJ q0 q1 q2 q3 q4 q5 q6 q7 q8 F ++ (wFR cI cF cJ r0 r1 r2 r3 r4 r5 r6 r7 r8 F2 ++ (wFR cI cF cJ tr t1 t2 t3 t4 t5 t6 t7 t8 x15.2))))) H := hP.sub [0, 1, 2, 3, 4, 5, 6, 16, 17, 18, 19, 20, 21, 22, 23, 24, 25, 26, 7, 8, 9, 10, 11, 12, 13, 14, 15, 27, 28, 29, 30, 31, 32, 33, 34, 35] rfl
  have hD : va_D A (wTD cI cF cJ ot oh b ou od ow oa ob ok os T ++ (wHB cI cF cJ oh fa tr rw Hb ++ (wFR cI cF cJ q0 q1 q2 q3 q4 q5 q6 q7 q8 F ++ (wFR cI cF cJ r0 r1 r2 r3 r4 r5 r6 r7 r8 F2 ++ (wFR cI cF cJ tr t1 t2 t3 t4 t5 t6 t7 t8 x15.2))))) := hD.sub [0, 1, 2, 3, 4, 5, 6, 16, 17, 18, 19, 20, 21, 22, 23, 24, 25, 26, 7, 8, 9, 10, 11, 12, 13, 14, 15, 27, 28, 29, 30, 31, 32, 33, 34, 35] (by decide) rfl
  refine lv_istore (lv' := [(12, .int x15.1), (13, .int a13), (0, .ref b), (1, .int pt), (2, .ref oh), (3, .ref ot), (5, .int pk), (11, .int pp)]) hx hb dL_law_496 hl (by decide) rfl (fun ls hl => ?_)
  refine lv_aload_n hx hb dL_law_498 rfl (lv_at hl 4 rfl) ?_
  refine lv_iconst (v := 0) hx hb dL_law_499 (by decide) ?_
  refine lv_iload hx hb dL_law_500 (lv_at hl 0 rfl) ?_
  refine lv_iload hx hb dL_law_502 (lv_at hl 1 rfl) ?_
  refine lv_imul hx hb dL_law_504 ?_
  refine lv_topi (fun v16 ev16 => ?_)
  have hf := bnd_all hf v16 ev16
  refine lv_iconst (v := 0) hx hb dL_law_505 (by decide) ?_
  obtain ⟨x17, hx17, hf⟩ := obd_e hf
  refine sb_Vi (As := [.int 0, .int v16, .int 0]) (rest := []) ⟨hx, hb, hml, hown, hts⟩ (fun sz => c_X2_would l dC dI cI cF cJ cD oh fa tr q0 q1 q2 q3 q4 q5 q6 q7 q8 t1 t2 t3 t4 t5 t6 t7 t8 rw Hb F x15.2 0 v16 0 hq0 x17 hx17 sz) (cwV 3 hts (g_V q554 q555 q556 q172 q288) rfl rfl rfl pc_X2_would ⟨Nat.le_of_ble_eq_true rfl, Nat.le_of_ble_eq_true rfl⟩) 0 2 rfl rfl hK hP hD hS hA [7, 8, 9, 10, 11, 12, 13, 14, 15, 16, 17, 27, 28, 29, 30, 31, 32, 33, 34, 35] [0, 1, 2, 3, 4, 5, 6, 18, 19, 20, 21, 22, 23, 24, 25, 26] rfl rfl (by decide) (by decide) (by decide) (fun _ _ _ _ h => h) (fun _ _ _ => trivial) rfl rfl hl.1 (Nat.le_of_ble_eq_true rfl) dL_law_506 ⟨Nat.le_trans (show cc + 0 ≤ 600000 by omega) (Nat.le_of_ble_eq_true rfl), Nat.le_trans (show ss + 0 ≤ 7000000 by omega) (Nat.le_of_ble_eq_true rfl)⟩ (fun r9 u H locs hr9 hP hD hS => ?_)
  have hr9 := Eq.symm hr9
  subst hr9
  have hP : va_P (dC, dI) vwCl (wTD cI cF cJ ot oh b ou od ow oa ob ok os T ++ (wHB cI cF cJ oh fa tr rw Hb ++ (wFR cI cF cJ q0 q1 q2 q3 q4 q5 q6 q7 q8 F ++ (wFR cI cF cJ r0 r1 r2 r3 r4 r5 r6 r7 r8 F2 ++ (wFR cI cF cJ tr t1 t2 t3 t4 t5 t6 t7 t8 x17.2))))) H := hP.sub [0, 1, 2, 3, 4, 5, 6, 16, 17, 18, 19, 20, 21, 22, 23, 24, 25, 26, 7, 8, 9, 10, 11, 12, 13, 14, 15, 27, 28, 29, 30, 31, 32, 33, 34, 35] rfl
  have hD : va_D A (wTD cI cF cJ ot oh b ou od ow oa ob ok os T ++ (wHB cI cF cJ oh fa tr rw Hb ++ (wFR cI cF cJ q0 q1 q2 q3 q4 q5 q6 q7 q8 F ++ (wFR cI cF cJ r0 r1 r2 r3 r4 r5 r6 r7 r8 F2 ++ (wFR cI cF cJ tr t1 t2 t3 t4 t5 t6 t7 t8 x17.2))))) := hD.sub [0, 1, 2, 3, 4, 5, 6, 16, 17, 18, 19, 20, 21, 22, 23, 24, 25, 26, 7, 8, 9, 10, 11, 12, 13, 14, 15, 27, 28, 29, 30, 31, 32, 33, 34, 35] (by decide) rfl
  refine lv_istore (lv' := [(14, .int x17.1), (12, .int x15.1), (13, .int a13), (0, .ref b), (1, .int pt), (2, .ref oh), (3, .ref ot), (5, .int pk), (11, .int pp)]) hx hb dL_law_509 hl (by decide) rfl (fun ls hl => ?_)
  refine lv_iconst (v := 1) hx hb dL_law_511 (by decide) ?_
  refine lv_istore (lv' := [(15, .int 1), (14, .int x17.1), (12, .int x15.1), (13, .int a13), (0, .ref b), (1, .int pt), (2, .ref oh), (3, .ref ot), (5, .int pk), (11, .int pp)]) hx hb dL_law_512 hl (by decide) rfl (fun ls hl => ?_)
  have L514 : ∀ (k : Int32 → FR → Option (TD × FR × FR × FR)), (∀ (a28 : Int32) (F29 : FR) (H : Heap) (locs : List Loc) (ls : Array Slot), va_P (dC, dI) vwCl (wTD cI cF cJ ot oh b ou od ow oa ob ok os T ++ (wHB cI cF cJ oh fa tr rw Hb ++ (wFR cI cF cJ q0 q1 q2 q3 q4 q5 q6 q7 q8 F ++ (wFR cI cF cJ r0 r1 r2 r3 r4 r5 r6 r7 r8 F2 ++ (wFR cI cF cJ tr t1 t2 t3 t4 t5 t6 t7 t8 F29))))) H → va_D A (wTD cI cF cJ ot oh b ou od ow oa ob ok os T ++ (wHB cI cF cJ oh fa tr rw Hb ++ (wFR cI cF cJ q0 q1 q2 q3 q4 q5 q6 q7 q8 F ++ (wFR cI cF cJ r0 r1 r2 r3 r4 r5 r6 r7 r8 F2 ++ (wFR cI cF cJ tr t1 t2 t3 t4 t5 t6 t7 t8 F29))))) → va_S A s.heap H locs → lv_has ls 19 [(0, .ref b), (1, .int pt), (2, .ref oh), (3, .ref ot), (5, .int pk)] → k a28 F29 = some res → W p l e room_1 s m args below meth c H locs cc ss Q (F0 m 563 ls [])) → ∀ (n : Nat) (a28 : Int32) (F29 : FR) (H : Heap) (locs : List Loc) (ls : Array Slot), va_P (dC, dI) vwCl (wTD cI cF cJ ot oh b ou od ow oa ob ok os T ++ (wHB cI cF cJ oh fa tr rw Hb ++ (wFR cI cF cJ q0 q1 q2 q3 q4 q5 q6 q7 q8 F ++ (wFR cI cF cJ r0 r1 r2 r3 r4 r5 r6 r7 r8 F2 ++ (wFR cI cF cJ tr t1 t2 t3 t4 t5 t6 t7 t8 F29))))) H → va_D A (wTD cI cF cJ ot oh b ou od ow oa ob ok os T ++ (wHB cI cF cJ oh fa tr rw Hb ++ (wFR cI cF cJ q0 q1 q2 q3 q4 q5 q6 q7 q8 F ++ (wFR cI cF cJ r0 r1 r2 r3 r4 r5 r6 r7 r8 F2 ++ (wFR cI cF cJ tr t1 t2 t3 t4 t5 t6 t7 t8 F29))))) → va_S A s.heap H locs → lv_has ls 19 [(15, .int a28), (0, .ref b), (1, .int pt), (2, .ref oh), (3, .ref ot), (5, .int pk), (12, .int x15.1), (13, .int a13), (14, .int x17.1)] → l_C4_514 pt pk x15.1 a13 x17.1 T Hb F F2 L xs k n a28 F29 = some res → W p l e room_1 s m args below meth c H locs cc ss Q (F0 m 514 ls []) := by
    intro k hk n
    induction n with
    | zero =>
      intro a30 F31 H locs ls hP hD hS hl hf
      rw [l_C4_514] at hf
      cases hf
    | succ n ih =>
      intro a30 F31 H locs ls hP hD hS hl hf
      rw [l_C4_514] at hf
      refine lv_iload hx hb dL_law_514 (lv_at hl 0 rfl) ?_
      refine lv_bipush (v := 10) hx hb dL_law_516 (by decide) ?_
      refine lv_icmp_ge (tgt := 563) hx hb dL_law_518 (by decide) (fun c32 => ?_) (fun c32 => ?_)
      · have hf := ite_t hf c32
        exact hk a30 F31 _ _ _ hP hD hS (lv_sub hl [1, 2, 3, 4, 5] rfl) hf
      · have hf := ite_f hf c32
        refine lv_aload_n hx hb dL_law_521 rfl (lv_at hl 3 rfl) ?_
        refine lv_iconst (v := 0) hx hb dL_law_522 (by decide) ?_
        refine lv_iload hx hb dL_law_523 (lv_at hl 0 rfl) ?_
        refine lv_iload hx hb dL_law_525 (lv_at hl 7 rfl) ?_
        refine lv_imul hx hb dL_law_527 ?_
        refine lv_topi (fun v33 ev33 => ?_)
        have hf := bnd_all hf v33 ev33
        refine lv_iconst (v := 0) hx hb dL_law_528 (by decide) ?_
        obtain ⟨x34, hx34, hf⟩ := obd_e hf
        refine sb_Vi (As := [.int 0, .int v33, .int 0]) (rest := []) ⟨hx, hb, hml, hown, hts⟩ (fun sz => c_X2_would l dC dI cI cF cJ cD oh fa tr q0 q1 q2 q3 q4 q5 q6 q7 q8 t1 t2 t3 t4 t5 t6 t7 t8 rw Hb F F31 0 v33 0 hq0 x34 hx34 sz) (cwV 3 hts (g_V q554 q555 q556 q172 q288) rfl rfl rfl pc_X2_would ⟨Nat.le_of_ble_eq_true rfl, Nat.le_of_ble_eq_true rfl⟩) 0 2 rfl rfl hK hP hD hS hA [7, 8, 9, 10, 11, 12, 13, 14, 15, 16, 17, 27, 28, 29, 30, 31, 32, 33, 34, 35] [0, 1, 2, 3, 4, 5, 6, 18, 19, 20, 21, 22, 23, 24, 25, 26] rfl rfl (by decide) (by decide) (by decide) (fun _ _ _ _ h => h) (fun _ _ _ => trivial) rfl rfl hl.1 (Nat.le_of_ble_eq_true rfl) dL_law_529 ⟨Nat.le_trans (show cc + 0 ≤ 600000 by omega) (Nat.le_of_ble_eq_true rfl), Nat.le_trans (show ss + 0 ≤ 7000000 by omega) (Nat.le_of_ble_eq_true rfl)⟩ (fun r9 u H locs hr9 hP hD hS => ?_)
        have hr9 := Eq.symm hr9
        subst hr9
        have hP : va_P (dC, dI) vwCl (wTD cI cF cJ ot oh b ou od ow oa ob ok os T ++ (wHB cI cF cJ oh fa tr rw Hb ++ (wFR cI cF cJ q0 q1 q2 q3 q4 q5 q6 q7 q8 F ++ (wFR cI cF cJ r0 r1 r2 r3 r4 r5 r6 r7 r8 F2 ++ (wFR cI cF cJ tr t1 t2 t3 t4 t5 t6 t7 t8 x34.2))))) H := hP.sub [0, 1, 2, 3, 4, 5, 6, 16, 17, 18, 19, 20, 21, 22, 23, 24, 25, 26, 7, 8, 9, 10, 11, 12, 13, 14, 15, 27, 28, 29, 30, 31, 32, 33, 34, 35] rfl
        have hD : va_D A (wTD cI cF cJ ot oh b ou od ow oa ob ok os T ++ (wHB cI cF cJ oh fa tr rw Hb ++ (wFR cI cF cJ q0 q1 q2 q3 q4 q5 q6 q7 q8 F ++ (wFR cI cF cJ r0 r1 r2 r3 r4 r5 r6 r7 r8 F2 ++ (wFR cI cF cJ tr t1 t2 t3 t4 t5 t6 t7 t8 x34.2))))) := hD.sub [0, 1, 2, 3, 4, 5, 6, 16, 17, 18, 19, 20, 21, 22, 23, 24, 25, 26, 7, 8, 9, 10, 11, 12, 13, 14, 15, 27, 28, 29, 30, 31, 32, 33, 34, 35] (by decide) rfl
        refine lv_istore (lv' := [(16, .int x34.1), (15, .int a30), (0, .ref b), (1, .int pt), (2, .ref oh), (3, .ref ot), (5, .int pk), (12, .int x15.1), (13, .int a13), (14, .int x17.1)]) hx hb dL_law_532 hl (by decide) rfl (fun ls hl => ?_)
        refine lv_iload hx hb dL_law_534 (lv_at hl 0 rfl) ?_
        refine lv_iload hx hb dL_law_536 (lv_at hl 9 rfl) ?_
        refine lv_icmp_gt (tgt := 555) hx hb dL_law_538 (by decide) (fun c35 => ?_) (fun c35 => ?_)
        · have hf := ite_t hf c35
          refine lv_iconst (v := 0) hx hb dL_law_555 (by decide) ?_
          cases hf
        · have hf := ite_f hf c35
          refine lv_iload hx hb dL_law_541 (lv_at hl 0 rfl) ?_
          refine lv_iload hx hb dL_law_543 (lv_at hl 9 rfl) ?_
          refine lv_icmp_ne (tgt := 557) hx hb dL_law_545 (by decide) (fun c36 => ?_) (fun c36 => ?_)
          · have hf := ite_f hf c36
            obtain ⟨v37, ev37⟩ : ∃ y : Int32, y = a30 + 1 := ⟨_, rfl⟩
            have hf := bnd_all hf v37 ev37
            refine lv_iinc (v := v37) (lv' := [(15, .int v37), (16, .int x34.1), (0, .ref b), (1, .int pt), (2, .ref oh), (3, .ref ot), (5, .int pk), (12, .int x15.1), (13, .int a13), (14, .int x17.1)]) hx hb dL_law_557 hl (k := 1) rfl (by rw [ev37]; rfl) (by decide) rfl (fun ls hl => ?_)
            refine lv_goto (tgt := 514) hx hb dL_law_560 (by decide) ?_
            exact ih v37 x34.2 _ _ _ hP hD hS (lv_sub hl [0, 2, 3, 4, 5, 6, 7, 8, 9] rfl) hf
          · have hf := ite_t hf c36
            refine lv_iload hx hb dL_law_548 (lv_at hl 1 rfl) ?_
            refine lv_iload hx hb dL_law_550 (lv_at hl 7 rfl) ?_
            refine lv_icmp_ge (tgt := 557) hx hb dL_law_552 (by decide) (fun c38 => ?_) (fun c38 => ?_)
            · have hf := ite_t hf c38
              obtain ⟨v39, ev39⟩ : ∃ y : Int32, y = a30 + 1 := ⟨_, rfl⟩
              have hf := bnd_all hf v39 ev39
              refine lv_iinc (v := v39) (lv' := [(15, .int v39), (16, .int x34.1), (0, .ref b), (1, .int pt), (2, .ref oh), (3, .ref ot), (5, .int pk), (12, .int x15.1), (13, .int a13), (14, .int x17.1)]) hx hb dL_law_557 hl (k := 1) rfl (by rw [ev39]; rfl) (by decide) rfl (fun ls hl => ?_)
              refine lv_goto (tgt := 514) hx hb dL_law_560 (by decide) ?_
              exact ih v39 x34.2 _ _ _ hP hD hS (lv_sub hl [0, 2, 3, 4, 5, 6, 7, 8, 9] rfl) hf
            · have hf := ite_f hf c38
              refine lv_iconst (v := 0) hx hb dL_law_555 (by decide) ?_
              cases hf
  refine L514 _ (fun a40 F41 H locs ls hP hD hS hl hf => ?_) 16 1 x17.2 _ _ _ hP hD hS (lv_sub hl [0, 4, 5, 6, 7, 8, 2, 3, 1] rfl) hf
  refine lv_aload_n hx hb dL_law_563 rfl (lv_at hl 2 rfl) ?_
  refine lv_aload_n hx hb dL_law_564 rfl (lv_at hl 3 rfl) ?_
  obtain ⟨x42, hx42, hf⟩ := obd_e hf
  refine sb_Si (As := [.ref oh, .ref ot]) (rest := []) ⟨hx, hb, hml, hown, hts⟩ (fun sz => c_L_isTogether l dC dI cI cF cJ cD b L xs tA tB ot oh ou od ow oa ob ok os fa tr q0 q1 q2 q3 q4 q5 q6 q7 q8 r0 r1 r2 r3 r4 r5 r6 r7 r8 rw T Hb F F2 hq0 hq1 hr0 hr1 hr2 hr3 x42 hx42 sz) (va_cwS 2 hts (g_S q560 q561 q341 q522) rfl rfl rfl ps_L_isTogether ⟨Nat.le_of_ble_eq_true rfl, Nat.le_of_ble_eq_true rfl⟩)  hK hP hD hS hA [0, 1, 2, 3, 4, 5, 6, 7, 8, 9, 10, 11, 12, 13, 14, 15, 16, 17, 18, 19, 20, 21, 22, 23, 24, 25, 26] [27, 28, 29, 30, 31, 32, 33, 34, 35] rfl rfl (by decide) (by decide) (by decide) EX_blind (fun U hU hW => EX_pass hE hS (va_free hD hS hA [0, 1, 2, 3, 4, 5, 6, 7, 8, 9, 10, 11, 12, 13, 14, 15, 16, 17, 18, 19, 20, 21, 22, 23, 24, 25, 26] rfl) hU hW) rfl rfl hl.1 (Nat.le_of_ble_eq_true rfl) dL_law_565 ⟨Nat.le_trans (show cc + 0 ≤ 600000 by omega) (Nat.le_of_ble_eq_true rfl), Nat.le_trans (show ss + 0 ≤ 7000000 by omega) (Nat.le_of_ble_eq_true rfl)⟩ (fun r9 u H locs hr9 hP hD hS => ?_)
  have hr9 := Eq.symm hr9
  subst hr9
  have hP : va_P (dC, dI) vwCl (wTD cI cF cJ ot oh b ou od ow oa ob ok os x42.2.1 ++ (wHB cI cF cJ oh fa tr rw Hb ++ (wFR cI cF cJ q0 q1 q2 q3 q4 q5 q6 q7 q8 x42.2.2.1 ++ (wFR cI cF cJ r0 r1 r2 r3 r4 r5 r6 r7 r8 x42.2.2.2 ++ (wFR cI cF cJ tr t1 t2 t3 t4 t5 t6 t7 t8 F41))))) H := hP.sub [9, 10, 11, 12, 13, 14, 15, 16, 17, 18, 19, 20, 21, 22, 23, 24, 25, 26, 27, 28, 29, 30, 31, 32, 33, 34, 35, 0, 1, 2, 3, 4, 5, 6, 7, 8] rfl
  have hD : va_D A (wTD cI cF cJ ot oh b ou od ow oa ob ok os x42.2.1 ++ (wHB cI cF cJ oh fa tr rw Hb ++ (wFR cI cF cJ q0 q1 q2 q3 q4 q5 q6 q7 q8 x42.2.2.1 ++ (wFR cI cF cJ r0 r1 r2 r3 r4 r5 r6 r7 r8 x42.2.2.2 ++ (wFR cI cF cJ tr t1 t2 t3 t4 t5 t6 t7 t8 F41))))) := hD.sub [9, 10, 11, 12, 13, 14, 15, 16, 17, 18, 19, 20, 21, 22, 23, 24, 25, 26, 27, 28, 29, 30, 31, 32, 33, 34, 35, 0, 1, 2, 3, 4, 5, 6, 7, 8] (by decide) rfl
  refine lv_if_ne (tgt := 573) hx hb dL_law_568 (by decide) (fun c43 => ?_) (fun c43 => ?_)
  · have hf := ite_f hf c43
    obtain rfl := Option.some.inj hf
    exact kk  _ _ _ hP hD hS (lv_sub hl [0, 1, 2, 3, 4] rfl)
  · have hf := ite_t hf c43
    refine lv_iconst (v := 0) hx hb dL_law_571 (by decide) ?_
    cases hf
