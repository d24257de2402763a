-- laid by wip/p30/specs.py
noncomputable def l_X3_shift_24 (R1 : HB) (R2 : FR) (R3 : KO) (N4 : Nat) (L : Nat) (xs : (Nat → Int32)) (lr : Nat) (k : Int32 → TD → (Nat → Int32) → Option (Int32 × TD × FR × KO)) : Nat → Int32 → TD → (Nat → Int32) → Option (Int32 × TD × FR × KO)
  | 0, _, _, _ => none
  | n + 1, a5, F6, F7 => if (nI N4) ≤ a5 then (k a5 F6 F7) else (obd (f_X3_value F6 a5) fun x9 => gd (gin a5 N4) <| bnd (a5 + 1) fun (v11 : Int32) => l_X3_shift_24 R1 R2 R3 N4 L xs lr k n v11 F6 (upd F7 (Int32.toNatClampNeg a5) x9))
noncomputable def l_X3_shift_56 (c3 : Int32) (R1 : HB) (R2 : FR) (R3 : KO) (R4 : (Nat → Int32)) (N4 : Nat) (L : Nat) (xs : (Nat → Int32)) (lr : Nat) (k : Int32 → TD → Option (Int32 × TD × FR × KO)) : Nat → Int32 → TD → Option (Int32 × TD × FR × KO)
  | 0, _, _ => none
  | n + 1, a29, F30 => if a29 < 0 then (k a29 F30) else (k a29 F30)
noncomputable def l_X3_shift_95 (c3 : Int32) (R1 : HB) (R2 : FR) (R3 : KO) (R4 : (Nat → Int32)) (N4 : Nat) (L : Nat) (xs : (Nat → Int32)) (lr : Nat) (k : Int32 → TD → Option (Int32 × TD × FR × KO)) : Nat → Int32 → TD → Option (Int32 × TD × FR × KO)
  | 0, _, _ => none
  | n + 1, a39, F40 => if c3 < a39 then (k a39 F40) else (if a39 = c3 then (obd (f_X3_set F40 a39 0) fun x48 => bnd (a39 + 1) fun (v49 : Int32) => l_X3_shift_95 c3 R1 R2 R3 R4 N4 L xs lr k n v49 x48) else (bnd (a39 + 1) fun (v43 : Int32) => gd (gin v43 N4) <| bnd (R4 (Int32.toNatClampNeg v43)) fun (v45 : Int32) => obd (f_X3_set F40 a39 v45) fun x46 => bnd (a39 + 1) fun (v47 : Int32) => l_X3_shift_95 c3 R1 R2 R3 R4 N4 L xs lr k n v47 x46))
noncomputable def l_X3_shift_24b (R1 : HB) (R2 : FR) (R3 : KO) (N4 : Nat) (L : Nat) (xs : (Nat → Int32)) (lr : Nat) (k : Int32 → TD → (Nat → Int32) → Option (Int32 × TD × FR × KO)) : Nat → Int32 → TD → (Nat → Int32) → Option (Int32 × TD × FR × KO)
  | 0, _, _, _ => none
  | n + 1, a76, F77, F78 => if (nI N4) ≤ a76 then (k a76 F77 F78) else (obd (f_X3_value F77 a76) fun x80 => gd (gin a76 N4) <| bnd (a76 + 1) fun (v82 : Int32) => l_X3_shift_24b R1 R2 R3 N4 L xs lr k n v82 F77 (upd F78 (Int32.toNatClampNeg a76) x80))
noncomputable def l_X3_shift_56b (c3 : Int32) (R1 : HB) (R2 : FR) (R3 : KO) (R4 : (Nat → Int32)) (N4 : Nat) (L : Nat) (xs : (Nat → Int32)) (lr : Nat) (k : Int32 → TD → Option (Int32 × TD × FR × KO)) : Nat → Int32 → TD → Option (Int32 × TD × FR × KO)
  | 0, _, _ => none
  | n + 1, a100, F101 => if a100 < 0 then (k a100 F101) else (if a100 = 0 then (obd (f_X3_set F101 a100 0) fun x109 => bnd (a100 + (-1)) fun (v110 : Int32) => l_X3_shift_56b c3 R1 R2 R3 R4 N4 L xs lr k n v110 x109) else (bnd (a100 - 1) fun (v104 : Int32) => gd (gin v104 N4) <| bnd (R4 (Int32.toNatClampNeg v104)) fun (v106 : Int32) => obd (f_X3_set F101 a100 v106) fun x107 => bnd (a100 + (-1)) fun (v108 : Int32) => l_X3_shift_56b c3 R1 R2 R3 R4 N4 L xs lr k n v108 x107))
noncomputable def l_X3_shift_95b (c3 : Int32) (R1 : HB) (R2 : FR) (R3 : KO) (R4 : (Nat → Int32)) (N4 : Nat) (L : Nat) (xs : (Nat → Int32)) (lr : Nat) (k : Int32 → TD → Option (Int32 × TD × FR × KO)) : Nat → Int32 → TD → Option (Int32 × TD × FR × KO)
  | 0, _, _ => none
  | n + 1, a126, F127 => if c3 < a126 then (k a126 F127) else (k a126 F127)
noncomputable def f_X3_shift (L : Nat) (xs : Nat → Int32) (lr : Nat) (T : TD) (Hb : HB) (F : FR) (K : KO) : Option (Int32 × TD × FR × KO) := obd (f_X3_draw L xs T 2) fun x1 => if x1.1 = 0 then (gd (glen (nI (tN x1.2)) 8) <| l_X3_shift_24b Hb F K (Int32.toNatClampNeg (nI (tN x1.2))) L xs lr (fun (a93 : Int32) (F94 : TD) (F95 : (Nat → Int32)) => obd (f_X3_keep lr F94 K) fun x96 => bnd ((nI (Int32.toNatClampNeg (nI (tN x1.2)))) - 1) fun (v99 : Int32) => l_X3_shift_56b v99 Hb F x96 F95 (Int32.toNatClampNeg (nI (tN x1.2))) L xs lr (fun (a124 : Int32) (F125 : TD) => l_X3_shift_95b v99 Hb F x96 F95 (Int32.toNatClampNeg (nI (tN x1.2))) L xs lr (fun (a134 : Int32) (F135 : TD) => gd (gin 4 5) <| bnd ((tSm F135) (Int32.toNatClampNeg 4)) fun (v137 : Int32) => gd (gin v99 (Int32.toNatClampNeg (nI (tN x1.2)))) <| bnd (F95 (Int32.toNatClampNeg v99)) fun (v139 : Int32) => bnd (v137 + v139) fun (v140 : Int32) => gd (gin 4 5) <| gd (gdec ((tNu F135) = (tNu T))) <| obd (f_X2_shift Hb F (tNu T) 1) fun x143 => gd (gin v99 (Int32.toNatClampNeg (nI (tN x1.2)))) <| bnd (F95 (Int32.toNatClampNeg v99)) fun (v145 : Int32) => if x143.1 = v145 then (some (1, (stSm F135 (upd (tSm F135) (Int32.toNatClampNeg 4) v140)), x143.2, x96)) else (some (0, (stSm F135 (upd (tSm F135) (Int32.toNatClampNeg 4) v140)), x143.2, x96))) 16 0 F125) 16 v99 F94) 16 0 x1.2 (fun _ => 0)) else (gd (glen (nI (tN x1.2)) 8) <| l_X3_shift_24 Hb F K (Int32.toNatClampNeg (nI (tN x1.2))) L xs lr (fun (a22 : Int32) (F23 : TD) (F24 : (Nat → Int32)) => obd (f_X3_keep lr F23 K) fun x25 => bnd ((nI (Int32.toNatClampNeg (nI (tN x1.2)))) - 1) fun (v28 : Int32) => l_X3_shift_56 v28 Hb F x25 F24 (Int32.toNatClampNeg (nI (tN x1.2))) L xs lr (fun (a37 : Int32) (F38 : TD) => l_X3_shift_95 v28 Hb F x25 F24 (Int32.toNatClampNeg (nI (tN x1.2))) L xs lr (fun (a63 : Int32) (F64 : TD) => gd (gin 4 5) <| bnd ((tSm F64) (Int32.toNatClampNeg 4)) fun (v66 : Int32) => bnd (v66 + 0) fun (v67 : Int32) => gd (gin 4 5) <| gd (gdec ((tNu F64) = (tNu T))) <| obd (f_X2_shift Hb F (tNu T) 0) fun x70 => gd (gin 0 (Int32.toNatClampNeg (nI (tN x1.2)))) <| bnd (F24 (Int32.toNatClampNeg 0)) fun (v72 : Int32) => if x70.1 = v72 then (some (1, (stSm F64 (upd (tSm F64) (Int32.toNatClampNeg 4) v67)), x70.2, x25)) else (some (0, (stSm F64 (upd (tSm F64) (Int32.toNatClampNeg 4) v67)), x70.2, x25))) 16 0 F38) 16 v28 F23) 16 0 x1.2 (fun _ => 0))
theorem pc_X3_shift : yX3_shift.cls = RX3 ∧ yX3_shift.cls ≠ "java/lang/invoke/MethodHandle" ∧ yX3_shift.cls ≠ "java/lang/invoke/VarHandle" ∧ (parseMethodDescriptor yX3_shift.desc).map (fun d => d.parameters.length) = some 0 := by decide +kernel
abbrev rm_X3_shift : Room := { frames := 5, cells := 3, slots := 37, locals := 125 }
set_option maxHeartbeats 4000000 in
set_option maxRecDepth 100000 in
theorem c_X3_shift (l : Launch) (dC : Nat → ClassId) (dI : Nat → Nat → Nat) (cI cF cJ cD : ClassId) (b L : Nat) (xs : Nat → Int32) (tA tB : Nat) (lr : Nat) (ot oh ou od ow oa ob ok os fa tr q0 q1 q2 q3 q4 q5 q6 q7 q8 : Nat) (rw : Nat → Option Nat) (rs : RS) (T : TD) (Hb : HB) (F : FR) (K : KO) (hq : f_X2_frameAt rw (tNu T) = some (some q0)) (hrs : rs.map Prod.snd = K) (res : (Int32 × TD × FR × KO)) (hf : f_X3_shift L xs lr T Hb F K = some res) (sz : Nat) : Met l yX3_shift (ws_ yX3_shift cX3_shift 5 (some .boolean)) rm_X3_shift (sbPre (dC, dI) (TY cI cF cJ cD) ((wTD cI cF cJ ot oh b ou od ow oa ob ok os T ++ (wHB cI cF cJ oh fa tr rw Hb ++ (wFR cI cF cJ q0 q1 q2 q3 q4 q5 q6 q7 q8 F ++ ([kOut cJ ok rs])))) ++ (kRows cI lr rs)) (fun sz U => EX b L xs tA tB (va_A ((wTD cI cF cJ ot oh b ou od ow oa ob ok os T ++ (wHB cI cF cJ oh fa tr rw Hb ++ (wFR cI cF cJ q0 q1 q2 q3 q4 q5 q6 q7 q8 F ++ ([kOut cJ ok rs])))) ++ (kRows cI lr rs)) sz) U) sz [.ref ot]) (va_Qi (fun (r : Int32) (u : Nat × RS) => r = res.1 ∧ u.2.map Prod.snd = res.2.2.2) (sbEnd (dC, dI) (fun (u : Nat × RS) => (wTD cI cF cJ ot oh b ou od ow oa ob u.1 os res.2.1 ++ (wHB cI cF cJ oh fa tr rw Hb ++ (wFR cI cF cJ q0 q1 q2 q3 q4 q5 q6 q7 q8 res.2.2.1 ++ ([kOut cJ u.1 u.2])))) ++ (kRows cI lr u.2)) (va_A ((wTD cI cF cJ ot oh b ou od ow oa ob ok os T ++ (wHB cI cF cJ oh fa tr rw Hb ++ (wFR cI cF cJ q0 q1 q2 q3 q4 q5 q6 q7 q8 F ++ ([kOut cJ ok rs])))) ++ (kRows cI lr rs)) sz)) (va_A ((wTD cI cF cJ ot oh b ou od ow oa ob ok os T ++ (wHB cI cF cJ oh fa tr rw Hb ++ (wFR cI cF cJ q0 q1 q2 q3 q4 q5 q6 q7 q8 F ++ ([kOut cJ ok rs])))) ++ (kRows cI lr rs)) sz)) 3 37 (va_A ((wTD cI cF cJ ot oh b ou od ow oa ob ok os T ++ (wHB cI cF cJ oh fa tr rw Hb ++ (wFR cI cF cJ q0 q1 q2 q3 q4 q5 q6 q7 q8 F ++ ([kOut cJ ok rs])))) ++ (kRows cI lr rs)) sz) := by
  refine Met.ofW (cc := cX3_shift) (maxL := 5) (ret := (some .boolean)) (by decide) rfl ?_
  intro p e s m args below meth c s₁ B hml hv
  obtain ⟨rfl, hsz, hP, hK, hD0, hE⟩ := hv
  have hx := B.exec
  have hb := B.bytes
  have hr := B.returns
  have hts0 := atoms_spec (ws := ws_ yX3_shift cX3_shift 5 (some .boolean)) B.pre
  have hts := fun (w : Cond) (h : w ∈ LW) => hts0 w (List.mem_cons_of_mem _ h)
  have hown : s.vm.findClass RX3 = some m.cls := findClass_of_methodNamed B.named
  have hlocks := B.notSynchronized
  subst hsz
  have hD := hD0.self (sz := s.heap.size)
  have hE : EX b L xs tA tB (va_A ((wTD cI cF cJ ot oh b ou od ow oa ob ok os T ++ (wHB cI cF cJ oh fa tr rw Hb ++ (wFR cI cF cJ q0 q1 q2 q3 q4 q5 q6 q7 q8 F ++ ([kOut cJ ok rs])))) ++ (kRows cI lr rs)) s.heap.size) s := hE
  generalize hAe : va_A ((wTD cI cF cJ ot oh b ou od ow oa ob ok os T ++ (wHB cI cF cJ oh fa tr rw Hb ++ (wFR cI cF cJ q0 q1 q2 q3 q4 q5 q6 q7 q8 F ++ ([kOut cJ ok rs])))) ++ (kRows cI lr rs)) s.heap.size = A at hD hE ⊢
  have hA : ∀ q : Nat, s.heap.size ≤ q → A q := fun q h => by rw [← hAe]; exact Or.inr h
  have hS : va_S A s.heap s.heap [] := va_S.rf
  have hkc := Nat.zero_le rm_X3_shift.cells
  have hks := Nat.zero_le rm_X3_shift.slots
  have hl := lv_entry ([.ref ot]) (n := 5) (Nat.le_of_ble_eq_true rfl)
  rw [lg_entry_eq]
  generalize (lg_sl ([.ref ot]) ++ List.replicate (5 - (lg_sl ([.ref ot])).length) Slot.unset).toArray = ls at hl ⊢
  have hl : lv_has ls 5 [(0, .ref ot)] := hl
  rw [f_X3_shift] at hf
  refine lv_aload_n hx hb dX3_shift_0 rfl (lv_at hl 0 rfl) ?_
  refine lv_iconst (v := 2) hx hb dX3_shift_1 (by decide) ?_
  obtain ⟨x1, hx1, hf⟩ := obd_e hf
  refine sbT_Vi (As := [.int 2]) (rest := []) ⟨hx, hb, hml, hown, hts⟩ (fun sz => c_X3_draw l dC dI cI cF cJ cD b L xs tA tB ot oh ou od ow oa ob ok os T 2  x1 hx1 sz) (cwV 1 hts (g_V q349 q350 q351 q352 q339) rfl rfl rfl pc_X3_draw ⟨Nat.le_of_ble_eq_true rfl, Nat.le_of_ble_eq_true rfl⟩) 0 3 rfl rfl hK hP hD hS hA [0, 1, 2, 3, 4, 5, 6] [7, 8, 9, 10, 11, 12, 13, 14, 15, 16, 17, 18] rfl rfl (by decide) (by decide) (by decide) EX_blind (fun U hU hW => EX_pass hE hS (va_free hD.left hS hA [0, 1, 2, 3, 4, 5, 6] rfl) hU hW) rfl rfl hl.1 (Nat.le_of_ble_eq_true rfl) dX3_shift_2 ⟨hkc, hks⟩ (fun r9 u H locs hr9 hP hD hS => ?_)
  have hr9 := Eq.symm hr9
  subst hr9
  have hP : va_P (dC, dI) vwCl ((wTD cI cF cJ ot oh b ou od ow oa ob ok os x1.2 ++ (wHB cI cF cJ oh fa tr rw Hb ++ (wFR cI cF cJ q0 q1 q2 q3 q4 q5 q6 q7 q8 F ++ ([kOut cJ ok rs])))) ++ (kRows cI lr rs)) H := va_P.part hP [12, 13, 14, 15, 16, 17, 18, 0, 1, 2, 3, 4, 5, 6, 7, 8, 9, 10, 11] rfl
  have hD : va_D A ((wTD cI cF cJ ot oh b ou od ow oa ob ok os x1.2 ++ (wHB cI cF cJ oh fa tr rw Hb ++ (wFR cI cF cJ q0 q1 q2 q3 q4 q5 q6 q7 q8 F ++ ([kOut cJ ok rs])))) ++ (kRows cI lr rs)) := va_D.part hD [12, 13, 14, 15, 16, 17, 18, 0, 1, 2, 3, 4, 5, 6, 7, 8, 9, 10, 11] (by decide) rfl
  refine lv_if_ne (tgt := 12) hx hb dX3_shift_5 (by decide) (fun c2 => ?_) (fun c2 => ?_)
  · have hf := ite_f hf c2
    refine lv_iconst (v := 0) hx hb dX3_shift_12 (by decide) ?_
    refine lv_istore_n (lv' := [(1, .int 0), (0, .ref ot)]) hx hb dX3_shift_13 rfl hl (by decide) rfl (fun ls hl => ?_)
    refine lv_aload_n hx hb dX3_shift_14 rfl (lv_at hl 1 rfl) ?_
    refine va_get (D := (dC, dI)) (ci := 3) (v := .ref ou) (C := RX3) (T := TX3) (N := 12) hx hb hts iX3 hown hK hP 0 rfl rfl 5 (by decide) (hts _ q345) (fun _ h9 => h9) rfl dX3_shift_15 ?_
    refine va_alen (v := (nI (tN x1.2))) hx hb hK hP 1 0 rfl rfl rfl dX3_shift_18 ?_
    obtain ⟨g4, hf⟩ := gd_e hf
    refine sb_newi hx hb (hts _ zq4) hK hP hD hS hA (glen_0 g4) rfl (glen_b g4 (by decide)) (Nat.le_of_ble_eq_true rfl) (glen_s g4 (Nat.le_of_ble_eq_true rfl)) dX3_shift_19 (fun n3 H hP hD hS => ?_)
    refine W.widen (k := 1) (n := 8) (Nat.le_refl _) (glen_w g4) ?_
    have hP := hP.swap
    have hD := hD.swap
    have hP : va_P (dC, dI) vwCl ((wTD cI cF cJ ot oh b ou od ow oa ob ok os x1.2 ++ (wHB cI cF cJ oh fa tr rw Hb ++ (wFR cI cF cJ q0 q1 q2 q3 q4 q5 q6 q7 q8 F ++ ([kOut cJ ok rs] ++ ([(n3, .inl (cI, (Int32.toNatClampNeg (nI (tN x1.2))), .inl (fun _ => 0)))]))))) ++ (kRows cI lr rs)) H := hP
    have hD : va_D A ((wTD cI cF cJ ot oh b ou od ow oa ob ok os x1.2 ++ (wHB cI cF cJ oh fa tr rw Hb ++ (wFR cI cF cJ q0 q1 q2 q3 q4 q5 q6 q7 q8 F ++ ([kOut cJ ok rs] ++ ([(n3, .inl (cI, (Int32.toNatClampNeg (nI (tN x1.2))), .inl (fun _ => 0)))]))))) ++ (kRows cI lr rs)) := hD
    refine lv_astore_n (lv' := [(2, .ref n3), (1, .int 0), (0, .ref ot)]) hx hb dX3_shift_21 rfl hl (by decide) rfl (fun ls hl => ?_)
    refine lv_iconst (v := 0) hx hb dX3_shift_22 (by decide) ?_
    refine lv_istore_n (lv' := [(3, .int 0), (2, .ref n3), (1, .int 0), (0, .ref ot)]) hx hb dX3_shift_23 rfl hl (by decide) rfl (fun ls hl => ?_)
    have L24 : ∀ (k : Int32 → TD → (Nat → Int32) → Option (Int32 × TD × FR × KO)), (∀ (a12 : Int32) (F13 : TD) (F14 : (Nat → Int32)) (H : Heap) (locs : List Loc) (ls : Array Slot), va_P (dC, dI) vwCl ((wTD cI cF cJ ot oh b ou od ow oa ob ok os F13 ++ (wHB cI cF cJ oh fa tr rw Hb ++ (wFR cI cF cJ q0 q1 q2 q3 q4 q5 q6 q7 q8 F ++ ([kOut cJ ok rs] ++ ([(n3, .inl (cI, (Int32.toNatClampNeg (nI (tN x1.2))), .inl F14))]))))) ++ (kRows cI lr rs)) H → va_D A ((wTD cI cF cJ ot oh b ou od ow oa ob ok os F13 ++ (wHB cI cF cJ oh fa tr rw Hb ++ (wFR cI cF cJ q0 q1 q2 q3 q4 q5 q6 q7 q8 F ++ ([kOut cJ ok rs] ++ ([(n3, .inl (cI, (Int32.toNatClampNeg (nI (tN x1.2))), .inl F14))]))))) ++ (kRows cI lr rs)) → va_S A s.heap H locs → lv_has ls 5 [(0, .ref ot), (1, .int 0), (2, .ref n3)] → k a12 F13 F14 = some res → W p l e (headSpec (ws_ yX3_shift cX3_shift 5 (some .boolean)) rm_X3_shift).room s m ([.ref ot].toArray) below meth c H locs 1 8 (MQ below (va_Qi (fun (r : Int32) (u : Nat × RS) => r = res.1 ∧ u.2.map Prod.snd = res.2.2.2) (sbEnd (dC, dI) (fun (u : Nat × RS) => (wTD cI cF cJ ot oh b ou od ow oa ob u.1 os res.2.1 ++ (wHB cI cF cJ oh fa tr rw Hb ++ (wFR cI cF cJ q0 q1 q2 q3 q4 q5 q6 q7 q8 res.2.2.1 ++ ([kOut cJ u.1 u.2])))) ++ (kRows cI lr u.2)) (A)) (A)) ([.ref ot].toArray) s 3 37 A) (F0 m 44 ls [])) → ∀ (n : Nat) (a12 : Int32) (F13 : TD) (F14 : (Nat → Int32)) (H : Heap) (locs : List Loc) (ls : Array Slot), va_P (dC, dI) vwCl ((wTD cI cF cJ ot oh b ou od ow oa ob ok os F13 ++ (wHB cI cF cJ oh fa tr rw Hb ++ (wFR cI cF cJ q0 q1 q2 q3 q4 q5 q6 q7 q8 F ++ ([kOut cJ ok rs] ++ ([(n3, .inl (cI, (Int32.toNatClampNeg (nI (tN x1.2))), .inl F14))]))))) ++ (kRows cI lr rs)) H → va_D A ((wTD cI cF cJ ot oh b ou od ow oa ob ok os F13 ++ (wHB cI cF cJ oh fa tr rw Hb ++ (wFR cI cF cJ q0 q1 q2 q3 q4 q5 q6 q7 q8 F ++ ([kOut cJ ok rs] ++ ([(n3, .inl (cI, (Int32.toNatClampNeg (nI (tN x1.2))), .inl F14))]))))) ++ (kRows cI lr rs)) → va_S A s.heap H locs → lv_has ls 5 [(3, .int a12), (0, .ref ot), (1, .int 0), (2, .ref n3)] → l_X3_shift_24 Hb F K (Int32.toNatClampNeg (nI (tN x1.2))) L xs lr k n a12 F13 F14 = some res → W p l e (headSpec (ws_ yX3_shift cX3_shift 5 (some .boolean)) rm_X3_shift).room s m ([.ref ot].toArray) below meth c H locs 1 8 (MQ below (va_Qi (fun (r : Int32) (u : Nat × RS) => r = res.1 ∧ u.2.map Prod.snd = res.2.2.2) (sbEnd (dC, dI) (fun (u : Nat × RS) => (wTD cI cF cJ ot oh b ou od ow oa ob u.1 os res.2.1 ++ (wHB cI cF cJ oh fa tr rw Hb ++ (wFR cI cF cJ q0 q1 q2 q3 q4 q5 q6 q7 q8 res.2.2.1 ++ ([kOut cJ u.1 u.2])))) ++ (kRows cI lr u.2)) (A)) (A)) ([.ref ot].toArray) s 3 37 A) (F0 m 24 ls []) := by
      intro k hk n
      induction n with
      | zero =>
        intro a15 F16 F17 H locs ls hP hD hS hl hf
        rw [l_X3_shift_24] at hf
        cases hf
      | succ n ih =>
        intro a15 F16 F17 H locs ls hP hD hS hl hf
        rw [l_X3_shift_24] at hf
        refine lv_iload_n hx hb dX3_shift_24 rfl (lv_at hl 0 rfl) ?_
        refine lv_aload_n hx hb dX3_shift_25 rfl (lv_at hl 3 rfl) ?_
        refine va_alen (v := (nI (Int32.toNatClampNeg (nI (tN x1.2))))) hx hb hK hP 19 0 rfl rfl rfl dX3_shift_26 ?_
        refine lv_icmp_ge (tgt := 44) hx hb dX3_shift_27 (by decide) (fun c18 => ?_) (fun c18 => ?_)
        · have hf := ite_t hf c18
          exact hk a15 F16 F17 _ _ _ hP hD hS (lv_sub hl [1, 2, 3] rfl) hf
        · have hf := ite_f hf c18
          refine lv_aload_n hx hb dX3_shift_30 rfl (lv_at hl 3 rfl) ?_
          refine lv_iload_n hx hb dX3_shift_31 rfl (lv_at hl 0 rfl) ?_
          refine lv_aload_n hx hb dX3_shift_32 rfl (lv_at hl 1 rfl) ?_
          refine lv_iload_n hx hb dX3_shift_33 rfl (lv_at hl 0 rfl) ?_
          obtain ⟨x19, hx19, hf⟩ := obd_e hf
          refine sbT_Vi (As := [.int a15]) (rest := [.int a15, .ref n3]) ⟨hx, hb, hml, hown, hts⟩ (fun sz => c_X3_value l dC dI cI cF cJ cD ot oh b ou od ow oa ob ok os F16 a15  x19 hx19 sz) (cwV 1 hts (g_V q369 q370 q371 q352 q366) rfl rfl rfl pc_X3_value ⟨Nat.le_of_ble_eq_true rfl, Nat.le_of_ble_eq_true rfl⟩) 0 3 rfl rfl hK hP hD hS hA [0, 1, 2, 3, 4, 5, 6] [7, 8, 9, 10, 11, 12, 13, 14, 15, 16, 17, 18, 19] rfl rfl (by decide) (by decide) (by decide) (fun _ _ _ _ h => h) (fun _ _ _ => trivial) rfl rfl hl.1 (Nat.le_of_ble_eq_true rfl) dX3_shift_34 ⟨Nat.le_of_ble_eq_true rfl, Nat.le_of_ble_eq_true rfl⟩ (fun r9 u H locs hr9 hP hD hS => ?_)
          have hr9 := Eq.symm hr9
          subst hr9
          have hP : va_P (dC, dI) vwCl ((wTD cI cF cJ ot oh b ou od ow oa ob ok os F16 ++ (wHB cI cF cJ oh fa tr rw Hb ++ (wFR cI cF cJ q0 q1 q2 q3 q4 q5 q6 q7 q8 F ++ ([kOut cJ ok rs] ++ ([(n3, .inl (cI, (Int32.toNatClampNeg (nI (tN x1.2))), .inl F17))]))))) ++ (kRows cI lr rs)) H := va_P.part hP [13, 14, 15, 16, 17, 18, 19, 0, 1, 2, 3, 4, 5, 6, 7, 8, 9, 10, 11, 12] rfl
          have hD : va_D A ((wTD cI cF cJ ot oh b ou od ow oa ob ok os F16 ++ (wHB cI cF cJ oh fa tr rw Hb ++ (wFR cI cF cJ q0 q1 q2 q3 q4 q5 q6 q7 q8 F ++ ([kOut cJ ok rs] ++ ([(n3, .inl (cI, (Int32.toNatClampNeg (nI (tN x1.2))), .inl F17))]))))) ++ (kRows cI lr rs)) := va_D.part hD [13, 14, 15, 16, 17, 18, 19, 0, 1, 2, 3, 4, 5, 6, 7, 8, 9, 10, 11, 12] (by decide) rfl
          obtain ⟨g20, hf⟩ := gd_e hf
          refine va_iast hx hb hK hP hD hS 19 0 rfl rfl (gin_in g20) dX3_shift_37 (fun H locs hP hD hS => ?_)
          have hP : va_P (dC, dI) vwCl ((wTD cI cF cJ ot oh b ou od ow oa ob ok os F16 ++ (wHB cI cF cJ oh fa tr rw Hb ++ (wFR cI cF cJ q0 q1 q2 q3 q4 q5 q6 q7 q8 F ++ ([kOut cJ ok rs] ++ ([(n3, .inl (cI, (Int32.toNatClampNeg (nI (tN x1.2))), .inl (upd F17 (Int32.toNatClampNeg a15) x19)))]))))) ++ (kRows cI lr rs)) H := hP
          have hD : va_D A ((wTD cI cF cJ ot oh b ou od ow oa ob ok os F16 ++ (wHB cI cF cJ oh fa tr rw Hb ++ (wFR cI cF cJ q0 q1 q2 q3 q4 q5 q6 q7 q8 F ++ ([kOut cJ ok rs] ++ ([(n3, .inl (cI, (Int32.toNatClampNeg (nI (tN x1.2))), .inl (upd F17 (Int32.toNatClampNeg a15) x19)))]))))) ++ (kRows cI lr rs)) := hD
          obtain ⟨v21, ev21⟩ : ∃ y : Int32, y = a15 + 1 := ⟨_, rfl⟩
          have hf := bnd_all hf v21 ev21
          refine lv_iinc (v := v21) (lv' := [(3, .int v21), (0, .ref ot), (1, .int 0), (2, .ref n3)]) hx hb dX3_shift_38 hl (k := 0) rfl (by rw [ev21]; rfl) (by decide) rfl (fun ls hl => ?_)
          refine lv_goto (tgt := 24) hx hb dX3_shift_41 (by decide) ?_
          exact ih v21 F16 (upd F17 (Int32.toNatClampNeg a15) x19) _ _ _ hP hD hS (lv_sub hl [0, 1, 2, 3] rfl) hf
    refine L24 _ (fun a22 F23 F24 H locs ls hP hD hS hl hf => ?_) 16 0 x1.2 (fun _ => 0) _ _ _ hP hD hS (lv_sub hl [0, 3, 2, 1] rfl) hf
    refine lv_aload_n hx hb dX3_shift_44 rfl (lv_at hl 0 rfl) ?_
    obtain ⟨x25, hx25, hf⟩ := obd_e hf
    refine sbP_Vv (As := []) (rest := []) ⟨hx, hb, hml, hown, hts⟩ (fun sz => c_X3_keep l dC dI cI cF cJ cD b L xs tA tB lr ot oh ou od ow oa ob ok os rs F23 K hrs x25 hx25 sz) (cwV 0 hts (g_V q409 q410 q411 q352 q373) rfl rfl rfl pc_X3_keep ⟨Nat.le_of_ble_eq_true rfl, Nat.le_of_ble_eq_true rfl⟩) 0 3 rfl rfl hK hP hD hS hA [0, 1, 2, 3, 4, 5, 6, 18] [7, 8, 9, 10, 11, 12, 13, 14, 15, 16, 17, 19] rfl rfl (by decide) (by decide) (by decide) EX_blind (fun U hU hW => EX_pass hE hS (va_freeP hD hS hA [0, 1, 2, 3, 4, 5, 6, 18] rfl) hU hW) rfl rfl hl.1 (Nat.le_of_ble_eq_true rfl) dX3_shift_45 ⟨Nat.le_of_ble_eq_true rfl, Nat.le_of_ble_eq_true rfl⟩ (fun u H locs hr9 hP hD hS => ?_)
    refine W.widen (k := 3) (n := 37) (Nat.le_refl _) (Nat.le_refl _) ?_
    have hrs27 := hr9
    obtain ⟨n26, rs27⟩ := u
    have hP : va_P (dC, dI) vwCl ((wTD cI cF cJ ot oh b ou od ow oa ob n26 os F23 ++ (wHB cI cF cJ oh fa tr rw Hb ++ (wFR cI cF cJ q0 q1 q2 q3 q4 q5 q6 q7 q8 F ++ ([kOut cJ n26 rs27] ++ ([(n3, .inl (cI, (Int32.toNatClampNeg (nI (tN x1.2))), .inl F24))]))))) ++ (kRows cI lr rs27)) H := va_P.part hP [12, 13, 14, 15, 16, 17, 18, 0, 1, 2, 3, 4, 5, 6, 7, 8, 9, 10, 19, 11] rfl
    have hD : va_D A ((wTD cI cF cJ ot oh b ou od ow oa ob n26 os F23 ++ (wHB cI cF cJ oh fa tr rw Hb ++ (wFR cI cF cJ q0 q1 q2 q3 q4 q5 q6 q7 q8 F ++ ([kOut cJ n26 rs27] ++ ([(n3, .inl (cI, (Int32.toNatClampNeg (nI (tN x1.2))), .inl F24))]))))) ++ (kRows cI lr rs27)) := va_D.part hD [12, 13, 14, 15, 16, 17, 18, 0, 1, 2, 3, 4, 5, 6, 7, 8, 9, 10, 19, 11] (by decide) rfl
    refine lv_aload_n hx hb dX3_shift_48 rfl (lv_at hl 2 rfl) ?_
    refine va_alen (v := (nI (Int32.toNatClampNeg (nI (tN x1.2))))) hx hb hK hP 19 0 rfl rfl rfl dX3_shift_49 ?_
    refine lv_iconst (v := 1) hx hb dX3_shift_50 (by decide) ?_
    refine lv_isub hx hb dX3_shift_51 ?_
    refine lv_topi (fun v28 ev28 => ?_)
    have hf := bnd_all hf v28 ev28
    refine lv_istore_n (lv' := [(3, .int v28), (0, .ref ot), (1, .int 0), (2, .ref n3)]) hx hb dX3_shift_52 rfl hl (by decide) rfl (fun ls hl => ?_)
    refine lv_iload_n hx hb dX3_shift_53 rfl (lv_at hl 0 rfl) ?_
    refine lv_istore (lv' := [(4, .int v28), (3, .int v28), (0, .ref ot), (1, .int 0), (2, .ref n3)]) hx hb dX3_shift_54 hl (by decide) rfl (fun ls hl => ?_)
    have L56 : ∀ (k : Int32 → TD → Option (Int32 × TD × FR × KO)), (∀ (a32 : Int32) (F33 : TD) (H : Heap) (locs : List Loc) (ls : Array Slot), va_P (dC, dI) vwCl ((wTD cI cF cJ ot oh b ou od ow oa ob n26 os F33 ++ (wHB cI cF cJ oh fa tr rw Hb ++ (wFR cI cF cJ q0 q1 q2 q3 q4 q5 q6 q7 q8 F ++ ([kOut cJ n26 rs27] ++ ([(n3, .inl (cI, (Int32.toNatClampNeg (nI (tN x1.2))), .inl F24))]))))) ++ (kRows cI lr rs27)) H → va_D A ((wTD cI cF cJ ot oh b ou od ow oa ob n26 os F33 ++ (wHB cI cF cJ oh fa tr rw Hb ++ (wFR cI cF cJ q0 q1 q2 q3 q4 q5 q6 q7 q8 F ++ ([kOut cJ n26 rs27] ++ ([(n3, .inl (cI, (Int32.toNatClampNeg (nI (tN x1.2))), .inl F24))]))))) ++ (kRows cI lr rs27)) → va_S A s.heap H locs → lv_has ls 5 [(0, .ref ot), (1, .int 0), (2, .ref n3), (3, .int v28)] → k a32 F33 = some res → W p l e (headSpec (ws_ yX3_shift cX3_shift 5 (some .boolean)) rm_X3_shift).room s m ([.ref ot].toArray) below meth c H locs 3 37 (MQ below (va_Qi (fun (r : Int32) (u : Nat × RS) => r = res.1 ∧ u.2.map Prod.snd = res.2.2.2) (sbEnd (dC, dI) (fun (u : Nat × RS) => (wTD cI cF cJ ot oh b ou od ow oa ob u.1 os res.2.1 ++ (wHB cI cF cJ oh fa tr rw Hb ++ (wFR cI cF cJ q0 q1 q2 q3 q4 q5 q6 q7 q8 res.2.2.1 ++ ([kOut cJ u.1 u.2])))) ++ (kRows cI lr u.2)) (A)) (A)) ([.ref ot].toArray) s 3 37 A) (F0 m 92 ls [])) → ∀ (n : Nat) (a32 : Int32) (F33 : TD) (H : Heap) (locs : List Loc) (ls : Array Slot), va_P (dC, dI) vwCl ((wTD cI cF cJ ot oh b ou od ow oa ob n26 os F33 ++ (wHB cI cF cJ oh fa tr rw Hb ++ (wFR cI cF cJ q0 q1 q2 q3 q4 q5 q6 q7 q8 F ++ ([kOut cJ n26 rs27] ++ ([(n3, .inl (cI, (Int32.toNatClampNeg (nI (tN x1.2))), .inl F24))]))))) ++ (kRows cI lr rs27)) H → va_D A ((wTD cI cF cJ ot oh b ou od ow oa ob n26 os F33 ++ (wHB cI cF cJ oh fa tr rw Hb ++ (wFR cI cF cJ q0 q1 q2 q3 q4 q5 q6 q7 q8 F ++ ([kOut cJ n26 rs27] ++ ([(n3, .inl (cI, (Int32.toNatClampNeg (nI (tN x1.2))), .inl F24))]))))) ++ (kRows cI lr rs27)) → va_S A s.heap H locs → lv_has ls 5 [(4, .int a32), (0, .ref ot), (1, .int 0), (2, .ref n3), (3, .int v28)] → l_X3_shift_56 v28 Hb F x25 F24 (Int32.toNatClampNeg (nI (tN x1.2))) L xs lr k n a32 F33 = some res → W p l e (headSpec (ws_ yX3_shift cX3_shift 5 (some .boolean)) rm_X3_shift).room s m ([.ref ot].toArray) below meth c H locs 3 37 (MQ below (va_Qi (fun (r : Int32) (u : Nat × RS) => r = res.1 ∧ u.2.map Prod.snd = res.2.2.2) (sbEnd (dC, dI) (fun (u : Nat × RS) => (wTD cI cF cJ ot oh b ou od ow oa ob u.1 os res.2.1 ++ (wHB cI cF cJ oh fa tr rw Hb ++ (wFR cI cF cJ q0 q1 q2 q3 q4 q5 q6 q7 q8 res.2.2.1 ++ ([kOut cJ u.1 u.2])))) ++ (kRows cI lr u.2)) (A)) (A)) ([.ref ot].toArray) s 3 37 A) (F0 m 56 ls []) := by
      intro k hk n
      induction n with
      | zero =>
        intro a34 F35 H locs ls hP hD hS hl hf
        rw [l_X3_shift_56] at hf
        cases hf
      | succ n ih =>
        intro a34 F35 H locs ls hP hD hS hl hf
        rw [l_X3_shift_56] at hf
        refine lv_iload hx hb dX3_shift_56 (lv_at hl 0 rfl) ?_
        refine lv_if_lt (tgt := 92) hx hb dX3_shift_58 (by decide) (fun c36 => ?_) (fun c36 => ?_)
        · have hf := ite_t hf c36
          exact hk a34 F35 _ _ _ hP hD hS (lv_sub hl [1, 2, 3, 4] rfl) hf
        · have hf := ite_f hf c36
          refine lv_iload_n hx hb dX3_shift_61 rfl (lv_at hl 2 rfl) ?_
          refine lv_if_eq (tgt := 92) hx hb dX3_shift_62 (by decide) (fun _ => ?_) (fun c9 => absurd (by decide) c9)
          exact hk a34 F35 _ _ _ hP hD hS (lv_sub hl [1, 2, 3, 4] rfl) hf
    refine L56 _ (fun a37 F38 H locs ls hP hD hS hl hf => ?_) 16 v28 F23 _ _ _ hP hD hS (lv_sub hl [0, 2, 3, 4, 1] rfl) hf
    refine lv_iconst (v := 0) hx hb dX3_shift_92 (by decide) ?_
    refine lv_istore (lv' := [(4, .int 0), (0, .ref ot), (1, .int 0), (2, .ref n3), (3, .int v28)]) hx hb dX3_shift_93 hl (by decide) rfl (fun ls hl => ?_)
    have L95 : ∀ (k : Int32 → TD → Option (Int32 × TD × FR × KO)), (∀ (a50 : Int32) (F51 : TD) (H : Heap) (locs : List Loc) (ls : Array Slot), va_P (dC, dI) vwCl ((wTD cI cF cJ ot oh b ou od ow oa ob n26 os F51 ++ (wHB cI cF cJ oh fa tr rw Hb ++ (wFR cI cF cJ q0 q1 q2 q3 q4 q5 q6 q7 q8 F ++ ([kOut cJ n26 rs27] ++ ([(n3, .inl (cI, (Int32.toNatClampNeg (nI (tN x1.2))), .inl F24))]))))) ++ (kRows cI lr rs27)) H → va_D A ((wTD cI cF cJ ot oh b ou od ow oa ob n26 os F51 ++ (wHB cI cF cJ oh fa tr rw Hb ++ (wFR cI cF cJ q0 q1 q2 q3 q4 q5 q6 q7 q8 F ++ ([kOut cJ n26 rs27] ++ ([(n3, .inl (cI, (Int32.toNatClampNeg (nI (tN x1.2))), .inl F24))]))))) ++ (kRows cI lr rs27)) → va_S A s.heap H locs → lv_has ls 5 [(0, .ref ot), (1, .int 0), (2, .ref n3), (3, .int v28)] → k a50 F51 = some res → W p l e (headSpec (ws_ yX3_shift cX3_shift 5 (some .boolean)) rm_X3_shift).room s m ([.ref ot].toArray) below meth c H locs 3 37 (MQ below (va_Qi (fun (r : Int32) (u : Nat × RS) => r = res.1 ∧ u.2.map Prod.snd = res.2.2.2) (sbEnd (dC, dI) (fun (u : Nat × RS) => (wTD cI cF cJ ot oh b ou od ow oa ob u.1 os res.2.1 ++ (wHB cI cF cJ oh fa tr rw Hb ++ (wFR cI cF cJ q0 q1 q2 q3 q4 q5 q6 q7 q8 res.2.2.1 ++ ([kOut cJ u.1 u.2])))) ++ (kRows cI lr u.2)) (A)) (A)) ([.ref ot].toArray) s 3 37 A) (F0 m 133 ls [])) → ∀ (n : Nat) (a50 : Int32) (F51 : TD) (H : Heap) (locs : List Loc) (ls : Array Slot), va_P (dC, dI) vwCl ((wTD cI cF cJ ot oh b ou od ow oa ob n26 os F51 ++ (wHB cI cF cJ oh fa tr rw Hb ++ (wFR cI cF cJ q0 q1 q2 q3 q4 q5 q6 q7 q8 F ++ ([kOut cJ n26 rs27] ++ ([(n3, .inl (cI, (Int32.toNatClampNeg (nI (tN x1.2))), .inl F24))]))))) ++ (kRows cI lr rs27)) H → va_D A ((wTD cI cF cJ ot oh b ou od ow oa ob n26 os F51 ++ (wHB cI cF cJ oh fa tr rw Hb ++ (wFR cI cF cJ q0 q1 q2 q3 q4 q5 q6 q7 q8 F ++ ([kOut cJ n26 rs27] ++ ([(n3, .inl (cI, (Int32.toNatClampNeg (nI (tN x1.2))), .inl F24))]))))) ++ (kRows cI lr rs27)) → va_S A s.heap H locs → lv_has ls 5 [(4, .int a50), (0, .ref ot), (1, .int 0), (2, .ref n3), (3, .int v28)] → l_X3_shift_95 v28 Hb F x25 F24 (Int32.toNatClampNeg (nI (tN x1.2))) L xs lr k n a50 F51 = some res → W p l e (headSpec (ws_ yX3_shift cX3_shift 5 (some .boolean)) rm_X3_shift).room s m ([.ref ot].toArray) below meth c H locs 3 37 (MQ below (va_Qi (fun (r : Int32) (u : Nat × RS) => r = res.1 ∧ u.2.map Prod.snd = res.2.2.2) (sbEnd (dC, dI) (fun (u : Nat × RS) => (wTD cI cF cJ ot oh b ou od ow oa ob u.1 os res.2.1 ++ (wHB cI cF cJ oh fa tr rw Hb ++ (wFR cI cF cJ q0 q1 q2 q3 q4 q5 q6 q7 q8 res.2.2.1 ++ ([kOut cJ u.1 u.2])))) ++ (kRows cI lr u.2)) (A)) (A)) ([.ref ot].toArray) s 3 37 A) (F0 m 95 ls []) := by
      intro k hk n
      induction n with
      | zero =>
        intro a52 F53 H locs ls hP hD hS hl hf
        rw [l_X3_shift_95] at hf
        cases hf
      | succ n ih =>
        intro a52 F53 H locs ls hP hD hS hl hf
        rw [l_X3_shift_95] at hf
        refine lv_iload hx hb dX3_shift_95 (lv_at hl 0 rfl) ?_
        refine lv_iload_n hx hb dX3_shift_97 rfl (lv_at hl 4 rfl) ?_
        refine lv_icmp_gt (tgt := 133) hx hb dX3_shift_98 (by decide) (fun c54 => ?_) (fun c54 => ?_)
        · have hf := ite_t hf c54
          exact hk a52 F53 _ _ _ hP hD hS (lv_sub hl [1, 2, 3, 4] rfl) hf
        · have hf := ite_f hf c54
          refine lv_iload_n hx hb dX3_shift_101 rfl (lv_at hl 2 rfl) ?_
          refine lv_if_ne (tgt := 133) hx hb dX3_shift_102 (by decide) (fun c9 => absurd (by decide) c9) (fun _ => ?_)
          refine lv_aload_n hx hb dX3_shift_105 rfl (lv_at hl 1 rfl) ?_
          refine lv_iload hx hb dX3_shift_106 (lv_at hl 0 rfl) ?_
          refine lv_iload hx hb dX3_shift_108 (lv_at hl 0 rfl) ?_
          refine lv_iload_n hx hb dX3_shift_110 rfl (lv_at hl 4 rfl) ?_
          refine lv_icmp_ne (tgt := 118) hx hb dX3_shift_111 (by decide) (fun c55 => ?_) (fun c55 => ?_)
          · have hf := ite_f hf c55
            refine lv_aload_n hx hb dX3_shift_118 rfl (lv_at hl 3 rfl) ?_
            refine lv_iload hx hb dX3_shift_119 (lv_at hl 0 rfl) ?_
            refine lv_iconst (v := 1) hx hb dX3_shift_121 (by decide) ?_
            refine lv_iadd hx hb dX3_shift_122 ?_
            refine lv_topi (fun v56 ev56 => ?_)
            have hf := bnd_all hf v56 ev56
            obtain ⟨g57, hf⟩ := gd_e hf
            refine va_iald hx hb hK hP 19 0 rfl rfl (gin_in g57) dX3_shift_123 ?_
            refine lv_topi (fun v58 ev58 => ?_)
            have hf := bnd_all hf v58 ev58
            obtain ⟨x59, hx59, hf⟩ := obd_e hf
            refine sbT_Vv (As := [.int a52, .int v58]) (rest := []) ⟨hx, hb, hml, hown, hts⟩ (fun sz => c_X3_set l dC dI cI cF cJ cD ot oh b ou od ow oa ob n26 os F53 a52 v58  x59 hx59 sz) (cwV 2 hts (g_V q394 q395 q396 q352 q393) rfl rfl rfl pc_X3_set ⟨Nat.le_of_ble_eq_true rfl, Nat.le_of_ble_eq_true rfl⟩) 0 3 rfl rfl hK hP hD hS hA [0, 1, 2, 3, 4, 5, 6] [7, 8, 9, 10, 11, 12, 13, 14, 15, 16, 17, 18, 19] rfl rfl (by decide) (by decide) (by decide) (fun _ _ _ _ h => h) (fun _ _ _ => trivial) rfl rfl hl.1 (Nat.le_of_ble_eq_true rfl) dX3_shift_124 ⟨Nat.le_of_ble_eq_true rfl, Nat.le_of_ble_eq_true rfl⟩ (fun u H locs hr9 hP hD hS => ?_)
            have hP : va_P (dC, dI) vwCl ((wTD cI cF cJ ot oh b ou od ow oa ob n26 os x59 ++ (wHB cI cF cJ oh fa tr rw Hb ++ (wFR cI cF cJ q0 q1 q2 q3 q4 q5 q6 q7 q8 F ++ ([kOut cJ n26 rs27] ++ ([(n3, .inl (cI, (Int32.toNatClampNeg (nI (tN x1.2))), .inl F24))]))))) ++ (kRows cI lr rs27)) H := va_P.part hP [13, 14, 15, 16, 17, 18, 19, 0, 1, 2, 3, 4, 5, 6, 7, 8, 9, 10, 11, 12] rfl
            have hD : va_D A ((wTD cI cF cJ ot oh b ou od ow oa ob n26 os x59 ++ (wHB cI cF cJ oh fa tr rw Hb ++ (wFR cI cF cJ q0 q1 q2 q3 q4 q5 q6 q7 q8 F ++ ([kOut cJ n26 rs27] ++ ([(n3, .inl (cI, (Int32.toNatClampNeg (nI (tN x1.2))), .inl F24))]))))) ++ (kRows cI lr rs27)) := va_D.part hD [13, 14, 15, 16, 17, 18, 19, 0, 1, 2, 3, 4, 5, 6, 7, 8, 9, 10, 11, 12] (by decide) rfl
            obtain ⟨v60, ev60⟩ : ∃ y : Int32, y = a52 + 1 := ⟨_, rfl⟩
            have hf := bnd_all hf v60 ev60
            refine lv_iinc (v := v60) (lv' := [(4, .int v60), (0, .ref ot), (1, .int 0), (2, .ref n3), (3, .int v28)]) hx hb dX3_shift_127 hl (k := 0) rfl (by rw [ev60]; rfl) (by decide) rfl (fun ls hl => ?_)
            refine lv_goto (tgt := 95) hx hb dX3_shift_130 (by decide) ?_
            exact ih v60 x59 _ _ _ hP hD hS (lv_sub hl [0, 1, 2, 3, 4] rfl) hf
          · have hf := ite_t hf c55
            refine lv_iconst (v := 0) hx hb dX3_shift_114 (by decide) ?_
            refine lv_goto (tgt := 124) hx hb dX3_shift_115 (by decide) ?_
            obtain ⟨x61, hx61, hf⟩ := obd_e hf
            refine sbT_Vv (As := [.int a52, .int 0]) (rest := []) ⟨hx, hb, hml, hown, hts⟩ (fun sz => c_X3_set l dC dI cI cF cJ cD ot oh b ou od ow oa ob n26 os F53 a52 0  x61 hx61 sz) (cwV 2 hts (g_V q394 q395 q396 q352 q393) rfl rfl rfl pc_X3_set ⟨Nat.le_of_ble_eq_true rfl, Nat.le_of_ble_eq_true rfl⟩) 0 3 rfl rfl hK hP hD hS hA [0, 1, 2, 3, 4, 5, 6] [7, 8, 9, 10, 11, 12, 13, 14, 15, 16, 17, 18, 19] rfl rfl (by decide) (by decide) (by decide) (fun _ _ _ _ h => h) (fun _ _ _ => trivial) rfl rfl hl.1 (Nat.le_of_ble_eq_true rfl) dX3_shift_124 ⟨Nat.le_of_ble_eq_true rfl, Nat.le_of_ble_eq_true rfl⟩ (fun u H locs hr9 hP hD hS => ?_)
            have hP : va_P (dC, dI) vwCl ((wTD cI cF cJ ot oh b ou od ow oa ob n26 os x61 ++ (wHB cI cF cJ oh fa tr rw Hb ++ (wFR cI cF cJ q0 q1 q2 q3 q4 q5 q6 q7 q8 F ++ ([kOut cJ n26 rs27] ++ ([(n3, .inl (cI, (Int32.toNatClampNeg (nI (tN x1.2))), .inl F24))]))))) ++ (kRows cI lr rs27)) H := va_P.part hP [13, 14, 15, 16, 17, 18, 19, 0, 1, 2, 3, 4, 5, 6, 7, 8, 9, 10, 11, 12] rfl
            have hD : va_D A ((wTD cI cF cJ ot oh b ou od ow oa ob n26 os x61 ++ (wHB cI cF cJ oh fa tr rw Hb ++ (wFR cI cF cJ q0 q1 q2 q3 q4 q5 q6 q7 q8 F ++ ([kOut cJ n26 rs27] ++ ([(n3, .inl (cI, (Int32.toNatClampNeg (nI (tN x1.2))), .inl F24))]))))) ++ (kRows cI lr rs27)) := va_D.part hD [13, 14, 15, 16, 17, 18, 19, 0, 1, 2, 3, 4, 5, 6, 7, 8, 9, 10, 11, 12] (by decide) rfl
            obtain ⟨v62, ev62⟩ : ∃ y : Int32, y = a52 + 1 := ⟨_, rfl⟩
            have hf := bnd_all hf v62 ev62
            refine lv_iinc (v := v62) (lv' := [(4, .int v62), (0, .ref ot), (1, .int 0), (2, .ref n3), (3, .int v28)]) hx hb dX3_shift_127 hl (k := 0) rfl (by rw [ev62]; rfl) (by decide) rfl (fun ls hl => ?_)
            refine lv_goto (tgt := 95) hx hb dX3_shift_130 (by decide) ?_
            exact ih v62 x61 _ _ _ hP hD hS (lv_sub hl [0, 1, 2, 3, 4] rfl) hf
    refine L95 _ (fun a63 F64 H locs ls hP hD hS hl hf => ?_) 16 0 F38 _ _ _ hP hD hS (lv_sub hl [0, 1, 2, 3, 4] rfl) hf
    refine lv_aload_n hx hb dX3_shift_133 rfl (lv_at hl 0 rfl) ?_
    refine va_get (D := (dC, dI)) (ci := 3) (v := .ref os) (C := RX3) (T := TX3) (N := 12) hx hb hts iX3 hown hK hP 0 rfl rfl 9 (by decide) (hts _ q331) (fun _ h9 => h9) rfl dX3_shift_134 ?_
    refine lv_iconst (v := 4) hx hb dX3_shift_137 (by decide) ?_
    refine lv_dup2_11 hx hb dX3_shift_138 rfl rfl ?_
    obtain ⟨g65, hf⟩ := gd_e hf
    refine va_iald hx hb hK hP 6 0 rfl rfl (gin_in g65) dX3_shift_139 ?_
    refine lv_topi (fun v66 ev66 => ?_)
    have hf := bnd_all hf v66 ev66
    refine lv_iload_n hx hb dX3_shift_140 rfl (lv_at hl 1 rfl) ?_
    refine lv_if_eq (tgt := 150) hx hb dX3_shift_141 (by decide) (fun _ => ?_) (fun c9 => absurd (by decide) c9)
    refine lv_iconst (v := 0) hx hb dX3_shift_150 (by decide) ?_
    refine lv_iadd hx hb dX3_shift_151 ?_
    refine lv_topi (fun v67 ev67 => ?_)
    have hf := bnd_all hf v67 ev67
    obtain ⟨g68, hf⟩ := gd_e hf
    refine va_iast hx hb hK hP hD hS 6 0 rfl rfl (gin_in g68) dX3_shift_152 (fun H locs hP hD hS => ?_)
    have hP : va_P (dC, dI) vwCl ((wTD cI cF cJ ot oh b ou od ow oa ob n26 os (stSm F64 (upd (tSm F64) (Int32.toNatClampNeg 4) v67)) ++ (wHB cI cF cJ oh fa tr rw Hb ++ (wFR cI cF cJ q0 q1 q2 q3 q4 q5 q6 q7 q8 F ++ ([kOut cJ n26 rs27] ++ ([(n3, .inl (cI, (Int32.toNatClampNeg (nI (tN x1.2))), .inl F24))]))))) ++ (kRows cI lr rs27)) H := hP
    have hD : va_D A ((wTD cI cF cJ ot oh b ou od ow oa ob n26 os (stSm F64 (upd (tSm F64) (Int32.toNatClampNeg 4) v67)) ++ (wHB cI cF cJ oh fa tr rw Hb ++ (wFR cI cF cJ q0 q1 q2 q3 q4 q5 q6 q7 q8 F ++ ([kOut cJ n26 rs27] ++ ([(n3, .inl (cI, (Int32.toNatClampNeg (nI (tN x1.2))), .inl F24))]))))) ++ (kRows cI lr rs27)) := hD
    refine lv_aload_n hx hb dX3_shift_153 rfl (lv_at hl 0 rfl) ?_
    refine va_get (D := (dC, dI)) (ci := 3) (v := .ref oh) (C := RX3) (T := TX3) (N := 12) hx hb hts iX3 hown hK hP 0 rfl rfl 0 (by decide) (hts _ q332) (fun _ h9 => h9) rfl dX3_shift_154 ?_
    refine lv_aload_n hx hb dX3_shift_157 rfl (lv_at hl 0 rfl) ?_
    refine va_get (D := (dC, dI)) (ci := 3) (v := .int (tNu F64)) (C := RX3) (T := TX3) (N := 12) hx hb hts iX3 hown hK hP 0 rfl rfl 3 (by decide) (hts _ q343) (fun _ h9 => h9) rfl dX3_shift_158 ?_
    obtain ⟨g69, hf⟩ := gd_e hf
    refine sb_topv (v' := .int (tNu T)) (congrArg Value.int (gdec_e g69)) ?_
    refine lv_iload_n hx hb dX3_shift_161 rfl (lv_at hl 1 rfl) ?_
    obtain ⟨x70, hx70, hf⟩ := obd_e hf
    refine sbT_Vi (As := [.int (tNu T), .int 0]) (rest := []) ⟨hx, hb, hml, hown, hts⟩ (fun sz => c_X2_shift l dC dI cI cF cJ cD oh fa tr q0 q1 q2 q3 q4 q5 q6 q7 q8 rw Hb F (tNu T) 0 hq x70 hx70 sz) (cwV 2 hts (g_V q438 q439 q440 q172 q232) rfl rfl rfl pc_X2_shift ⟨Nat.le_of_ble_eq_true rfl, Nat.le_of_ble_eq_true rfl⟩) 0 2 rfl rfl hK hP hD hS hA [7, 8, 9, 10, 11, 12, 13, 14, 15, 16, 17] [0, 1, 2, 3, 4, 5, 6, 18, 19] rfl rfl (by decide) (by decide) (by decide) (fun _ _ _ _ h => h) (fun _ _ _ => trivial) rfl rfl hl.1 (Nat.le_of_ble_eq_true rfl) dX3_shift_162 ⟨Nat.le_of_ble_eq_true rfl, Nat.le_of_ble_eq_true rfl⟩ (fun r9 u H locs hr9 hP hD hS => ?_)
    have hr9 := Eq.symm hr9
    subst hr9
    have hP : va_P (dC, dI) vwCl ((wTD cI cF cJ ot oh b ou od ow oa ob n26 os (stSm F64 (upd (tSm F64) (Int32.toNatClampNeg 4) v67)) ++ (wHB cI cF cJ oh fa tr rw Hb ++ (wFR cI cF cJ q0 q1 q2 q3 q4 q5 q6 q7 q8 x70.2 ++ ([kOut cJ n26 rs27] ++ ([(n3, .inl (cI, (Int32.toNatClampNeg (nI (tN x1.2))), .inl F24))]))))) ++ (kRows cI lr rs27)) H := va_P.part hP [0, 1, 2, 3, 4, 5, 6, 9, 10, 11, 12, 13, 14, 15, 16, 17, 18, 19, 7, 8] rfl
    have hD : va_D A ((wTD cI cF cJ ot oh b ou od ow oa ob n26 os (stSm F64 (upd (tSm F64) (Int32.toNatClampNeg 4) v67)) ++ (wHB cI cF cJ oh fa tr rw Hb ++ (wFR cI cF cJ q0 q1 q2 q3 q4 q5 q6 q7 q8 x70.2 ++ ([kOut cJ n26 rs27] ++ ([(n3, .inl (cI, (Int32.toNatClampNeg (nI (tN x1.2))), .inl F24))]))))) ++ (kRows cI lr rs27)) := va_D.part hD [0, 1, 2, 3, 4, 5, 6, 9, 10, 11, 12, 13, 14, 15, 16, 17, 18, 19, 7, 8] (by decide) rfl
    refine lv_iload_n hx hb dX3_shift_165 rfl (lv_at hl 1 rfl) ?_
    refine lv_if_eq (tgt := 175) hx hb dX3_shift_166 (by decide) (fun _ => ?_) (fun c9 => absurd (by decide) c9)
    refine lv_aload_n hx hb dX3_shift_175 rfl (lv_at hl 2 rfl) ?_
    refine lv_iconst (v := 0) hx hb dX3_shift_176 (by decide) ?_
    obtain ⟨g71, hf⟩ := gd_e hf
    refine va_iald hx hb hK hP 19 0 rfl rfl (gin_in g71) dX3_shift_177 ?_
    refine lv_topi (fun v72 ev72 => ?_)
    have hf := bnd_all hf v72 ev72
    refine lv_icmp_ne (tgt := 185) hx hb dX3_shift_178 (by decide) (fun c73 => ?_) (fun c73 => ?_)
    · have hf := ite_f hf c73
      refine lv_iconst (v := 0) hx hb dX3_shift_185 (by decide) ?_
      have hP : va_P (dC, dI) vwCl ((wTD cI cF cJ ot oh b ou od ow oa ob n26 os (stSm F64 (upd (tSm F64) (Int32.toNatClampNeg 4) v67)) ++ (wHB cI cF cJ oh fa tr rw Hb ++ (wFR cI cF cJ q0 q1 q2 q3 q4 q5 q6 q7 q8 x70.2 ++ ([kOut cJ n26 rs27])))) ++ (kRows cI lr rs27)) H := va_P.part hP [0, 1, 2, 3, 4, 5, 6, 7, 8, 9, 10, 11, 12, 13, 14, 15, 16, 17, 18] rfl
      have hD : va_D A ((wTD cI cF cJ ot oh b ou od ow oa ob n26 os (stSm F64 (upd (tSm F64) (Int32.toNatClampNeg 4) v67)) ++ (wHB cI cF cJ oh fa tr rw Hb ++ (wFR cI cF cJ q0 q1 q2 q3 q4 q5 q6 q7 q8 x70.2 ++ ([kOut cJ n26 rs27])))) ++ (kRows cI lr rs27)) := va_D.part hD [0, 1, 2, 3, 4, 5, 6, 7, 8, 9, 10, 11, 12, 13, 14, 15, 16, 17, 18] (by decide) rfl
      obtain rfl := Option.some.inj hf
      exact W.zret (v := 0) hx hb hr (by rfl) (fun t ht hW => ⟨⟨_, (n26, rs27), rfl, ⟨rfl, hrs27⟩, by rw [ht]; exact hP, hD⟩, hS.F ht⟩) hS.2.2 dX3_shift_186
    · have hf := ite_t hf c73
      refine lv_iconst (v := 1) hx hb dX3_shift_181 (by decide) ?_
      refine lv_goto (tgt := 186) hx hb dX3_shift_182 (by decide) ?_
      have hP : va_P (dC, dI) vwCl ((wTD cI cF cJ ot oh b ou od ow oa ob n26 os (stSm F64 (upd (tSm F64) (Int32.toNatClampNeg 4) v67)) ++ (wHB cI cF cJ oh fa tr rw Hb ++ (wFR cI cF cJ q0 q1 q2 q3 q4 q5 q6 q7 q8 x70.2 ++ ([kOut cJ n26 rs27])))) ++ (kRows cI lr rs27)) H := va_P.part hP [0, 1, 2, 3, 4, 5, 6, 7, 8, 9, 10, 11, 12, 13, 14, 15, 16, 17, 18] rfl
      have hD : va_D A ((wTD cI cF cJ ot oh b ou od ow oa ob n26 os (stSm F64 (upd (tSm F64) (Int32.toNatClampNeg 4) v67)) ++ (wHB cI cF cJ oh fa tr rw Hb ++ (wFR cI cF cJ q0 q1 q2 q3 q4 q5 q6 q7 q8 x70.2 ++ ([kOut cJ n26 rs27])))) ++ (kRows cI lr rs27)) := va_D.part hD [0, 1, 2, 3, 4, 5, 6, 7, 8, 9, 10, 11, 12, 13, 14, 15, 16, 17, 18] (by decide) rfl
      obtain rfl := Option.some.inj hf
      exact W.zret (v := 1) hx hb hr (by rfl) (fun t ht hW => ⟨⟨_, (n26, rs27), rfl, ⟨rfl, hrs27⟩, by rw [ht]; exact hP, hD⟩, hS.F ht⟩) hS.2.2 dX3_shift_186
  · have hf := ite_t hf c2
    refine lv_iconst (v := 1) hx hb dX3_shift_8 (by decide) ?_
    refine lv_goto (tgt := 13) hx hb dX3_shift_9 (by decide) ?_
    refine lv_istore_n (lv' := [(1, .int 1), (0, .ref ot)]) hx hb dX3_shift_13 rfl hl (by decide) rfl (fun ls hl => ?_)
    refine lv_aload_n hx hb dX3_shift_14 rfl (lv_at hl 1 rfl) ?_
    refine va_get (D := (dC, dI)) (ci := 3) (v := .ref ou) (C := RX3) (T := TX3) (N := 12) hx hb hts iX3 hown hK hP 0 rfl rfl 5 (by decide) (hts _ q345) (fun _ h9 => h9) rfl dX3_shift_15 ?_
    refine va_alen (v := (nI (tN x1.2))) hx hb hK hP 1 0 rfl rfl rfl dX3_shift_18 ?_
    obtain ⟨g75, hf⟩ := gd_e hf
    refine sb_newi hx hb (hts _ zq4) hK hP hD hS hA (glen_0 g75) rfl (glen_b g75 (by decide)) (Nat.le_of_ble_eq_true rfl) (glen_s g75 (Nat.le_of_ble_eq_true rfl)) dX3_shift_19 (fun n74 H hP hD hS => ?_)
    refine W.widen (k := 1) (n := 8) (Nat.le_refl _) (glen_w g75) ?_
    have hP := hP.swap
    have hD := hD.swap
    have hP : va_P (dC, dI) vwCl ((wTD cI cF cJ ot oh b ou od ow oa ob ok os x1.2 ++ (wHB cI cF cJ oh fa tr rw Hb ++ (wFR cI cF cJ q0 q1 q2 q3 q4 q5 q6 q7 q8 F ++ ([kOut cJ ok rs] ++ ([(n74, .inl (cI, (Int32.toNatClampNeg (nI (tN x1.2))), .inl (fun _ => 0)))]))))) ++ (kRows cI lr rs)) H := hP
    have hD : va_D A ((wTD cI cF cJ ot oh b ou od ow oa ob ok os x1.2 ++ (wHB cI cF cJ oh fa tr rw Hb ++ (wFR cI cF cJ q0 q1 q2 q3 q4 q5 q6 q7 q8 F ++ ([kOut cJ ok rs] ++ ([(n74, .inl (cI, (Int32.toNatClampNeg (nI (tN x1.2))), .inl (fun _ => 0)))]))))) ++ (kRows cI lr rs)) := hD
    refine lv_astore_n (lv' := [(2, .ref n74), (1, .int 1), (0, .ref ot)]) hx hb dX3_shift_21 rfl hl (by decide) rfl (fun ls hl => ?_)
    refine lv_iconst (v := 0) hx hb dX3_shift_22 (by decide) ?_
    refine lv_istore_n (lv' := [(3, .int 0), (2, .ref n74), (1, .int 1), (0, .ref ot)]) hx hb dX3_shift_23 rfl hl (by decide) rfl (fun ls hl => ?_)
    have L24 : ∀ (k : Int32 → TD → (Nat → Int32) → Option (Int32 × TD × FR × KO)), (∀ (a83 : Int32) (F84 : TD) (F85 : (Nat → Int32)) (H : Heap) (locs : List Loc) (ls : Array Slot), va_P (dC, dI) vwCl ((wTD cI cF cJ ot oh b ou od ow oa ob ok os F84 ++ (wHB cI cF cJ oh fa tr rw Hb ++ (wFR cI cF cJ q0 q1 q2 q3 q4 q5 q6 q7 q8 F ++ ([kOut cJ ok rs] ++ ([(n74, .inl (cI, (Int32.toNatClampNeg (nI (tN x1.2))), .inl F85))]))))) ++ (kRows cI lr rs)) H → va_D A ((wTD cI cF cJ ot oh b ou od ow oa ob ok os F84 ++ (wHB cI cF cJ oh fa tr rw Hb ++ (wFR cI cF cJ q0 q1 q2 q3 q4 q5 q6 q7 q8 F ++ ([kOut cJ ok rs] ++ ([(n74, .inl (cI, (Int32.toNatClampNeg (nI (tN x1.2))), .inl F85))]))))) ++ (kRows cI lr rs)) → va_S A s.heap H locs → lv_has ls 5 [(0, .ref ot), (1, .int 1), (2, .ref n74)] → k a83 F84 F85 = some res → W p l e (headSpec (ws_ yX3_shift cX3_shift 5 (some .boolean)) rm_X3_shift).room s m ([.ref ot].toArray) below meth c H locs 1 8 (MQ below (va_Qi (fun (r : Int32) (u : Nat × RS) => r = res.1 ∧ u.2.map Prod.snd = res.2.2.2) (sbEnd (dC, dI) (fun (u : Nat × RS) => (wTD cI cF cJ ot oh b ou od ow oa ob u.1 os res.2.1 ++ (wHB cI cF cJ oh fa tr rw Hb ++ (wFR cI cF cJ q0 q1 q2 q3 q4 q5 q6 q7 q8 res.2.2.1 ++ ([kOut cJ u.1 u.2])))) ++ (kRows cI lr u.2)) (A)) (A)) ([.ref ot].toArray) s 3 37 A) (F0 m 44 ls [])) → ∀ (n : Nat) (a83 : Int32) (F84 : TD) (F85 : (Nat → Int32)) (H : Heap) (locs : List Loc) (ls : Array Slot), va_P (dC, dI) vwCl ((wTD cI cF cJ ot oh b ou od ow oa ob ok os F84 ++ (wHB cI cF cJ oh fa tr rw Hb ++ (wFR cI cF cJ q0 q1 q2 q3 q4 q5 q6 q7 q8 F ++ ([kOut cJ ok rs] ++ ([(n74, .inl (cI, (Int32.toNatClampNeg (nI (tN x1.2))), .inl F85))]))))) ++ (kRows cI lr rs)) H → va_D A ((wTD cI cF cJ ot oh b ou od ow oa ob ok os F84 ++ (wHB cI cF cJ oh fa tr rw Hb ++ (wFR cI cF cJ q0 q1 q2 q3 q4 q5 q6 q7 q8 F ++ ([kOut cJ ok rs] ++ ([(n74, .inl (cI, (Int32.toNatClampNeg (nI (tN x1.2))), .inl F85))]))))) ++ (kRows cI lr rs)) → va_S A s.heap H locs → lv_has ls 5 [(3, .int a83), (0, .ref ot), (1, .int 1), (2, .ref n74)] → l_X3_shift_24b Hb F K (Int32.toNatClampNeg (nI (tN x1.2))) L xs lr k n a83 F84 F85 = some res → W p l e (headSpec (ws_ yX3_shift cX3_shift 5 (some .boolean)) rm_X3_shift).room s m ([.ref ot].toArray) below meth c H locs 1 8 (MQ below (va_Qi (fun (r : Int32) (u : Nat × RS) => r = res.1 ∧ u.2.map Prod.snd = res.2.2.2) (sbEnd (dC, dI) (fun (u : Nat × RS) => (wTD cI cF cJ ot oh b ou od ow oa ob u.1 os res.2.1 ++ (wHB cI cF cJ oh fa tr rw Hb ++ (wFR cI cF cJ q0 q1 q2 q3 q4 q5 q6 q7 q8 res.2.2.1 ++ ([kOut cJ u.1 u.2])))) ++ (kRows cI lr u.2)) (A)) (A)) ([.ref ot].toArray) s 3 37 A) (F0 m 24 ls []) := by
      intro k hk n
      induction n with
      | zero =>
        intro a86 F87 F88 H locs ls hP hD hS hl hf
        rw [l_X3_shift_24b] at hf
        cases hf
      | succ n ih =>
        intro a86 F87 F88 H locs ls hP hD hS hl hf
        rw [l_X3_shift_24b] at hf
        refine lv_iload_n hx hb dX3_shift_24 rfl (lv_at hl 0 rfl) ?_
        refine lv_aload_n hx hb dX3_shift_25 rfl (lv_at hl 3 rfl) ?_
        refine va_alen (v := (nI (Int32.toNatClampNeg (nI (tN x1.2))))) hx hb hK hP 19 0 rfl rfl rfl dX3_shift_26 ?_
        refine lv_icmp_ge (tgt := 44) hx hb dX3_shift_27 (by decide) (fun c89 => ?_) (fun c89 => ?_)
        · have hf := ite_t hf c89
          exact hk a86 F87 F88 _ _ _ hP hD hS (lv_sub hl [1, 2, 3] rfl) hf
        · have hf := ite_f hf c89
          refine lv_aload_n hx hb dX3_shift_30 rfl (lv_at hl 3 rfl) ?_
          refine lv_iload_n hx hb dX3_shift_31 rfl (lv_at hl 0 rfl) ?_
          refine lv_aload_n hx hb dX3_shift_32 rfl (lv_at hl 1 rfl) ?_
          refine lv_iload_n hx hb dX3_shift_33 rfl (lv_at hl 0 rfl) ?_
          obtain ⟨x90, hx90, hf⟩ := obd_e hf
          refine sbT_Vi (As := [.int a86]) (rest := [.int a86, .ref n74]) ⟨hx, hb, hml, hown, hts⟩ (fun sz => c_X3_value l dC dI cI cF cJ cD ot oh b ou od ow oa ob ok os F87 a86  x90 hx90 sz) (cwV 1 hts (g_V q369 q370 q371 q352 q366) rfl rfl rfl pc_X3_value ⟨Nat.le_of_ble_eq_true rfl, Nat.le_of_ble_eq_true rfl⟩) 0 3 rfl rfl hK hP hD hS hA [0, 1, 2, 3, 4, 5, 6] [7, 8, 9, 10, 11, 12, 13, 14, 15, 16, 17, 18, 19] rfl rfl (by decide) (by decide) (by decide) (fun _ _ _ _ h => h) (fun _ _ _ => trivial) rfl rfl hl.1 (Nat.le_of_ble_eq_true rfl) dX3_shift_34 ⟨Nat.le_of_ble_eq_true rfl, Nat.le_of_ble_eq_true rfl⟩ (fun r9 u H locs hr9 hP hD hS => ?_)
          have hr9 := Eq.symm hr9
          subst hr9
          have hP : va_P (dC, dI) vwCl ((wTD cI cF cJ ot oh b ou od ow oa ob ok os F87 ++ (wHB cI cF cJ oh fa tr rw Hb ++ (wFR cI cF cJ q0 q1 q2 q3 q4 q5 q6 q7 q8 F ++ ([kOut cJ ok rs] ++ ([(n74, .inl (cI, (Int32.toNatClampNeg (nI (tN x1.2))), .inl F88))]))))) ++ (kRows cI lr rs)) H := va_P.part hP [13, 14, 15, 16, 17, 18, 19, 0, 1, 2, 3, 4, 5, 6, 7, 8, 9, 10, 11, 12] rfl
          have hD : va_D A ((wTD cI cF cJ ot oh b ou od ow oa ob ok os F87 ++ (wHB cI cF cJ oh fa tr rw Hb ++ (wFR cI cF cJ q0 q1 q2 q3 q4 q5 q6 q7 q8 F ++ ([kOut cJ ok rs] ++ ([(n74, .inl (cI, (Int32.toNatClampNeg (nI (tN x1.2))), .inl F88))]))))) ++ (kRows cI lr rs)) := va_D.part hD [13, 14, 15, 16, 17, 18, 19, 0, 1, 2, 3, 4, 5, 6, 7, 8, 9, 10, 11, 12] (by decide) rfl
          obtain ⟨g91, hf⟩ := gd_e hf
          refine va_iast hx hb hK hP hD hS 19 0 rfl rfl (gin_in g91) dX3_shift_37 (fun H locs hP hD hS => ?_)
          have hP : va_P (dC, dI) vwCl ((wTD cI cF cJ ot oh b ou od ow oa ob ok os F87 ++ (wHB cI cF cJ oh fa tr rw Hb ++ (wFR cI cF cJ q0 q1 q2 q3 q4 q5 q6 q7 q8 F ++ ([kOut cJ ok rs] ++ ([(n74, .inl (cI, (Int32.toNatClampNeg (nI (tN x1.2))), .inl (upd F88 (Int32.toNatClampNeg a86) x90)))]))))) ++ (kRows cI lr rs)) H := hP
          have hD : va_D A ((wTD cI cF cJ ot oh b ou od ow oa ob ok os F87 ++ (wHB cI cF cJ oh fa tr rw Hb ++ (wFR cI cF cJ q0 q1 q2 q3 q4 q5 q6 q7 q8 F ++ ([kOut cJ ok rs] ++ ([(n74, .inl (cI, (Int32.toNatClampNeg (nI (tN x1.2))), .inl (upd F88 (Int32.toNatClampNeg a86) x90)))]))))) ++ (kRows cI lr rs)) := hD
          obtain ⟨v92, ev92⟩ : ∃ y : Int32, y = a86 + 1 := ⟨_, rfl⟩
          have hf := bnd_all hf v92 ev92
          refine lv_iinc (v := v92) (lv' := [(3, .int v92), (0, .ref ot), (1, .int 1), (2, .ref n74)]) hx hb dX3_shift_38 hl (k := 0) rfl (by rw [ev92]; rfl) (by decide) rfl (fun ls hl => ?_)
          refine lv_goto (tgt := 24) hx hb dX3_shift_41 (by decide) ?_
          exact ih v92 F87 (upd F88 (Int32.toNatClampNeg a86) x90) _ _ _ hP hD hS (lv_sub hl [0, 1, 2, 3] rfl) hf
    refine L24 _ (fun a93 F94 F95 H locs ls hP hD hS hl hf => ?_) 16 0 x1.2 (fun _ => 0) _ _ _ hP hD hS (lv_sub hl [0, 3, 2, 1] rfl) hf
    refine lv_aload_n hx hb dX3_shift_44 rfl (lv_at hl 0 rfl) ?_
    obtain ⟨x96, hx96, hf⟩ := obd_e hf
    refine sbP_Vv (As := []) (rest := []) ⟨hx, hb, hml, hown, hts⟩ (fun sz => c_X3_keep l dC dI cI cF cJ cD b L xs tA tB lr ot oh ou od ow oa ob ok os rs F94 K hrs x96 hx96 sz) (cwV 0 hts (g_V q409 q410 q411 q352 q373) rfl rfl rfl pc_X3_keep ⟨Nat.le_of_ble_eq_true rfl, Nat.le_of_ble_eq_true rfl⟩) 0 3 rfl rfl hK hP hD hS hA [0, 1, 2, 3, 4, 5, 6, 18] [7, 8, 9, 10, 11, 12, 13, 14, 15, 16, 17, 19] rfl rfl (by decide) (by decide) (by decide) EX_blind (fun U hU hW => EX_pass hE hS (va_freeP hD hS hA [0, 1, 2, 3, 4, 5, 6, 18] rfl) hU hW) rfl rfl hl.1 (Nat.le_of_ble_eq_true rfl) dX3_shift_45 ⟨Nat.le_of_ble_eq_true rfl, Nat.le_of_ble_eq_true rfl⟩ (fun u H locs hr9 hP hD hS => ?_)
    refine W.widen (k := 3) (n := 37) (Nat.le_refl _) (Nat.le_refl _) ?_
    have hrs98 := hr9
    obtain ⟨n97, rs98⟩ := u
    have hP : va_P (dC, dI) vwCl ((wTD cI cF cJ ot oh b ou od ow oa ob n97 os F94 ++ (wHB cI cF cJ oh fa tr rw Hb ++ (wFR cI cF cJ q0 q1 q2 q3 q4 q5 q6 q7 q8 F ++ ([kOut cJ n97 rs98] ++ ([(n74, .inl (cI, (Int32.toNatClampNeg (nI (tN x1.2))), .inl F95))]))))) ++ (kRows cI lr rs98)) H := va_P.part hP [12, 13, 14, 15, 16, 17, 18, 0, 1, 2, 3, 4, 5, 6, 7, 8, 9, 10, 19, 11] rfl
    have hD : va_D A ((wTD cI cF cJ ot oh b ou od ow oa ob n97 os F94 ++ (wHB cI cF cJ oh fa tr rw Hb ++ (wFR cI cF cJ q0 q1 q2 q3 q4 q5 q6 q7 q8 F ++ ([kOut cJ n97 rs98] ++ ([(n74, .inl (cI, (Int32.toNatClampNeg (nI (tN x1.2))), .inl F95))]))))) ++ (kRows cI lr rs98)) := va_D.part hD [12, 13, 14, 15, 16, 17, 18, 0, 1, 2, 3, 4, 5, 6, 7, 8, 9, 10, 19, 11] (by decide) rfl
    refine lv_aload_n hx hb dX3_shift_48 rfl (lv_at hl 2 rfl) ?_
    refine va_alen (v := (nI (Int32.toNatClampNeg (nI (tN x1.2))))) hx hb hK hP 19 0 rfl rfl rfl dX3_shift_49 ?_
    refine lv_iconst (v := 1) hx hb dX3_shift_50 (by decide) ?_
    refine lv_isub hx hb dX3_shift_51 ?_
    refine lv_topi (fun v99 ev99 => ?_)
    have hf := bnd_all hf v99 ev99
    refine lv_istore_n (lv' := [(3, .int v99), (0, .ref ot), (1, .int 1), (2, .ref n74)]) hx hb dX3_shift_52 rfl hl (by decide) rfl (fun ls hl => ?_)
    refine lv_iload_n hx hb dX3_shift_53 rfl (lv_at hl 0 rfl) ?_
    refine lv_istore (lv' := [(4, .int v99), (3, .int v99), (0, .ref ot), (1, .int 1), (2, .ref n74)]) hx hb dX3_shift_54 hl (by decide) rfl (fun ls hl => ?_)
    have L56 : ∀ (k : Int32 → TD → Option (Int32 × TD × FR × KO)), (∀ (a111 : Int32) (F112 : TD) (H : Heap) (locs : List Loc) (ls : Array Slot), va_P (dC, dI) vwCl ((wTD cI cF cJ ot oh b ou od ow oa ob n97 os F112 ++ (wHB cI cF cJ oh fa tr rw Hb ++ (wFR cI cF cJ q0 q1 q2 q3 q4 q5 q6 q7 q8 F ++ ([kOut cJ n97 rs98] ++ ([(n74, .inl (cI, (Int32.toNatClampNeg (nI (tN x1.2))), .inl F95))]))))) ++ (kRows cI lr rs98)) H → va_D A ((wTD cI cF cJ ot oh b ou od ow oa ob n97 os F112 ++ (wHB cI cF cJ oh fa tr rw Hb ++ (wFR cI cF cJ q0 q1 q2 q3 q4 q5 q6 q7 q8 F ++ ([kOut cJ n97 rs98] ++ ([(n74, .inl (cI, (Int32.toNatClampNeg (nI (tN x1.2))), .inl F95))]))))) ++ (kRows cI lr rs98)) → va_S A s.heap H locs → lv_has ls 5 [(0, .ref ot), (1, .int 1), (2, .ref n74), (3, .int v99)] → k a111 F112 = some res → W p l e (headSpec (ws_ yX3_shift cX3_shift 5 (some .boolean)) rm_X3_shift).room s m ([.ref ot].toArray) below meth c H locs 3 37 (MQ below (va_Qi (fun (r : Int32) (u : Nat × RS) => r = res.1 ∧ u.2.map Prod.snd = res.2.2.2) (sbEnd (dC, dI) (fun (u : Nat × RS) => (wTD cI cF cJ ot oh b ou od ow oa ob u.1 os res.2.1 ++ (wHB cI cF cJ oh fa tr rw Hb ++ (wFR cI cF cJ q0 q1 q2 q3 q4 q5 q6 q7 q8 res.2.2.1 ++ ([kOut cJ u.1 u.2])))) ++ (kRows cI lr u.2)) (A)) (A)) ([.ref ot].toArray) s 3 37 A) (F0 m 92 ls [])) → ∀ (n : Nat) (a111 : Int32) (F112 : TD) (H : Heap) (locs : List Loc) (ls : Array Slot), va_P (dC, dI) vwCl ((wTD cI cF cJ ot oh b ou od ow oa ob n97 os F112 ++ (wHB cI cF cJ oh fa tr rw Hb ++ (wFR cI cF cJ q0 q1 q2 q3 q4 q5 q6 q7 q8 F ++ ([kOut cJ n97 rs98] ++ ([(n74, .inl (cI, (Int32.toNatClampNeg (nI (tN x1.2))), .inl F95))]))))) ++ (kRows cI lr rs98)) H → va_D A ((wTD cI cF cJ ot oh b ou od ow oa ob n97 os F112 ++ (wHB cI cF cJ oh fa tr rw Hb ++ (wFR cI cF cJ q0 q1 q2 q3 q4 q5 q6 q7 q8 F ++ ([kOut cJ n97 rs98] ++ ([(n74, .inl (cI, (Int32.toNatClampNeg (nI (tN x1.2))), .inl F95))]))))) ++ (kRows cI lr rs98)) → va_S A s.heap H locs → lv_has ls 5 [(4, .int a111), (0, .ref ot), (1, .int 1), (2, .ref n74), (3, .int v99)] → l_X3_shift_56b v99 Hb F x96 F95 (Int32.toNatClampNeg (nI (tN x1.2))) L xs lr k n a111 F112 = some res → W p l e (headSpec (ws_ yX3_shift cX3_shift 5 (some .boolean)) rm_X3_shift).room s m ([.ref ot].toArray) below meth c H locs 3 37 (MQ below (va_Qi (fun (r : Int32) (u : Nat × RS) => r = res.1 ∧ u.2.map Prod.snd = res.2.2.2) (sbEnd (dC, dI) (fun (u : Nat × RS) => (wTD cI cF cJ ot oh b ou od ow oa ob u.1 os res.2.1 ++ (wHB cI cF cJ oh fa tr rw Hb ++ (wFR cI cF cJ q0 q1 q2 q3 q4 q5 q6 q7 q8 res.2.2.1 ++ ([kOut cJ u.1 u.2])))) ++ (kRows cI lr u.2)) (A)) (A)) ([.ref ot].toArray) s 3 37 A) (F0 m 56 ls []) := by
      intro k hk n
      induction n with
      | zero =>
        intro a113 F114 H locs ls hP hD hS hl hf
        rw [l_X3_shift_56b] at hf
        cases hf
      | succ n ih =>
        intro a113 F114 H locs ls hP hD hS hl hf
        rw [l_X3_shift_56b] at hf
        refine lv_iload hx hb dX3_shift_56 (lv_at hl 0 rfl) ?_
        refine lv_if_lt (tgt := 92) hx hb dX3_shift_58 (by decide) (fun c115 => ?_) (fun c115 => ?_)
        · have hf := ite_t hf c115
          exact hk a113 F114 _ _ _ hP hD hS (lv_sub hl [1, 2, 3, 4] rfl) hf
        · have hf := ite_f hf c115
          refine lv_iload_n hx hb dX3_shift_61 rfl (lv_at hl 2 rfl) ?_
          refine lv_if_eq (tgt := 92) hx hb dX3_shift_62 (by decide) (fun c9 => absurd c9 (by decide)) (fun _ => ?_)
          refine lv_aload_n hx hb dX3_shift_65 rfl (lv_at hl 1 rfl) ?_
          refine lv_iload hx hb dX3_shift_66 (lv_at hl 0 rfl) ?_
          refine lv_iload hx hb dX3_shift_68 (lv_at hl 0 rfl) ?_
          refine lv_if_ne (tgt := 77) hx hb dX3_shift_70 (by decide) (fun c116 => ?_) (fun c116 => ?_)
          · have hf := ite_f hf c116
            refine lv_aload_n hx hb dX3_shift_77 rfl (lv_at hl 3 rfl) ?_
            refine lv_iload hx hb dX3_shift_78 (lv_at hl 0 rfl) ?_
            refine lv_iconst (v := 1) hx hb dX3_shift_80 (by decide) ?_
            refine lv_isub hx hb dX3_shift_81 ?_
            refine lv_topi (fun v117 ev117 => ?_)
            have hf := bnd_all hf v117 ev117
            obtain ⟨g118, hf⟩ := gd_e hf
            refine va_iald hx hb hK hP 19 0 rfl rfl (gin_in g118) dX3_shift_82 ?_
            refine lv_topi (fun v119 ev119 => ?_)
            have hf := bnd_all hf v119 ev119
            obtain ⟨x120, hx120, hf⟩ := obd_e hf
            refine sbT_Vv (As := [.int a113, .int v119]) (rest := []) ⟨hx, hb, hml, hown, hts⟩ (fun sz => c_X3_set l dC dI cI cF cJ cD ot oh b ou od ow oa ob n97 os F114 a113 v119  x120 hx120 sz) (cwV 2 hts (g_V q394 q395 q396 q352 q393) rfl rfl rfl pc_X3_set ⟨Nat.le_of_ble_eq_true rfl, Nat.le_of_ble_eq_true rfl⟩) 0 3 rfl rfl hK hP hD hS hA [0, 1, 2, 3, 4, 5, 6] [7, 8, 9, 10, 11, 12, 13, 14, 15, 16, 17, 18, 19] rfl rfl (by decide) (by decide) (by decide) (fun _ _ _ _ h => h) (fun _ _ _ => trivial) rfl rfl hl.1 (Nat.le_of_ble_eq_true rfl) dX3_shift_83 ⟨Nat.le_of_ble_eq_true rfl, Nat.le_of_ble_eq_true rfl⟩ (fun u H locs hr9 hP hD hS => ?_)
            have hP : va_P (dC, dI) vwCl ((wTD cI cF cJ ot oh b ou od ow oa ob n97 os x120 ++ (wHB cI cF cJ oh fa tr rw Hb ++ (wFR cI cF cJ q0 q1 q2 q3 q4 q5 q6 q7 q8 F ++ ([kOut cJ n97 rs98] ++ ([(n74, .inl (cI, (Int32.toNatClampNeg (nI (tN x1.2))), .inl F95))]))))) ++ (kRows cI lr rs98)) H := va_P.part hP [13, 14, 15, 16, 17, 18, 19, 0, 1, 2, 3, 4, 5, 6, 7, 8, 9, 10, 11, 12] rfl
            have hD : va_D A ((wTD cI cF cJ ot oh b ou od ow oa ob n97 os x120 ++ (wHB cI cF cJ oh fa tr rw Hb ++ (wFR cI cF cJ q0 q1 q2 q3 q4 q5 q6 q7 q8 F ++ ([kOut cJ n97 rs98] ++ ([(n74, .inl (cI, (Int32.toNatClampNeg (nI (tN x1.2))), .inl F95))]))))) ++ (kRows cI lr rs98)) := va_D.part hD [13, 14, 15, 16, 17, 18, 19, 0, 1, 2, 3, 4, 5, 6, 7, 8, 9, 10, 11, 12] (by decide) rfl
            obtain ⟨v121, ev121⟩ : ∃ y : Int32, y = a113 + (-1) := ⟨_, rfl⟩
            have hf := bnd_all hf v121 ev121
            refine lv_iinc (v := v121) (lv' := [(4, .int v121), (0, .ref ot), (1, .int 1), (2, .ref n74), (3, .int v99)]) hx hb dX3_shift_86 hl (k := 0) rfl (by rw [ev121]; rfl) (by decide) rfl (fun ls hl => ?_)
            refine lv_goto (tgt := 56) hx hb dX3_shift_89 (by decide) ?_
            exact ih v121 x120 _ _ _ hP hD hS (lv_sub hl [0, 1, 2, 3, 4] rfl) hf
          · have hf := ite_t hf c116
            refine lv_iconst (v := 0) hx hb dX3_shift_73 (by decide) ?_
            refine lv_goto (tgt := 83) hx hb dX3_shift_74 (by decide) ?_
            obtain ⟨x122, hx122, hf⟩ := obd_e hf
            refine sbT_Vv (As := [.int a113, .int 0]) (rest := []) ⟨hx, hb, hml, hown, hts⟩ (fun sz => c_X3_set l dC dI cI cF cJ cD ot oh b ou od ow oa ob n97 os F114 a113 0  x122 hx122 sz) (cwV 2 hts (g_V q394 q395 q396 q352 q393) rfl rfl rfl pc_X3_set ⟨Nat.le_of_ble_eq_true rfl, Nat.le_of_ble_eq_true rfl⟩) 0 3 rfl rfl hK hP hD hS hA [0, 1, 2, 3, 4, 5, 6] [7, 8, 9, 10, 11, 12, 13, 14, 15, 16, 17, 18, 19] rfl rfl (by decide) (by decide) (by decide) (fun _ _ _ _ h => h) (fun _ _ _ => trivial) rfl rfl hl.1 (Nat.le_of_ble_eq_true rfl) dX3_shift_83 ⟨Nat.le_of_ble_eq_true rfl, Nat.le_of_ble_eq_true rfl⟩ (fun u H locs hr9 hP hD hS => ?_)
            have hP : va_P (dC, dI) vwCl ((wTD cI cF cJ ot oh b ou od ow oa ob n97 os x122 ++ (wHB cI cF cJ oh fa tr rw Hb ++ (wFR cI cF cJ q0 q1 q2 q3 q4 q5 q6 q7 q8 F ++ ([kOut cJ n97 rs98] ++ ([(n74, .inl (cI, (Int32.toNatClampNeg (nI (tN x1.2))), .inl F95))]))))) ++ (kRows cI lr rs98)) H := va_P.part hP [13, 14, 15, 16, 17, 18, 19, 0, 1, 2, 3, 4, 5, 6, 7, 8, 9, 10, 11, 12] rfl
            have hD : va_D A ((wTD cI cF cJ ot oh b ou od ow oa ob n97 os x122 ++ (wHB cI cF cJ oh fa tr rw Hb ++ (wFR cI cF cJ q0 q1 q2 q3 q4 q5 q6 q7 q8 F ++ ([kOut cJ n97 rs98] ++ ([(n74, .inl (cI, (Int32.toNatClampNeg (nI (tN x1.2))), .inl F95))]))))) ++ (kRows cI lr rs98)) := va_D.part hD [13, 14, 15, 16, 17, 18, 19, 0, 1, 2, 3, 4, 5, 6, 7, 8, 9, 10, 11, 12] (by decide) rfl
            obtain ⟨v123, ev123⟩ : ∃ y : Int32, y = a113 + (-1) := ⟨_, rfl⟩
            have hf := bnd_all hf v123 ev123
            refine lv_iinc (v := v123) (lv' := [(4, .int v123), (0, .ref ot), (1, .int 1), (2, .ref n74), (3, .int v99)]) hx hb dX3_shift_86 hl (k := 0) rfl (by rw [ev123]; rfl) (by decide) rfl (fun ls hl => ?_)
            refine lv_goto (tgt := 56) hx hb dX3_shift_89 (by decide) ?_
            exact ih v123 x122 _ _ _ hP hD hS (lv_sub hl [0, 1, 2, 3, 4] rfl) hf
    refine L56 _ (fun a124 F125 H locs ls hP hD hS hl hf => ?_) 16 v99 F94 _ _ _ hP hD hS (lv_sub hl [0, 2, 3, 4, 1] rfl) hf
    refine lv_iconst (v := 0) hx hb dX3_shift_92 (by decide) ?_
    refine lv_istore (lv' := [(4, .int 0), (0, .ref ot), (1, .int 1), (2, .ref n74), (3, .int v99)]) hx hb dX3_shift_93 hl (by decide) rfl (fun ls hl => ?_)
    have L95 : ∀ (k : Int32 → TD → Option (Int32 × TD × FR × KO)), (∀ (a129 : Int32) (F130 : TD) (H : Heap) (locs : List Loc) (ls : Array Slot), va_P (dC, dI) vwCl ((wTD cI cF cJ ot oh b ou od ow oa ob n97 os F130 ++ (wHB cI cF cJ oh fa tr rw Hb ++ (wFR cI cF cJ q0 q1 q2 q3 q4 q5 q6 q7 q8 F ++ ([kOut cJ n97 rs98] ++ ([(n74, .inl (cI, (Int32.toNatClampNeg (nI (tN x1.2))), .inl F95))]))))) ++ (kRows cI lr rs98)) H → va_D A ((wTD cI cF cJ ot oh b ou od ow oa ob n97 os F130 ++ (wHB cI cF cJ oh fa tr rw Hb ++ (wFR cI cF cJ q0 q1 q2 q3 q4 q5 q6 q7 q8 F ++ ([kOut cJ n97 rs98] ++ ([(n74, .inl (cI, (Int32.toNatClampNeg (nI (tN x1.2))), .inl F95))]))))) ++ (kRows cI lr rs98)) → va_S A s.heap H locs → lv_has ls 5 [(0, .ref ot), (1, .int 1), (2, .ref n74), (3, .int v99)] → k a129 F130 = some res → W p l e (headSpec (ws_ yX3_shift cX3_shift 5 (some .boolean)) rm_X3_shift).room s m ([.ref ot].toArray) below meth c H locs 3 37 (MQ below (va_Qi (fun (r : Int32) (u : Nat × RS) => r = res.1 ∧ u.2.map Prod.snd = res.2.2.2) (sbEnd (dC, dI) (fun (u : Nat × RS) => (wTD cI cF cJ ot oh b ou od ow oa ob u.1 os res.2.1 ++ (wHB cI cF cJ oh fa tr rw Hb ++ (wFR cI cF cJ q0 q1 q2 q3 q4 q5 q6 q7 q8 res.2.2.1 ++ ([kOut cJ u.1 u.2])))) ++ (kRows cI lr u.2)) (A)) (A)) ([.ref ot].toArray) s 3 37 A) (F0 m 133 ls [])) → ∀ (n : Nat) (a129 : Int32) (F130 : TD) (H : Heap) (locs : List Loc) (ls : Array Slot), va_P (dC, dI) vwCl ((wTD cI cF cJ ot oh b ou od ow oa ob n97 os F130 ++ (wHB cI cF cJ oh fa tr rw Hb ++ (wFR cI cF cJ q0 q1 q2 q3 q4 q5 q6 q7 q8 F ++ ([kOut cJ n97 rs98] ++ ([(n74, .inl (cI, (Int32.toNatClampNeg (nI (tN x1.2))), .inl F95))]))))) ++ (kRows cI lr rs98)) H → va_D A ((wTD cI cF cJ ot oh b ou od ow oa ob n97 os F130 ++ (wHB cI cF cJ oh fa tr rw Hb ++ (wFR cI cF cJ q0 q1 q2 q3 q4 q5 q6 q7 q8 F ++ ([kOut cJ n97 rs98] ++ ([(n74, .inl (cI, (Int32.toNatClampNeg (nI (tN x1.2))), .inl F95))]))))) ++ (kRows cI lr rs98)) → va_S A s.heap H locs → lv_has ls 5 [(4, .int a129), (0, .ref ot), (1, .int 1), (2, .ref n74), (3, .int v99)] → l_X3_shift_95b v99 Hb F x96 F95 (Int32.toNatClampNeg (nI (tN x1.2))) L xs lr k n a129 F130 = some res → W p l e (headSpec (ws_ yX3_shift cX3_shift 5 (some .boolean)) rm_X3_shift).room s m ([.ref ot].toArray) below meth c H locs 3 37 (MQ below (va_Qi (fun (r : Int32) (u : Nat × RS) => r = res.1 ∧ u.2.map Prod.snd = res.2.2.2) (sbEnd (dC, dI) (fun (u : Nat × RS) => (wTD cI cF cJ ot oh b ou od ow oa ob u.1 os res.2.1 ++ (wHB cI cF cJ oh fa tr rw Hb ++ (wFR cI cF cJ q0 q1 q2 q3 q4 q5 q6 q7 q8 res.2.2.1 ++ ([kOut cJ u.1 u.2])))) ++ (kRows cI lr u.2)) (A)) (A)) ([.ref ot].toArray) s 3 37 A) (F0 m 95 ls []) := by
      intro k hk n
      induction n with
      | zero =>
        intro a131 F132 H locs ls hP hD hS hl hf
        rw [l_X3_shift_95b] at hf
        cases hf
      | succ n ih =>
        intro a131 F132 H locs ls hP hD hS hl hf
        rw [l_X3_shift_95b] at hf
        refine lv_iload hx hb dX3_shift_95 (lv_at hl 0 rfl) ?_
        refine lv_iload_n hx hb dX3_shift_97 rfl (lv_at hl 4 rfl) ?_
        refine lv_icmp_gt (tgt := 133) hx hb dX3_shift_98 (by decide) (fun c133 => ?_) (fun c133 => ?_)
        · have hf := ite_t hf c133
          exact hk a131 F132 _ _ _ hP hD hS (lv_sub hl [1, 2, 3, 4] rfl) hf
        · have hf := ite_f hf c133
          refine lv_iload_n hx hb dX3_shift_101 rfl (lv_at hl 2 rfl) ?_
          refine lv_if_ne (tgt := 133) hx hb dX3_shift_102 (by decide) (fun _ => ?_) (fun c9 => absurd c9 (by decide))
          exact hk a131 F132 _ _ _ hP hD hS (lv_sub hl [1, 2, 3, 4] rfl) hf
    refine L95 _ (fun a134 F135 H locs ls hP hD hS hl hf => ?_) 16 0 F125 _ _ _ hP hD hS (lv_sub hl [0, 1, 2, 3, 4] rfl) hf
    refine lv_aload_n hx hb dX3_shift_133 rfl (lv_at hl 0 rfl) ?_
    refine va_get (D := (dC, dI)) (ci := 3) (v := .ref os) (C := RX3) (T := TX3) (N := 12) hx hb hts iX3 hown hK hP 0 rfl rfl 9 (by decide) (hts _ q331) (fun _ h9 => h9) rfl dX3_shift_134 ?_
    refine lv_iconst (v := 4) hx hb dX3_shift_137 (by decide) ?_
    refine lv_dup2_11 hx hb dX3_shift_138 rfl rfl ?_
    obtain ⟨g136, hf⟩ := gd_e hf
    refine va_iald hx hb hK hP 6 0 rfl rfl (gin_in g136) dX3_shift_139 ?_
    refine lv_topi (fun v137 ev137 => ?_)
    have hf := bnd_all hf v137 ev137
    refine lv_iload_n hx hb dX3_shift_140 rfl (lv_at hl 1 rfl) ?_
    refine lv_if_eq (tgt := 150) hx hb dX3_shift_141 (by decide) (fun c9 => absurd c9 (by decide)) (fun _ => ?_)
    refine lv_aload_n hx hb dX3_shift_144 rfl (lv_at hl 2 rfl) ?_
    refine lv_iload_n hx hb dX3_shift_145 rfl (lv_at hl 3 rfl) ?_
    obtain ⟨g138, hf⟩ := gd_e hf
    refine va_iald hx hb hK hP 19 0 rfl rfl (gin_in g138) dX3_shift_146 ?_
    refine lv_topi (fun v139 ev139 => ?_)
    have hf := bnd_all hf v139 ev139
    refine lv_goto (tgt := 151) hx hb dX3_shift_147 (by decide) ?_
    refine lv_iadd hx hb dX3_shift_151 ?_
    refine lv_topi (fun v140 ev140 => ?_)
    have hf := bnd_all hf v140 ev140
    obtain ⟨g141, hf⟩ := gd_e hf
    refine va_iast hx hb hK hP hD hS 6 0 rfl rfl (gin_in g141) dX3_shift_152 (fun H locs hP hD hS => ?_)
    have hP : va_P (dC, dI) vwCl ((wTD cI cF cJ ot oh b ou od ow oa ob n97 os (stSm F135 (upd (tSm F135) (Int32.toNatClampNeg 4) v140)) ++ (wHB cI cF cJ oh fa tr rw Hb ++ (wFR cI cF cJ q0 q1 q2 q3 q4 q5 q6 q7 q8 F ++ ([kOut cJ n97 rs98] ++ ([(n74, .inl (cI, (Int32.toNatClampNeg (nI (tN x1.2))), .inl F95))]))))) ++ (kRows cI lr rs98)) H := hP
    have hD : va_D A ((wTD cI cF cJ ot oh b ou od ow oa ob n97 os (stSm F135 (upd (tSm F135) (Int32.toNatClampNeg 4) v140)) ++ (wHB cI cF cJ oh fa tr rw Hb ++ (wFR cI cF cJ q0 q1 q2 q3 q4 q5 q6 q7 q8 F ++ ([kOut cJ n97 rs98] ++ ([(n74, .inl (cI, (Int32.toNatClampNeg (nI (tN x1.2))), .inl F95))]))))) ++ (kRows cI lr rs98)) := hD
    refine lv_aload_n hx hb dX3_shift_153 rfl (lv_at hl 0 rfl) ?_
    refine va_get (D := (dC, dI)) (ci := 3) (v := .ref oh) (C := RX3) (T := TX3) (N := 12) hx hb hts iX3 hown hK hP 0 rfl rfl 0 (by decide) (hts _ q332) (fun _ h9 => h9) rfl dX3_shift_154 ?_
    refine lv_aload_n hx hb dX3_shift_157 rfl (lv_at hl 0 rfl) ?_
    refine va_get (D := (dC, dI)) (ci := 3) (v := .int (tNu F135)) (C := RX3) (T := TX3) (N := 12) hx hb hts iX3 hown hK hP 0 rfl rfl 3 (by decide) (hts _ q343) (fun _ h9 => h9) rfl dX3_shift_158 ?_
    obtain ⟨g142, hf⟩ := gd_e hf
    refine sb_topv (v' := .int (tNu T)) (congrArg Value.int (gdec_e g142)) ?_
    refine lv_iload_n hx hb dX3_shift_161 rfl (lv_at hl 1 rfl) ?_
    obtain ⟨x143, hx143, hf⟩ := obd_e hf
    refine sbT_Vi (As := [.int (tNu T), .int 1]) (rest := []) ⟨hx, hb, hml, hown, hts⟩ (fun sz => c_X2_shift l dC dI cI cF cJ cD oh fa tr q0 q1 q2 q3 q4 q5 q6 q7 q8 rw Hb F (tNu T) 1 hq x143 hx143 sz) (cwV 2 hts (g_V q438 q439 q440 q172 q232) rfl rfl rfl pc_X2_shift ⟨Nat.le_of_ble_eq_true rfl, Nat.le_of_ble_eq_true rfl⟩) 0 2 rfl rfl hK hP hD hS hA [7, 8, 9, 10, 11, 12, 13, 14, 15, 16, 17] [0, 1, 2, 3, 4, 5, 6, 18, 19] rfl rfl (by decide) (by decide) (by decide) (fun _ _ _ _ h => h) (fun _ _ _ => trivial) rfl rfl hl.1 (Nat.le_of_ble_eq_true rfl) dX3_shift_162 ⟨Nat.le_of_ble_eq_true rfl, Nat.le_of_ble_eq_true rfl⟩ (fun r9 u H locs hr9 hP hD hS => ?_)
    have hr9 := Eq.symm hr9
    subst hr9
    have hP : va_P (dC, dI) vwCl ((wTD cI cF cJ ot oh b ou od ow oa ob n97 os (stSm F135 (upd (tSm F135) (Int32.toNatClampNeg 4) v140)) ++ (wHB cI cF cJ oh fa tr rw Hb ++ (wFR cI cF cJ q0 q1 q2 q3 q4 q5 q6 q7 q8 x143.2 ++ ([kOut cJ n97 rs98] ++ ([(n74, .inl (cI, (Int32.toNatClampNeg (nI (tN x1.2))), .inl F95))]))))) ++ (kRows cI lr rs98)) H := va_P.part hP [0, 1, 2, 3, 4, 5, 6, 9, 10, 11, 12, 13, 14, 15, 16, 17, 18, 19, 7, 8] rfl
    have hD : va_D A ((wTD cI cF cJ ot oh b ou od ow oa ob n97 os (stSm F135 (upd (tSm F135) (Int32.toNatClampNeg 4) v140)) ++ (wHB cI cF cJ oh fa tr rw Hb ++ (wFR cI cF cJ q0 q1 q2 q3 q4 q5 q6 q7 q8 x143.2 ++ ([kOut cJ n97 rs98] ++ ([(n74, .inl (cI, (Int32.toNatClampNeg (nI (tN x1.2))), .inl F95))]))))) ++ (kRows cI lr rs98)) := va_D.part hD [0, 1, 2, 3, 4, 5, 6, 9, 10, 11, 12, 13, 14, 15, 16, 17, 18, 19, 7, 8] (by decide) rfl
    refine lv_iload_n hx hb dX3_shift_165 rfl (lv_at hl 1 rfl) ?_
    refine lv_if_eq (tgt := 175) hx hb dX3_shift_166 (by decide) (fun c9 => absurd c9 (by decide)) (fun _ => ?_)
    refine lv_aload_n hx hb dX3_shift_169 rfl (lv_at hl 2 rfl) ?_
    refine lv_iload_n hx hb dX3_shift_170 rfl (lv_at hl 3 rfl) ?_
    obtain ⟨g144, hf⟩ := gd_e hf
    refine va_iald hx hb hK hP 19 0 rfl rfl (gin_in g144) dX3_shift_171 ?_
    refine lv_topi (fun v145 ev145 => ?_)
    have hf := bnd_all hf v145 ev145
    refine lv_goto (tgt := 178) hx hb dX3_shift_172 (by decide) ?_
    refine lv_icmp_ne (tgt := 185) hx hb dX3_shift_178 (by decide) (fun c146 => ?_) (fun c146 => ?_)
    · have hf := ite_f hf c146
      refine lv_iconst (v := 0) hx hb dX3_shift_185 (by decide) ?_
      have hP : va_P (dC, dI) vwCl ((wTD cI cF cJ ot oh b ou od ow oa ob n97 os (stSm F135 (upd (tSm F135) (Int32.toNatClampNeg 4) v140)) ++ (wHB cI cF cJ oh fa tr rw Hb ++ (wFR cI cF cJ q0 q1 q2 q3 q4 q5 q6 q7 q8 x143.2 ++ ([kOut cJ n97 rs98])))) ++ (kRows cI lr rs98)) H := va_P.part hP [0, 1, 2, 3, 4, 5, 6, 7, 8, 9, 10, 11, 12, 13, 14, 15, 16, 17, 18] rfl
      have hD : va_D A ((wTD cI cF cJ ot oh b ou od ow oa ob n97 os (stSm F135 (upd (tSm F135) (Int32.toNatClampNeg 4) v140)) ++ (wHB cI cF cJ oh fa tr rw Hb ++ (wFR cI cF cJ q0 q1 q2 q3 q4 q5 q6 q7 q8 x143.2 ++ ([kOut cJ n97 rs98])))) ++ (kRows cI lr rs98)) := va_D.part hD [0, 1, 2, 3, 4, 5, 6, 7, 8, 9, 10, 11, 12, 13, 14, 15, 16, 17, 18] (by decide) rfl
      obtain rfl := Option.some.inj hf
      exact W.zret (v := 0) hx hb hr (by rfl) (fun t ht hW => ⟨⟨_, (n97, rs98), rfl, ⟨rfl, hrs98⟩, by rw [ht]; exact hP, hD⟩, hS.F ht⟩) hS.2.2 dX3_shift_186
    · have hf := ite_t hf c146
      refine lv_iconst (v := 1) hx hb dX3_shift_181 (by decide) ?_
      refine lv_goto (tgt := 186) hx hb dX3_shift_182 (by decide) ?_
      have hP : va_P (dC, dI) vwCl ((wTD cI cF cJ ot oh b ou od ow oa ob n97 os (stSm F135 (upd (tSm F135) (Int32.toNatClampNeg 4) v140)) ++ (wHB cI cF cJ oh fa tr rw Hb ++ (wFR cI cF cJ q0 q1 q2 q3 q4 q5 q6 q7 q8 x143.2 ++ ([kOut cJ n97 rs98])))) ++ (kRows cI lr rs98)) H := va_P.part hP [0, 1, 2, 3, 4, 5, 6, 7, 8, 9, 10, 11, 12, 13, 14, 15, 16, 17, 18] rfl
      have hD : va_D A ((wTD cI cF cJ ot oh b ou od ow oa ob n97 os (stSm F135 (upd (tSm F135) (Int32.toNatClampNeg 4) v140)) ++ (wHB cI cF cJ oh fa tr rw Hb ++ (wFR cI cF cJ q0 q1 q2 q3 q4 q5 q6 q7 q8 x143.2 ++ ([kOut cJ n97 rs98])))) ++ (kRows cI lr rs98)) := va_D.part hD [0, 1, 2, 3, 4, 5, 6, 7, 8, 9, 10, 11, 12, 13, 14, 15, 16, 17, 18] (by decide) rfl
      obtain rfl := Option.some.inj hf
      exact W.zret (v := 1) hx hb hr (by rfl) (fun t ht hW => ⟨⟨_, (n97, rs98), rfl, ⟨rfl, hrs98⟩, by rw [ht]; exact hP, hD⟩, hS.F ht⟩) hS.2.2 dX3_shift_186
