-- laid by wip/p30/specs.py
noncomputable def l_X3_divide_23 (c1 : Int32) (R1 : HB) (R2 : FR) (R3 : KO) (L : Nat) (xs : (Nat → Int32)) (lr : Nat) (k : Int32 → Int32 → TD → Option (Int32 × TD × FR × KO)) : Nat → Int32 → Int32 → TD → Option (Int32 × TD × FR × KO)
  | 0, _, _, _ => none
  | n + 1, a7, a8, F9 => if a8 < 0 then (k a7 a8 F9) else (bnd (10 * a7) fun (v11 : Int32) => obd (f_X3_value F9 a8) fun x12 => bnd (v11 + x12) fun (v13 : Int32) => gd (nz32 c1) <| bnd (v13 / c1) fun (v15 : Int32) => obd (f_X3_set F9 a8 v15) fun x16 => gd (nz32 c1) <| bnd (v13 / c1) fun (v18 : Int32) => bnd (v18 * c1) fun (v19 : Int32) => bnd (v13 - v19) fun (v20 : Int32) => bnd (a8 + (-1)) fun (v21 : Int32) => l_X3_divide_23 c1 R1 R2 R3 L xs lr k n v20 v21 x16)
noncomputable def f_X3_divide (L : Nat) (xs : Nat → Int32) (lr : Nat) (T : TD) (Hb : HB) (F : FR) (K : KO) : Option (Int32 × TD × FR × KO) := obd (f_X3_draw L xs T 9) fun x1 => bnd (1 + x1.1) fun (v2 : Int32) => obd (f_X3_keep lr x1.2 K) fun x3 => bnd ((nI (tN x1.2)) - 1) fun (v6 : Int32) => l_X3_divide_23 v2 Hb F x3 L xs lr (fun (a40 : Int32) (a41 : Int32) (F42 : TD) => gd (gdec ((tNu F42) = (tNu T))) <| obd (f_X2_divide Hb F (tNu T) v2) fun x44 => if x44.1 = a40 then (some (1, F42, x44.2, x3)) else (some (0, F42, x44.2, x3))) 16 0 v6 x1.2
theorem pc_X3_divide : yX3_divide.cls = RX3 ∧ yX3_divide.cls ≠ "java/lang/invoke/MethodHandle" ∧ yX3_divide.cls ≠ "java/lang/invoke/VarHandle" ∧ (parseMethodDescriptor yX3_divide.desc).map (fun d => d.parameters.length) = some 0 := by decide +kernel
abbrev rm_X3_divide : Room := { frames := 5, cells := 2, slots := 29, locals := 127 }
set_option maxHeartbeats 4000000 in
set_option maxRecDepth 100000 in
theorem c_X3_divide (l : Launch) (dC : Nat → ClassId) (dI : Nat → Nat → Nat) (cI cF cJ cD : ClassId) (b L : Nat) (xs : Nat → Int32) (tA tB : Nat) (lr : Nat) (ot oh ou od ow oa ob ok os fa tr q0 q1 q2 q3 q4 q5 q6 q7 q8 : Nat) (rw : Nat → Option Nat) (rs : RS) (T : TD) (Hb : HB) (F : FR) (K : KO) (hq : f_X2_frameAt rw (tNu T) = some (some q0)) (hrs : rs.map Prod.snd = K) (res : (Int32 × TD × FR × KO)) (hf : f_X3_divide L xs lr T Hb F K = some res) (sz : Nat) : Met l yX3_divide (ws_ yX3_divide cX3_divide 5 (some .boolean)) rm_X3_divide (sbPre (dC, dI) (TY cI cF cJ cD) ((wTD cI cF cJ ot oh b ou od ow oa ob ok os T ++ (wHB cI cF cJ oh fa tr rw Hb ++ (wFR cI cF cJ q0 q1 q2 q3 q4 q5 q6 q7 q8 F ++ ([kOut cJ ok rs])))) ++ (kRows cI lr rs)) (fun sz U => EX b L xs tA tB (va_A ((wTD cI cF cJ ot oh b ou od ow oa ob ok os T ++ (wHB cI cF cJ oh fa tr rw Hb ++ (wFR cI cF cJ q0 q1 q2 q3 q4 q5 q6 q7 q8 F ++ ([kOut cJ ok rs])))) ++ (kRows cI lr rs)) sz) U) sz [.ref ot]) (va_Qi (fun (r : Int32) (u : Nat × RS) => r = res.1 ∧ u.2.map Prod.snd = res.2.2.2) (sbEnd (dC, dI) (fun (u : Nat × RS) => (wTD cI cF cJ ot oh b ou od ow oa ob u.1 os res.2.1 ++ (wHB cI cF cJ oh fa tr rw Hb ++ (wFR cI cF cJ q0 q1 q2 q3 q4 q5 q6 q7 q8 res.2.2.1 ++ ([kOut cJ u.1 u.2])))) ++ (kRows cI lr u.2)) (va_A ((wTD cI cF cJ ot oh b ou od ow oa ob ok os T ++ (wHB cI cF cJ oh fa tr rw Hb ++ (wFR cI cF cJ q0 q1 q2 q3 q4 q5 q6 q7 q8 F ++ ([kOut cJ ok rs])))) ++ (kRows cI lr rs)) sz)) (va_A ((wTD cI cF cJ ot oh b ou od ow oa ob ok os T ++ (wHB cI cF cJ oh fa tr rw Hb ++ (wFR cI cF cJ q0 q1 q2 q3 q4 q5 q6 q7 q8 F ++ ([kOut cJ ok rs])))) ++ (kRows cI lr rs)) sz)) 2 29 (va_A ((wTD cI cF cJ ot oh b ou od ow oa ob ok os T ++ (wHB cI cF cJ oh fa tr rw Hb ++ (wFR cI cF cJ q0 q1 q2 q3 q4 q5 q6 q7 q8 F ++ ([kOut cJ ok rs])))) ++ (kRows cI lr rs)) sz) := by
  refine Met.ofW (cc := cX3_divide) (maxL := 5) (ret := (some .boolean)) (by decide) rfl ?_
  intro p e s m args below meth c s₁ B hml hv
  obtain ⟨rfl, hsz, hP, hK, hD0, hE⟩ := hv
  have hx := B.exec
  have hb := B.bytes
  have hr := B.returns
  have hts0 := atoms_spec (ws := ws_ yX3_divide cX3_divide 5 (some .boolean)) B.pre
  have hts := fun (w : Cond) (h : w ∈ LW) => hts0 w (List.mem_cons_of_mem _ h)
  have hown : s.vm.findClass RX3 = some m.cls := findClass_of_methodNamed B.named
  have hlocks := B.notSynchronized
  subst hsz
  have hD := hD0.self (sz := s.heap.size)
  have hE : EX b L xs tA tB (va_A ((wTD cI cF cJ ot oh b ou od ow oa ob ok os T ++ (wHB cI cF cJ oh fa tr rw Hb ++ (wFR cI cF cJ q0 q1 q2 q3 q4 q5 q6 q7 q8 F ++ ([kOut cJ ok rs])))) ++ (kRows cI lr rs)) s.heap.size) s := hE
  generalize hAe : va_A ((wTD cI cF cJ ot oh b ou od ow oa ob ok os T ++ (wHB cI cF cJ oh fa tr rw Hb ++ (wFR cI cF cJ q0 q1 q2 q3 q4 q5 q6 q7 q8 F ++ ([kOut cJ ok rs])))) ++ (kRows cI lr rs)) s.heap.size = A at hD hE ⊢
  have hA : ∀ q : Nat, s.heap.size ≤ q → A q := fun q h => by rw [← hAe]; exact Or.inr h
  have hS : va_S A s.heap s.heap [] := va_S.rf
  have hkc := Nat.zero_le rm_X3_divide.cells
  have hks := Nat.zero_le rm_X3_divide.slots
  have hl := lv_entry ([.ref ot]) (n := 5) (Nat.le_of_ble_eq_true rfl)
  rw [lg_entry_eq]
  generalize (lg_sl ([.ref ot]) ++ List.replicate (5 - (lg_sl ([.ref ot])).length) Slot.unset).toArray = ls at hl ⊢
  have hl : lv_has ls 5 [(0, .ref ot)] := hl
  rw [f_X3_divide] at hf
  refine lv_iconst (v := 1) hx hb dX3_divide_0 (by decide) ?_
  refine lv_aload_n hx hb dX3_divide_1 rfl (lv_at hl 0 rfl) ?_
  refine lv_bipush (v := 9) hx hb dX3_divide_2 (by decide) ?_
  obtain ⟨x1, hx1, hf⟩ := obd_e hf
  refine sbT_Vi (As := [.int 9]) (rest := [.int 1]) ⟨hx, hb, hml, hown, hts⟩ (fun sz => c_X3_draw l dC dI cI cF cJ cD b L xs tA tB ot oh ou od ow oa ob ok os T 9  x1 hx1 sz) (cwV 1 hts (g_V q349 q350 q351 q352 q339) rfl rfl rfl pc_X3_draw ⟨Nat.le_of_ble_eq_true rfl, Nat.le_of_ble_eq_true rfl⟩) 0 3 rfl rfl hK hP hD hS hA [0, 1, 2, 3, 4, 5, 6] [7, 8, 9, 10, 11, 12, 13, 14, 15, 16, 17, 18] rfl rfl (by decide) (by decide) (by decide) EX_blind (fun U hU hW => EX_pass hE hS (va_free hD.left hS hA [0, 1, 2, 3, 4, 5, 6] rfl) hU hW) rfl rfl hl.1 (Nat.le_of_ble_eq_true rfl) dX3_divide_4 ⟨hkc, hks⟩ (fun r9 u H locs hr9 hP hD hS => ?_)
  have hr9 := Eq.symm hr9
  subst hr9
  have hP : va_P (dC, dI) vwCl ((wTD cI cF cJ ot oh b ou od ow oa ob ok os x1.2 ++ (wHB cI cF cJ oh fa tr rw Hb ++ (wFR cI cF cJ q0 q1 q2 q3 q4 q5 q6 q7 q8 F ++ ([kOut cJ ok rs])))) ++ (kRows cI lr rs)) H := va_P.part hP [12, 13, 14, 15, 16, 17, 18, 0, 1, 2, 3, 4, 5, 6, 7, 8, 9, 10, 11] rfl
  have hD : va_D A ((wTD cI cF cJ ot oh b ou od ow oa ob ok os x1.2 ++ (wHB cI cF cJ oh fa tr rw Hb ++ (wFR cI cF cJ q0 q1 q2 q3 q4 q5 q6 q7 q8 F ++ ([kOut cJ ok rs])))) ++ (kRows cI lr rs)) := va_D.part hD [12, 13, 14, 15, 16, 17, 18, 0, 1, 2, 3, 4, 5, 6, 7, 8, 9, 10, 11] (by decide) rfl
  refine lv_iadd hx hb dX3_divide_7 ?_
  refine lv_topi (fun v2 ev2 => ?_)
  have hf := bnd_all hf v2 ev2
  refine lv_istore_n (lv' := [(1, .int v2), (0, .ref ot)]) hx hb dX3_divide_8 rfl hl (by decide) rfl (fun ls hl => ?_)
  refine lv_iconst (v := 0) hx hb dX3_divide_9 (by decide) ?_
  refine lv_istore_n (lv' := [(2, .int 0), (1, .int v2), (0, .ref ot)]) hx hb dX3_divide_10 rfl hl (by decide) rfl (fun ls hl => ?_)
  refine lv_aload_n hx hb dX3_divide_11 rfl (lv_at hl 2 rfl) ?_
  obtain ⟨x3, hx3, hf⟩ := obd_e hf
  refine sbP_Vv (As := []) (rest := []) ⟨hx, hb, hml, hown, hts⟩ (fun sz => c_X3_keep l dC dI cI cF cJ cD b L xs tA tB lr ot oh ou od ow oa ob ok os rs x1.2 K hrs x3 hx3 sz) (cwV 0 hts (g_V q409 q410 q411 q352 q373) rfl rfl rfl pc_X3_keep ⟨Nat.le_of_ble_eq_true rfl, Nat.le_of_ble_eq_true rfl⟩) 0 3 rfl rfl hK hP hD hS hA [0, 1, 2, 3, 4, 5, 6, 18] [7, 8, 9, 10, 11, 12, 13, 14, 15, 16, 17] rfl rfl (by decide) (by decide) (by decide) EX_blind (fun U hU hW => EX_pass hE hS (va_freeP hD hS hA [0, 1, 2, 3, 4, 5, 6, 18] rfl) hU hW) rfl rfl hl.1 (Nat.le_of_ble_eq_true rfl) dX3_divide_12 ⟨Nat.le_of_ble_eq_true rfl, Nat.le_of_ble_eq_true rfl⟩ (fun u H locs hr9 hP hD hS => ?_)
  refine W.widen (k := 2) (n := 29) (Nat.le_refl _) (Nat.le_refl _) ?_
  have hrs5 := hr9
  obtain ⟨n4, rs5⟩ := u
  have hP : va_P (dC, dI) vwCl ((wTD cI cF cJ ot oh b ou od ow oa ob n4 os x1.2 ++ (wHB cI cF cJ oh fa tr rw Hb ++ (wFR cI cF cJ q0 q1 q2 q3 q4 q5 q6 q7 q8 F ++ ([kOut cJ n4 rs5])))) ++ (kRows cI lr rs5)) H := va_P.part hP [11, 12, 13, 14, 15, 16, 17, 0, 1, 2, 3, 4, 5, 6, 7, 8, 9, 10, 18] rfl
  have hD : va_D A ((wTD cI cF cJ ot oh b ou od ow oa ob n4 os x1.2 ++ (wHB cI cF cJ oh fa tr rw Hb ++ (wFR cI cF cJ q0 q1 q2 q3 q4 q5 q6 q7 q8 F ++ ([kOut cJ n4 rs5])))) ++ (kRows cI lr rs5)) := va_D.part hD [11, 12, 13, 14, 15, 16, 17, 0, 1, 2, 3, 4, 5, 6, 7, 8, 9, 10, 18] (by decide) rfl
  refine lv_aload_n hx hb dX3_divide_15 rfl (lv_at hl 2 rfl) ?_
  refine va_get (D := (dC, dI)) (ci := 3) (v := .ref ou) (C := RX3) (T := TX3) (N := 12) hx hb hts iX3 hown hK hP 0 rfl rfl 5 (by decide) (hts _ q345) (fun _ h9 => h9) rfl dX3_divide_16 ?_
  refine va_alen (v := (nI (tN x1.2))) hx hb hK hP 1 0 rfl rfl rfl dX3_divide_19 ?_
  refine lv_iconst (v := 1) hx hb dX3_divide_20 (by decide) ?_
  refine lv_isub hx hb dX3_divide_21 ?_
  refine lv_topi (fun v6 ev6 => ?_)
  have hf := bnd_all hf v6 ev6
  refine lv_istore_n (lv' := [(3, .int v6), (2, .int 0), (1, .int v2), (0, .ref ot)]) hx hb dX3_divide_22 rfl hl (by decide) rfl (fun ls hl => ?_)
  have L23 : ∀ (k : Int32 → Int32 → TD → Option (Int32 × TD × FR × KO)), (∀ (a22 : Int32) (a23 : Int32) (F24 : TD) (H : Heap) (locs : List Loc) (ls : Array Slot), va_P (dC, dI) vwCl ((wTD cI cF cJ ot oh b ou od ow oa ob n4 os F24 ++ (wHB cI cF cJ oh fa tr rw Hb ++ (wFR cI cF cJ q0 q1 q2 q3 q4 q5 q6 q7 q8 F ++ ([kOut cJ n4 rs5])))) ++ (kRows cI lr rs5)) H → va_D A ((wTD cI cF cJ ot oh b ou od ow oa ob n4 os F24 ++ (wHB cI cF cJ oh fa tr rw Hb ++ (wFR cI cF cJ q0 q1 q2 q3 q4 q5 q6 q7 q8 F ++ ([kOut cJ n4 rs5])))) ++ (kRows cI lr rs5)) → va_S A s.heap H locs → lv_has ls 5 [(2, .int a22), (0, .ref ot), (1, .int v2)] → k a22 a23 F24 = some res → W p l e (headSpec (ws_ yX3_divide cX3_divide 5 (some .boolean)) rm_X3_divide).room s m ([.ref ot].toArray) below meth c H locs 2 29 (MQ below (va_Qi (fun (r : Int32) (u : Nat × RS) => r = res.1 ∧ u.2.map Prod.snd = res.2.2.2) (sbEnd (dC, dI) (fun (u : Nat × RS) => (wTD cI cF cJ ot oh b ou od ow oa ob u.1 os res.2.1 ++ (wHB cI cF cJ oh fa tr rw Hb ++ (wFR cI cF cJ q0 q1 q2 q3 q4 q5 q6 q7 q8 res.2.2.1 ++ ([kOut cJ u.1 u.2])))) ++ (kRows cI lr u.2)) (A)) (A)) ([.ref ot].toArray) s 2 29 A) (F0 m 64 ls [])) → ∀ (n : Nat) (a22 : Int32) (a23 : Int32) (F24 : TD) (H : Heap) (locs : List Loc) (ls : Array Slot), va_P (dC, dI) vwCl ((wTD cI cF cJ ot oh b ou od ow oa ob n4 os F24 ++ (wHB cI cF cJ oh fa tr rw Hb ++ (wFR cI cF cJ q0 q1 q2 q3 q4 q5 q6 q7 q8 F ++ ([kOut cJ n4 rs5])))) ++ (kRows cI lr rs5)) H → va_D A ((wTD cI cF cJ ot oh b ou od ow oa ob n4 os F24 ++ (wHB cI cF cJ oh fa tr rw Hb ++ (wFR cI cF cJ q0 q1 q2 q3 q4 q5 q6 q7 q8 F ++ ([kOut cJ n4 rs5])))) ++ (kRows cI lr rs5)) → va_S A s.heap H locs → lv_has ls 5 [(2, .int a22), (3, .int a23), (0, .ref ot), (1, .int v2)] → l_X3_divide_23 v2 Hb F x3 L xs lr k n a22 a23 F24 = some res → W p l e (headSpec (ws_ yX3_divide cX3_divide 5 (some .boolean)) rm_X3_divide).room s m ([.ref ot].toArray) below meth c H locs 2 29 (MQ below (va_Qi (fun (r : Int32) (u : Nat × RS) => r = res.1 ∧ u.2.map Prod.snd = res.2.2.2) (sbEnd (dC, dI) (fun (u : Nat × RS) => (wTD cI cF cJ ot oh b ou od ow oa ob u.1 os res.2.1 ++ (wHB cI cF cJ oh fa tr rw Hb ++ (wFR cI cF cJ q0 q1 q2 q3 q4 q5 q6 q7 q8 res.2.2.1 ++ ([kOut cJ u.1 u.2])))) ++ (kRows cI lr u.2)) (A)) (A)) ([.ref ot].toArray) s 2 29 A) (F0 m 23 ls []) := by
    intro k hk n
    induction n with
    | zero =>
      intro a25 a26 F27 H locs ls hP hD hS hl hf
      rw [l_X3_divide_23] at hf
      cases hf
    | succ n ih =>
      intro a25 a26 F27 H locs ls hP hD hS hl hf
      rw [l_X3_divide_23] at hf
      refine lv_iload_n hx hb dX3_divide_23 rfl (lv_at hl 1 rfl) ?_
      refine lv_if_lt (tgt := 64) hx hb dX3_divide_24 (by decide) (fun c28 => ?_) (fun c28 => ?_)
      · have hf := ite_t hf c28
        exact hk a25 a26 F27 _ _ _ hP hD hS (lv_sub hl [0, 2, 3] rfl) hf
      · have hf := ite_f hf c28
        refine lv_bipush (v := 10) hx hb dX3_divide_27 (by decide) ?_
        refine lv_iload_n hx hb dX3_divide_29 rfl (lv_at hl 0 rfl) ?_
        refine lv_imul hx hb dX3_divide_30 ?_
        refine lv_topi (fun v29 ev29 => ?_)
        have hf := bnd_all hf v29 ev29
        refine lv_aload_n hx hb dX3_divide_31 rfl (lv_at hl 2 rfl) ?_
        refine lv_iload_n hx hb dX3_divide_32 rfl (lv_at hl 1 rfl) ?_
        obtain ⟨x30, hx30, hf⟩ := obd_e hf
        refine sbT_Vi (As := [.int a26]) (rest := [.int v29]) ⟨hx, hb, hml, hown, hts⟩ (fun sz => c_X3_value l dC dI cI cF cJ cD ot oh b ou od ow oa ob n4 os F27 a26  x30 hx30 sz) (cwV 1 hts (g_V q369 q370 q371 q352 q366) rfl rfl rfl pc_X3_value ⟨Nat.le_of_ble_eq_true rfl, Nat.le_of_ble_eq_true rfl⟩) 0 3 rfl rfl hK hP hD hS hA [0, 1, 2, 3, 4, 5, 6] [7, 8, 9, 10, 11, 12, 13, 14, 15, 16, 17, 18] rfl rfl (by decide) (by decide) (by decide) (fun _ _ _ _ h => h) (fun _ _ _ => trivial) rfl rfl hl.1 (Nat.le_of_ble_eq_true rfl) dX3_divide_33 ⟨Nat.le_of_ble_eq_true rfl, Nat.le_of_ble_eq_true rfl⟩ (fun r9 u H locs hr9 hP hD hS => ?_)
        have hr9 := Eq.symm hr9
        subst hr9
        have hP : va_P (dC, dI) vwCl ((wTD cI cF cJ ot oh b ou od ow oa ob n4 os F27 ++ (wHB cI cF cJ oh fa tr rw Hb ++ (wFR cI cF cJ q0 q1 q2 q3 q4 q5 q6 q7 q8 F ++ ([kOut cJ n4 rs5])))) ++ (kRows cI lr rs5)) H := va_P.part hP [12, 13, 14, 15, 16, 17, 18, 0, 1, 2, 3, 4, 5, 6, 7, 8, 9, 10, 11] rfl
        have hD : va_D A ((wTD cI cF cJ ot oh b ou od ow oa ob n4 os F27 ++ (wHB cI cF cJ oh fa tr rw Hb ++ (wFR cI cF cJ q0 q1 q2 q3 q4 q5 q6 q7 q8 F ++ ([kOut cJ n4 rs5])))) ++ (kRows cI lr rs5)) := va_D.part hD [12, 13, 14, 15, 16, 17, 18, 0, 1, 2, 3, 4, 5, 6, 7, 8, 9, 10, 11] (by decide) rfl
        refine lv_iadd hx hb dX3_divide_36 ?_
        refine lv_topi (fun v31 ev31 => ?_)
        have hf := bnd_all hf v31 ev31
        refine lv_istore (lv' := [(4, .int v31), (2, .int a25), (3, .int a26), (0, .ref ot), (1, .int v2)]) hx hb dX3_divide_37 hl (by decide) rfl (fun ls hl => ?_)
        refine lv_aload_n hx hb dX3_divide_39 rfl (lv_at hl 3 rfl) ?_
        refine lv_iload_n hx hb dX3_divide_40 rfl (lv_at hl 2 rfl) ?_
        refine lv_iload hx hb dX3_divide_41 (lv_at hl 0 rfl) ?_
        refine lv_iload_n hx hb dX3_divide_43 rfl (lv_at hl 4 rfl) ?_
        obtain ⟨g32, hf⟩ := gd_e hf
        refine lv_idiv hx hb dX3_divide_44 (nz32_e g32) ?_
        refine lv_topi (fun v33 ev33 => ?_)
        have hf := bnd_all hf v33 ev33
        obtain ⟨x34, hx34, hf⟩ := obd_e hf
        refine sbT_Vv (As := [.int a26, .int v33]) (rest := []) ⟨hx, hb, hml, hown, hts⟩ (fun sz => c_X3_set l dC dI cI cF cJ cD ot oh b ou od ow oa ob n4 os F27 a26 v33  x34 hx34 sz) (cwV 2 hts (g_V q394 q395 q396 q352 q393) rfl rfl rfl pc_X3_set ⟨Nat.le_of_ble_eq_true rfl, Nat.le_of_ble_eq_true rfl⟩) 0 3 rfl rfl hK hP hD hS hA [0, 1, 2, 3, 4, 5, 6] [7, 8, 9, 10, 11, 12, 13, 14, 15, 16, 17, 18] rfl rfl (by decide) (by decide) (by decide) (fun _ _ _ _ h => h) (fun _ _ _ => trivial) rfl rfl hl.1 (Nat.le_of_ble_eq_true rfl) dX3_divide_45 ⟨Nat.le_of_ble_eq_true rfl, Nat.le_of_ble_eq_true rfl⟩ (fun u H locs hr9 hP hD hS => ?_)
        have hP : va_P (dC, dI) vwCl ((wTD cI cF cJ ot oh b ou od ow oa ob n4 os x34 ++ (wHB cI cF cJ oh fa tr rw Hb ++ (wFR cI cF cJ q0 q1 q2 q3 q4 q5 q6 q7 q8 F ++ ([kOut cJ n4 rs5])))) ++ (kRows cI lr rs5)) H := va_P.part hP [12, 13, 14, 15, 16, 17, 18, 0, 1, 2, 3, 4, 5, 6, 7, 8, 9, 10, 11] rfl
        have hD : va_D A ((wTD cI cF cJ ot oh b ou od ow oa ob n4 os x34 ++ (wHB cI cF cJ oh fa tr rw Hb ++ (wFR cI cF cJ q0 q1 q2 q3 q4 q5 q6 q7 q8 F ++ ([kOut cJ n4 rs5])))) ++ (kRows cI lr rs5)) := va_D.part hD [12, 13, 14, 15, 16, 17, 18, 0, 1, 2, 3, 4, 5, 6, 7, 8, 9, 10, 11] (by decide) rfl
        refine lv_iload hx hb dX3_divide_48 (lv_at hl 0 rfl) ?_
        refine lv_iload hx hb dX3_divide_50 (lv_at hl 0 rfl) ?_
        refine lv_iload_n hx hb dX3_divide_52 rfl (lv_at hl 4 rfl) ?_
        obtain ⟨g35, hf⟩ := gd_e hf
        refine lv_idiv hx hb dX3_divide_53 (nz32_e g35) ?_
        refine lv_topi (fun v36 ev36 => ?_)
        have hf := bnd_all hf v36 ev36
        refine lv_iload_n hx hb dX3_divide_54 rfl (lv_at hl 4 rfl) ?_
        refine lv_imul hx hb dX3_divide_55 ?_
        refine lv_topi (fun v37 ev37 => ?_)
        have hf := bnd_all hf v37 ev37
        refine lv_isub hx hb dX3_divide_56 ?_
        refine lv_topi (fun v38 ev38 => ?_)
        have hf := bnd_all hf v38 ev38
        refine lv_istore_n (lv' := [(2, .int v38), (4, .int v31), (3, .int a26), (0, .ref ot), (1, .int v2)]) hx hb dX3_divide_57 rfl hl (by decide) rfl (fun ls hl => ?_)
        obtain ⟨v39, ev39⟩ : ∃ y : Int32, y = a26 + (-1) := ⟨_, rfl⟩
        have hf := bnd_all hf v39 ev39
        refine lv_iinc (v := v39) (lv' := [(3, .int v39), (2, .int v38), (4, .int v31), (0, .ref ot), (1, .int v2)]) hx hb dX3_divide_58 hl (k := 2) rfl (by rw [ev39]; rfl) (by decide) rfl (fun ls hl => ?_)
        refine lv_goto (tgt := 23) hx hb dX3_divide_61 (by decide) ?_
        exact ih v38 v39 x34 _ _ _ hP hD hS (lv_sub hl [1, 0, 3, 4] rfl) hf
  refine L23 _ (fun a40 a41 F42 H locs ls hP hD hS hl hf => ?_) 16 0 v6 x1.2 _ _ _ hP hD hS (lv_sub hl [1, 0, 3, 2] rfl) hf
  refine lv_aload_n hx hb dX3_divide_64 rfl (lv_at hl 1 rfl) ?_
  refine va_get (D := (dC, dI)) (ci := 3) (v := .ref oh) (C := RX3) (T := TX3) (N := 12) hx hb hts iX3 hown hK hP 0 rfl rfl 0 (by decide) (hts _ q332) (fun _ h9 => h9) rfl dX3_divide_65 ?_
  refine lv_aload_n hx hb dX3_divide_68 rfl (lv_at hl 1 rfl) ?_
  refine va_get (D := (dC, dI)) (ci := 3) (v := .int (tNu F42)) (C := RX3) (T := TX3) (N := 12) hx hb hts iX3 hown hK hP 0 rfl rfl 3 (by decide) (hts _ q343) (fun _ h9 => h9) rfl dX3_divide_69 ?_
  obtain ⟨g43, hf⟩ := gd_e hf
  refine sb_topv (v' := .int (tNu T)) (congrArg Value.int (gdec_e g43)) ?_
  refine lv_iload_n hx hb dX3_divide_72 rfl (lv_at hl 2 rfl) ?_
  obtain ⟨x44, hx44, hf⟩ := obd_e hf
  refine sbT_Vi (As := [.int (tNu T), .int v2]) (rest := []) ⟨hx, hb, hml, hown, hts⟩ (fun sz => c_X2_divide l dC dI cI cF cJ cD oh fa tr q0 q1 q2 q3 q4 q5 q6 q7 q8 rw Hb F (tNu T) v2 hq x44 hx44 sz) (cwV 2 hts (g_V q434 q435 q436 q172 q225) rfl rfl rfl pc_X2_divide ⟨Nat.le_of_ble_eq_true rfl, Nat.le_of_ble_eq_true rfl⟩) 0 2 rfl rfl hK hP hD hS hA [7, 8, 9, 10, 11, 12, 13, 14, 15, 16, 17] [0, 1, 2, 3, 4, 5, 6, 18] rfl rfl (by decide) (by decide) (by decide) (fun _ _ _ _ h => h) (fun _ _ _ => trivial) rfl rfl hl.1 (Nat.le_of_ble_eq_true rfl) dX3_divide_73 ⟨Nat.le_of_ble_eq_true rfl, Nat.le_of_ble_eq_true rfl⟩ (fun r9 u H locs hr9 hP hD hS => ?_)
  have hr9 := Eq.symm hr9
  subst hr9
  have hP : va_P (dC, dI) vwCl ((wTD cI cF cJ ot oh b ou od ow oa ob n4 os F42 ++ (wHB cI cF cJ oh fa tr rw Hb ++ (wFR cI cF cJ q0 q1 q2 q3 q4 q5 q6 q7 q8 x44.2 ++ ([kOut cJ n4 rs5])))) ++ (kRows cI lr rs5)) H := va_P.part hP [0, 1, 2, 3, 4, 5, 6, 8, 9, 10, 11, 12, 13, 14, 15, 16, 17, 18, 7] rfl
  have hD : va_D A ((wTD cI cF cJ ot oh b ou od ow oa ob n4 os F42 ++ (wHB cI cF cJ oh fa tr rw Hb ++ (wFR cI cF cJ q0 q1 q2 q3 q4 q5 q6 q7 q8 x44.2 ++ ([kOut cJ n4 rs5])))) ++ (kRows cI lr rs5)) := va_D.part hD [0, 1, 2, 3, 4, 5, 6, 8, 9, 10, 11, 12, 13, 14, 15, 16, 17, 18, 7] (by decide) rfl
  refine lv_iload_n hx hb dX3_divide_76 rfl (lv_at hl 0 rfl) ?_
  refine lv_icmp_ne (tgt := 84) hx hb dX3_divide_77 (by decide) (fun c45 => ?_) (fun c45 => ?_)
  · have hf := ite_f hf c45
    refine lv_iconst (v := 0) hx hb dX3_divide_84 (by decide) ?_
    obtain rfl := Option.some.inj hf
    exact W.zret (v := 0) hx hb hr (by rfl) (fun t ht hW => ⟨⟨_, (n4, rs5), rfl, ⟨rfl, hrs5⟩, by rw [ht]; exact hP, hD⟩, hS.F ht⟩) hS.2.2 dX3_divide_85
  · have hf := ite_t hf c45
    refine lv_iconst (v := 1) hx hb dX3_divide_80 (by decide) ?_
    refine lv_goto (tgt := 85) hx hb dX3_divide_81 (by decide) ?_
    obtain rfl := Option.some.inj hf
    exact W.zret (v := 1) hx hb hr (by rfl) (fun t ht hW => ⟨⟨_, (n4, rs5), rfl, ⟨rfl, hrs5⟩, by rw [ht]; exact hP, hD⟩, hS.F ht⟩) hS.2.2 dX3_divide_85
noncomputable def f_X3_sets (L : Nat) (xs : Nat → Int32) (lr : Nat) (T : TD) (Hb : HB) (F : FR) (K : KO) : Option (Int32 × TD × FR × KO) := obd (f_X3_draw L xs T (nI (tN T))) fun x1 => obd (f_X3_most x1.2) fun x2 => bnd (x2 + 1) fun (v3 : Int32) => obd (f_X3_draw L xs x1.2 v3) fun x4 => gd (gin 0 5) <| bnd ((tSm x4.2) (Int32.toNatClampNeg 0)) fun (v6 : Int32) => obd (f_X3_keep lr x4.2 K) fun x7 => obd (f_X3_set x4.2 x1.1 x4.1) fun x10 => gd (gdec ((tNu x10) = (tNu T))) <| obd (f_X2_set Hb F (tNu T) x1.1 x4.1) fun x12 => gd (gin 0 5) <| bnd ((tSm x10) (Int32.toNatClampNeg 0)) fun (v14 : Int32) => bnd (v14 - v6) fun (v15 : Int32) => if x12.1 = v15 then (some (1, x10, x12.2, x7)) else (some (0, x10, x12.2, x7))
theorem pc_X3_sets : yX3_sets.cls = RX3 ∧ yX3_sets.cls ≠ "java/lang/invoke/MethodHandle" ∧ yX3_sets.cls ≠ "java/lang/invoke/VarHandle" ∧ (parseMethodDescriptor yX3_sets.desc).map (fun d => d.parameters.length) = some 0 := by decide +kernel
abbrev rm_X3_sets : Room := { frames := 5, cells := 2, slots := 29, locals := 112 }
set_option maxHeartbeats 4000000 in
set_option maxRecDepth 100000 in
theorem c_X3_sets (l : Launch) (dC : Nat → ClassId) (dI : Nat → Nat → Nat) (cI cF cJ cD : ClassId) (b L : Nat) (xs : Nat → Int32) (tA tB : Nat) (lr : Nat) (ot oh ou od ow oa ob ok os fa tr q0 q1 q2 q3 q4 q5 q6 q7 q8 : Nat) (rw : Nat → Option Nat) (rs : RS) (T : TD) (Hb : HB) (F : FR) (K : KO) (hq : f_X2_frameAt rw (tNu T) = some (some q0)) (hrs : rs.map Prod.snd = K) (res : (Int32 × TD × FR × KO)) (hf : f_X3_sets L xs lr T Hb F K = some res) (sz : Nat) : Met l yX3_sets (ws_ yX3_sets cX3_sets 4 (some .boolean)) rm_X3_sets (sbPre (dC, dI) (TY cI cF cJ cD) ((wTD cI cF cJ ot oh b ou od ow oa ob ok os T ++ (wHB cI cF cJ oh fa tr rw Hb ++ (wFR cI cF cJ q0 q1 q2 q3 q4 q5 q6 q7 q8 F ++ ([kOut cJ ok rs])))) ++ (kRows cI lr rs)) (fun sz U => EX b L xs tA tB (va_A ((wTD cI cF cJ ot oh b ou od ow oa ob ok os T ++ (wHB cI cF cJ oh fa tr rw Hb ++ (wFR cI cF cJ q0 q1 q2 q3 q4 q5 q6 q7 q8 F ++ ([kOut cJ ok rs])))) ++ (kRows cI lr rs)) sz) U) sz [.ref ot]) (va_Qi (fun (r : Int32) (u : Nat × RS) => r = res.1 ∧ u.2.map Prod.snd = res.2.2.2) (sbEnd (dC, dI) (fun (u : Nat × RS) => (wTD cI cF cJ ot oh b ou od ow oa ob u.1 os res.2.1 ++ (wHB cI cF cJ oh fa tr rw Hb ++ (wFR cI cF cJ q0 q1 q2 q3 q4 q5 q6 q7 q8 res.2.2.1 ++ ([kOut cJ u.1 u.2])))) ++ (kRows cI lr u.2)) (va_A ((wTD cI cF cJ ot oh b ou od ow oa ob ok os T ++ (wHB cI cF cJ oh fa tr rw Hb ++ (wFR cI cF cJ q0 q1 q2 q3 q4 q5 q6 q7 q8 F ++ ([kOut cJ ok rs])))) ++ (kRows cI lr rs)) sz)) (va_A ((wTD cI cF cJ ot oh b ou od ow oa ob ok os T ++ (wHB cI cF cJ oh fa tr rw Hb ++ (wFR cI cF cJ q0 q1 q2 q3 q4 q5 q6 q7 q8 F ++ ([kOut cJ ok rs])))) ++ (kRows cI lr rs)) sz)) 2 29 (va_A ((wTD cI cF cJ ot oh b ou od ow oa ob ok os T ++ (wHB cI cF cJ oh fa tr rw Hb ++ (wFR cI cF cJ q0 q1 q2 q3 q4 q5 q6 q7 q8 F ++ ([kOut cJ ok rs])))) ++ (kRows cI lr rs)) sz) := by
  refine Met.ofW (cc := cX3_sets) (maxL := 4) (ret := (some .boolean)) (by decide) rfl ?_
  intro p e s m args below meth c s₁ B hml hv
  obtain ⟨rfl, hsz, hP, hK, hD0, hE⟩ := hv
  have hx := B.exec
  have hb := B.bytes
  have hr := B.returns
  have hts0 := atoms_spec (ws := ws_ yX3_sets cX3_sets 4 (some .boolean)) B.pre
  have hts := fun (w : Cond) (h : w ∈ LW) => hts0 w (List.mem_cons_of_mem _ h)
  have hown : s.vm.findClass RX3 = some m.cls := findClass_of_methodNamed B.named
  have hlocks := B.notSynchronized
  subst hsz
  have hD := hD0.self (sz := s.heap.size)
  have hE : EX b L xs tA tB (va_A ((wTD cI cF cJ ot oh b ou od ow oa ob ok os T ++ (wHB cI cF cJ oh fa tr rw Hb ++ (wFR cI cF cJ q0 q1 q2 q3 q4 q5 q6 q7 q8 F ++ ([kOut cJ ok rs])))) ++ (kRows cI lr rs)) s.heap.size) s := hE
  generalize hAe : va_A ((wTD cI cF cJ ot oh b ou od ow oa ob ok os T ++ (wHB cI cF cJ oh fa tr rw Hb ++ (wFR cI cF cJ q0 q1 q2 q3 q4 q5 q6 q7 q8 F ++ ([kOut cJ ok rs])))) ++ (kRows cI lr rs)) s.heap.size = A at hD hE ⊢
  have hA : ∀ q : Nat, s.heap.size ≤ q → A q := fun q h => by rw [← hAe]; exact Or.inr h
  have hS : va_S A s.heap s.heap [] := va_S.rf
  have hkc := Nat.zero_le rm_X3_sets.cells
  have hks := Nat.zero_le rm_X3_sets.slots
  have hl := lv_entry ([.ref ot]) (n := 4) (Nat.le_of_ble_eq_true rfl)
  rw [lg_entry_eq]
  generalize (lg_sl ([.ref ot]) ++ List.replicate (4 - (lg_sl ([.ref ot])).length) Slot.unset).toArray = ls at hl ⊢
  have hl : lv_has ls 4 [(0, .ref ot)] := hl
  rw [f_X3_sets] at hf
  refine lv_aload_n hx hb dX3_sets_0 rfl (lv_at hl 0 rfl) ?_
  refine lv_aload_n hx hb dX3_sets_1 rfl (lv_at hl 0 rfl) ?_
  refine va_get (D := (dC, dI)) (ci := 3) (v := .ref ou) (C := RX3) (T := TX3) (N := 12) hx hb hts iX3 hown hK hP 0 rfl rfl 5 (by decide) (hts _ q345) (fun _ h9 => h9) rfl dX3_sets_2 ?_
  refine va_alen (v := (nI (tN T))) hx hb hK hP 1 0 rfl rfl rfl dX3_sets_5 ?_
  obtain ⟨x1, hx1, hf⟩ := obd_e hf
  refine sbT_Vi (As := [.int (nI (tN T))]) (rest := []) ⟨hx, hb, hml, hown, hts⟩ (fun sz => c_X3_draw l dC dI cI cF cJ cD b L xs tA tB ot oh ou od ow oa ob ok os T (nI (tN T))  x1 hx1 sz) (cwV 1 hts (g_V q349 q350 q351 q352 q339) rfl rfl rfl pc_X3_draw ⟨Nat.le_of_ble_eq_true rfl, Nat.le_of_ble_eq_true rfl⟩) 0 3 rfl rfl hK hP hD hS hA [0, 1, 2, 3, 4, 5, 6] [7, 8, 9, 10, 11, 12, 13, 14, 15, 16, 17, 18] rfl rfl (by decide) (by decide) (by decide) EX_blind (fun U hU hW => EX_pass hE hS (va_free hD.left hS hA [0, 1, 2, 3, 4, 5, 6] rfl) hU hW) rfl rfl hl.1 (Nat.le_of_ble_eq_true rfl) dX3_sets_6 ⟨hkc, hks⟩ (fun r9 u H locs hr9 hP hD hS => ?_)
  have hr9 := Eq.symm hr9
  subst hr9
  have hP : va_P (dC, dI) vwCl ((wTD cI cF cJ ot oh b ou od ow oa ob ok os x1.2 ++ (wHB cI cF cJ oh fa tr rw Hb ++ (wFR cI cF cJ q0 q1 q2 q3 q4 q5 q6 q7 q8 F ++ ([kOut cJ ok rs])))) ++ (kRows cI lr rs)) H := va_P.part hP [12, 13, 14, 15, 16, 17, 18, 0, 1, 2, 3, 4, 5, 6, 7, 8, 9, 10, 11] rfl
  have hD : va_D A ((wTD cI cF cJ ot oh b ou od ow oa ob ok os x1.2 ++ (wHB cI cF cJ oh fa tr rw Hb ++ (wFR cI cF cJ q0 q1 q2 q3 q4 q5 q6 q7 q8 F ++ ([kOut cJ ok rs])))) ++ (kRows cI lr rs)) := va_D.part hD [12, 13, 14, 15, 16, 17, 18, 0, 1, 2, 3, 4, 5, 6, 7, 8, 9, 10, 11] (by decide) rfl
  refine lv_istore_n (lv' := [(1, .int x1.1), (0, .ref ot)]) hx hb dX3_sets_9 rfl hl (by decide) rfl (fun ls hl => ?_)
  refine lv_aload_n hx hb dX3_sets_10 rfl (lv_at hl 1 rfl) ?_
  refine lv_aload_n hx hb dX3_sets_11 rfl (lv_at hl 1 rfl) ?_
  obtain ⟨x2, hx2, hf⟩ := obd_e hf
  refine sbT_Vi (As := []) (rest := [.ref ot]) ⟨hx, hb, hml, hown, hts⟩ (fun sz => c_X3_most l dC dI cI cF cJ cD ot oh b ou od ow oa ob ok os x1.2  x2 hx2 sz) (cwV 0 hts (g_V q450 q451 q452 q352 q359) rfl rfl rfl pc_X3_most ⟨Nat.le_of_ble_eq_true rfl, Nat.le_of_ble_eq_true rfl⟩) 0 3 rfl rfl hK hP hD hS hA [0, 1, 2, 3, 4, 5, 6] [7, 8, 9, 10, 11, 12, 13, 14, 15, 16, 17, 18] rfl rfl (by decide) (by decide) (by decide) (fun _ _ _ _ h => h) (fun _ _ _ => trivial) rfl rfl hl.1 (Nat.le_of_ble_eq_true rfl) dX3_sets_12 ⟨hkc, hks⟩ (fun r9 u H locs hr9 hP hD hS => ?_)
  have hr9 := Eq.symm hr9
  subst hr9
  have hP : va_P (dC, dI) vwCl ((wTD cI cF cJ ot oh b ou od ow oa ob ok os x1.2 ++ (wHB cI cF cJ oh fa tr rw Hb ++ (wFR cI cF cJ q0 q1 q2 q3 q4 q5 q6 q7 q8 F ++ ([kOut cJ ok rs])))) ++ (kRows cI lr rs)) H := va_P.part hP [12, 13, 14, 15, 16, 17, 18, 0, 1, 2, 3, 4, 5, 6, 7, 8, 9, 10, 11] rfl
  have hD : va_D A ((wTD cI cF cJ ot oh b ou od ow oa ob ok os x1.2 ++ (wHB cI cF cJ oh fa tr rw Hb ++ (wFR cI cF cJ q0 q1 q2 q3 q4 q5 q6 q7 q8 F ++ ([kOut cJ ok rs])))) ++ (kRows cI lr rs)) := va_D.part hD [12, 13, 14, 15, 16, 17, 18, 0, 1, 2, 3, 4, 5, 6, 7, 8, 9, 10, 11] (by decide) rfl
  refine lv_iconst (v := 1) hx hb dX3_sets_15 (by decide) ?_
  refine lv_iadd hx hb dX3_sets_16 ?_
  refine lv_topi (fun v3 ev3 => ?_)
  have hf := bnd_all hf v3 ev3
  obtain ⟨x4, hx4, hf⟩ := obd_e hf
  refine sbT_Vi (As := [.int v3]) (rest := []) ⟨hx, hb, hml, hown, hts⟩ (fun sz => c_X3_draw l dC dI cI cF cJ cD b L xs tA tB ot oh ou od ow oa ob ok os x1.2 v3  x4 hx4 sz) (cwV 1 hts (g_V q349 q350 q351 q352 q339) rfl rfl rfl pc_X3_draw ⟨Nat.le_of_ble_eq_true rfl, Nat.le_of_ble_eq_true rfl⟩) 0 3 rfl rfl hK hP hD hS hA [0, 1, 2, 3, 4, 5, 6] [7, 8, 9, 10, 11, 12, 13, 14, 15, 16, 17, 18] rfl rfl (by decide) (by decide) (by decide) EX_blind (fun U hU hW => EX_pass hE hS (va_free hD.left hS hA [0, 1, 2, 3, 4, 5, 6] rfl) hU hW) rfl rfl hl.1 (Nat.le_of_ble_eq_true rfl) dX3_sets_17 ⟨hkc, hks⟩ (fun r9 u H locs hr9 hP hD hS => ?_)
  have hr9 := Eq.symm hr9
  subst hr9
  have hP : va_P (dC, dI) vwCl ((wTD cI cF cJ ot oh b ou od ow oa ob ok os x4.2 ++ (wHB cI cF cJ oh fa tr rw Hb ++ (wFR cI cF cJ q0 q1 q2 q3 q4 q5 q6 q7 q8 F ++ ([kOut cJ ok rs])))) ++ (kRows cI lr rs)) H := va_P.part hP [12, 13, 14, 15, 16, 17, 18, 0, 1, 2, 3, 4, 5, 6, 7, 8, 9, 10, 11] rfl
  have hD : va_D A ((wTD cI cF cJ ot oh b ou od ow oa ob ok os x4.2 ++ (wHB cI cF cJ oh fa tr rw Hb ++ (wFR cI cF cJ q0 q1 q2 q3 q4 q5 q6 q7 q8 F ++ ([kOut cJ ok rs])))) ++ (kRows cI lr rs)) := va_D.part hD [12, 13, 14, 15, 16, 17, 18, 0, 1, 2, 3, 4, 5, 6, 7, 8, 9, 10, 11] (by decide) rfl
  refine lv_istore_n (lv' := [(2, .int x4.1), (1, .int x1.1), (0, .ref ot)]) hx hb dX3_sets_20 rfl hl (by decide) rfl (fun ls hl => ?_)
  refine lv_aload_n hx hb dX3_sets_21 rfl (lv_at hl 2 rfl) ?_
  refine va_get (D := (dC, dI)) (ci := 3) (v := .ref os) (C := RX3) (T := TX3) (N := 12) hx hb hts iX3 hown hK hP 0 rfl rfl 9 (by decide) (hts _ q331) (fun _ h9 => h9) rfl dX3_sets_22 ?_
  refine lv_iconst (v := 0) hx hb dX3_sets_25 (by decide) ?_
  obtain ⟨g5, hf⟩ := gd_e hf
  refine va_iald hx hb hK hP 6 0 rfl rfl (gin_in g5) dX3_sets_26 ?_
  refine lv_topi (fun v6 ev6 => ?_)
  have hf := bnd_all hf v6 ev6
  refine lv_istore_n (lv' := [(3, .int v6), (2, .int x4.1), (1, .int x1.1), (0, .ref ot)]) hx hb dX3_sets_27 rfl hl (by decide) rfl (fun ls hl => ?_)
  refine lv_aload_n hx hb dX3_sets_28 rfl (lv_at hl 3 rfl) ?_
  obtain ⟨x7, hx7, hf⟩ := obd_e hf
  refine sbP_Vv (As := []) (rest := []) ⟨hx, hb, hml, hown, hts⟩ (fun sz => c_X3_keep l dC dI cI cF cJ cD b L xs tA tB lr ot oh ou od ow oa ob ok os rs x4.2 K hrs x7 hx7 sz) (cwV 0 hts (g_V q409 q410 q411 q352 q373) rfl rfl rfl pc_X3_keep ⟨Nat.le_of_ble_eq_true rfl, Nat.le_of_ble_eq_true rfl⟩) 0 3 rfl rfl hK hP hD hS hA [0, 1, 2, 3, 4, 5, 6, 18] [7, 8, 9, 10, 11, 12, 13, 14, 15, 16, 17] rfl rfl (by decide) (by decide) (by decide) EX_blind (fun U hU hW => EX_pass hE hS (va_freeP hD hS hA [0, 1, 2, 3, 4, 5, 6, 18] rfl) hU hW) rfl rfl hl.1 (Nat.le_of_ble_eq_true rfl) dX3_sets_29 ⟨Nat.le_of_ble_eq_true rfl, Nat.le_of_ble_eq_true rfl⟩ (fun u H locs hr9 hP hD hS => ?_)
  refine W.widen (k := 2) (n := 29) (Nat.le_refl _) (Nat.le_refl _) ?_
  have hrs9 := hr9
  obtain ⟨n8, rs9⟩ := u
  have hP : va_P (dC, dI) vwCl ((wTD cI cF cJ ot oh b ou od ow oa ob n8 os x4.2 ++ (wHB cI cF cJ oh fa tr rw Hb ++ (wFR cI cF cJ q0 q1 q2 q3 q4 q5 q6 q7 q8 F ++ ([kOut cJ n8 rs9])))) ++ (kRows cI lr rs9)) H := va_P.part hP [11, 12, 13, 14, 15, 16, 17, 0, 1, 2, 3, 4, 5, 6, 7, 8, 9, 10, 18] rfl
  have hD : va_D A ((wTD cI cF cJ ot oh b ou od ow oa ob n8 os x4.2 ++ (wHB cI cF cJ oh fa tr rw Hb ++ (wFR cI cF cJ q0 q1 q2 q3 q4 q5 q6 q7 q8 F ++ ([kOut cJ n8 rs9])))) ++ (kRows cI lr rs9)) := va_D.part hD [11, 12, 13, 14, 15, 16, 17, 0, 1, 2, 3, 4, 5, 6, 7, 8, 9, 10, 18] (by decide) rfl
  refine lv_aload_n hx hb dX3_sets_32 rfl (lv_at hl 3 rfl) ?_
  refine lv_iload_n hx hb dX3_sets_33 rfl (lv_at hl 2 rfl) ?_
  refine lv_iload_n hx hb dX3_sets_34 rfl (lv_at hl 1 rfl) ?_
  obtain ⟨x10, hx10, hf⟩ := obd_e hf
  refine sbT_Vv (As := [.int x1.1, .int x4.1]) (rest := []) ⟨hx, hb, hml, hown, hts⟩ (fun sz => c_X3_set l dC dI cI cF cJ cD ot oh b ou od ow oa ob n8 os x4.2 x1.1 x4.1  x10 hx10 sz) (cwV 2 hts (g_V q394 q395 q396 q352 q393) rfl rfl rfl pc_X3_set ⟨Nat.le_of_ble_eq_true rfl, Nat.le_of_ble_eq_true rfl⟩) 0 3 rfl rfl hK hP hD hS hA [0, 1, 2, 3, 4, 5, 6] [7, 8, 9, 10, 11, 12, 13, 14, 15, 16, 17, 18] rfl rfl (by decide) (by decide) (by decide) (fun _ _ _ _ h => h) (fun _ _ _ => trivial) rfl rfl hl.1 (Nat.le_of_ble_eq_true rfl) dX3_sets_35 ⟨Nat.le_of_ble_eq_true rfl, Nat.le_of_ble_eq_true rfl⟩ (fun u H locs hr9 hP hD hS => ?_)
  have hP : va_P (dC, dI) vwCl ((wTD cI cF cJ ot oh b ou od ow oa ob n8 os x10 ++ (wHB cI cF cJ oh fa tr rw Hb ++ (wFR cI cF cJ q0 q1 q2 q3 q4 q5 q6 q7 q8 F ++ ([kOut cJ n8 rs9])))) ++ (kRows cI lr rs9)) H := va_P.part hP [12, 13, 14, 15, 16, 17, 18, 0, 1, 2, 3, 4, 5, 6, 7, 8, 9, 10, 11] rfl
  have hD : va_D A ((wTD cI cF cJ ot oh b ou od ow oa ob n8 os x10 ++ (wHB cI cF cJ oh fa tr rw Hb ++ (wFR cI cF cJ q0 q1 q2 q3 q4 q5 q6 q7 q8 F ++ ([kOut cJ n8 rs9])))) ++ (kRows cI lr rs9)) := va_D.part hD [12, 13, 14, 15, 16, 17, 18, 0, 1, 2, 3, 4, 5, 6, 7, 8, 9, 10, 11] (by decide) rfl
  refine lv_aload_n hx hb dX3_sets_38 rfl (lv_at hl 3 rfl) ?_
  refine va_get (D := (dC, dI)) (ci := 3) (v := .ref oh) (C := RX3) (T := TX3) (N := 12) hx hb hts iX3 hown hK hP 0 rfl rfl 0 (by decide) (hts _ q332) (fun _ h9 => h9) rfl dX3_sets_39 ?_
  refine lv_aload_n hx hb dX3_sets_42 rfl (lv_at hl 3 rfl) ?_
  refine va_get (D := (dC, dI)) (ci := 3) (v := .int (tNu x10)) (C := RX3) (T := TX3) (N := 12) hx hb hts iX3 hown hK hP 0 rfl rfl 3 (by decide) (hts _ q343) (fun _ h9 => h9) rfl dX3_sets_43 ?_
  obtain ⟨g11, hf⟩ := gd_e hf
  refine sb_topv (v' := .int (tNu T)) (congrArg Value.int (gdec_e g11)) ?_
  refine lv_iload_n hx hb dX3_sets_46 rfl (lv_at hl 2 rfl) ?_
  refine lv_iload_n hx hb dX3_sets_47 rfl (lv_at hl 1 rfl) ?_
  obtain ⟨x12, hx12, hf⟩ := obd_e hf
  refine sbT_Vi (As := [.int (tNu T), .int x1.1, .int x4.1]) (rest := []) ⟨hx, hb, hml, hown, hts⟩ (fun sz => c_X2_set l dC dI cI cF cJ cD oh fa tr q0 q1 q2 q3 q4 q5 q6 q7 q8 rw Hb F (tNu T) x1.1 x4.1 hq x12 hx12 sz) (cwV 3 hts (g_V q453 q454 q455 q172 q200) rfl rfl rfl pc_X2_set ⟨Nat.le_of_ble_eq_true rfl, Nat.le_of_ble_eq_true rfl⟩) 0 2 rfl rfl hK hP hD hS hA [7, 8, 9, 10, 11, 12, 13, 14, 15, 16, 17] [0, 1, 2, 3, 4, 5, 6, 18] rfl rfl (by decide) (by decide) (by decide) (fun _ _ _ _ h => h) (fun _ _ _ => trivial) rfl rfl hl.1 (Nat.le_of_ble_eq_true rfl) dX3_sets_48 ⟨Nat.le_of_ble_eq_true rfl, Nat.le_of_ble_eq_true rfl⟩ (fun r9 u H locs hr9 hP hD hS => ?_)
  have hr9 := Eq.symm hr9
  subst hr9
  have hP : va_P (dC, dI) vwCl ((wTD cI cF cJ ot oh b ou od ow oa ob n8 os x10 ++ (wHB cI cF cJ oh fa tr rw Hb ++ (wFR cI cF cJ q0 q1 q2 q3 q4 q5 q6 q7 q8 x12.2 ++ ([kOut cJ n8 rs9])))) ++ (kRows cI lr rs9)) H := va_P.part hP [0, 1, 2, 3, 4, 5, 6, 8, 9, 10, 11, 12, 13, 14, 15, 16, 17, 18, 7] rfl
  have hD : va_D A ((wTD cI cF cJ ot oh b ou od ow oa ob n8 os x10 ++ (wHB cI cF cJ oh fa tr rw Hb ++ (wFR cI cF cJ q0 q1 q2 q3 q4 q5 q6 q7 q8 x12.2 ++ ([kOut cJ n8 rs9])))) ++ (kRows cI lr rs9)) := va_D.part hD [0, 1, 2, 3, 4, 5, 6, 8, 9, 10, 11, 12, 13, 14, 15, 16, 17, 18, 7] (by decide) rfl
  refine lv_aload_n hx hb dX3_sets_51 rfl (lv_at hl 3 rfl) ?_
  refine va_get (D := (dC, dI)) (ci := 3) (v := .ref os) (C := RX3) (T := TX3) (N := 12) hx hb hts iX3 hown hK hP 0 rfl rfl 9 (by decide) (hts _ q331) (fun _ h9 => h9) rfl dX3_sets_52 ?_
  refine lv_iconst (v := 0) hx hb dX3_sets_55 (by decide) ?_
  obtain ⟨g13, hf⟩ := gd_e hf
  refine va_iald hx hb hK hP 6 0 rfl rfl (gin_in g13) dX3_sets_56 ?_
  refine lv_topi (fun v14 ev14 => ?_)
  have hf := bnd_all hf v14 ev14
  refine lv_iload_n hx hb dX3_sets_57 rfl (lv_at hl 0 rfl) ?_
  refine lv_isub hx hb dX3_sets_58 ?_
  refine lv_topi (fun v15 ev15 => ?_)
  have hf := bnd_all hf v15 ev15
  refine lv_icmp_ne (tgt := 66) hx hb dX3_sets_59 (by decide) (fun c16 => ?_) (fun c16 => ?_)
  · have hf := ite_f hf c16
    refine lv_iconst (v := 0) hx hb dX3_sets_66 (by decide) ?_
    obtain rfl := Option.some.inj hf
    exact W.zret (v := 0) hx hb hr (by rfl) (fun t ht hW => ⟨⟨_, (n8, rs9), rfl, ⟨rfl, hrs9⟩, by rw [ht]; exact hP, hD⟩, hS.F ht⟩) hS.2.2 dX3_sets_67
  · have hf := ite_t hf c16
    refine lv_iconst (v := 1) hx hb dX3_sets_62 (by decide) ?_
    refine lv_goto (tgt := 67) hx hb dX3_sets_63 (by decide) ?_
    obtain rfl := Option.some.inj hf
    exact W.zret (v := 1) hx hb hr (by rfl) (fun t ht hW => ⟨⟨_, (n8, rs9), rfl, ⟨rfl, hrs9⟩, by rw [ht]; exact hP, hD⟩, hS.F ht⟩) hS.2.2 dX3_sets_67
