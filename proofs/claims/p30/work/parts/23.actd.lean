-- laid by wip/p30/specs.py
noncomputable def l_X3_tidy_13 (c1 : Int32) (R1 : HB) (R2 : FR) (R3 : KO) (L : Nat) (xs : (Nat → Int32)) (lr : Nat) (k : Int32 → TD → Option (Int32 × TD × FR × KO)) : Nat → Int32 → TD → Option (Int32 × TD × FR × KO)
  | 0, _, _ => none
  | n + 1, a6, F7 => if (nI (tN F7)) ≤ a6 then (k a6 F7) else (obd (f_X3_value F7 a6) fun x9 => if (10 : Int32) ≤ x9 then (obd (f_X3_value F7 a6) fun x11 => bnd (x11 - 10) fun (v12 : Int32) => obd (f_X3_set F7 a6 v12) fun x13 => gd (gin 2 5) <| bnd ((tSm x13) (Int32.toNatClampNeg 2)) fun (v15 : Int32) => bnd (v15 + 1) fun (v16 : Int32) => gd (gin 2 5) <| bnd (a6 + 1) fun (v18 : Int32) => obd (f_X3_bring (stSm x13 (upd (tSm x13) (Int32.toNatClampNeg 2) v16)) v18 1) fun x19 => bnd (a6 + 1) fun (v20 : Int32) => l_X3_tidy_13 c1 R1 R2 R3 L xs lr k n v20 x19) else (bnd (a6 + 1) fun (v21 : Int32) => l_X3_tidy_13 c1 R1 R2 R3 L xs lr k n v21 F7))
noncomputable def f_X3_tidy (L : Nat) (xs : Nat → Int32) (lr : Nat) (T : TD) (Hb : HB) (F : FR) (K : KO) : Option (Int32 × TD × FR × KO) := gd (gin 2 5) <| bnd ((tSm T) (Int32.toNatClampNeg 2)) fun (v2 : Int32) => obd (f_X3_keep lr T K) fun x3 => l_X3_tidy_13 v2 Hb F x3 L xs lr (fun (a40 : Int32) (F41 : TD) => gd (gdec ((tNu F41) = (tNu T))) <| obd (f_X2_tidy Hb F (tNu T)) fun x43 => gd (gin 2 5) <| bnd ((tSm F41) (Int32.toNatClampNeg 2)) fun (v45 : Int32) => bnd (v45 - v2) fun (v46 : Int32) => if x43.1 = v46 then (some (1, F41, x43.2, x3)) else (some (0, F41, x43.2, x3))) 16 0 T
theorem pc_X3_tidy : yX3_tidy.cls = RX3 ∧ yX3_tidy.cls ≠ "java/lang/invoke/MethodHandle" ∧ yX3_tidy.cls ≠ "java/lang/invoke/VarHandle" ∧ (parseMethodDescriptor yX3_tidy.desc).map (fun d => d.parameters.length) = some 0 := by decide +kernel
abbrev rm_X3_tidy : Room := { frames := 6, cells := 2, slots := 29, locals := 150 }
set_option maxHeartbeats 4000000 in
set_option maxRecDepth 100000 in
theorem c_X3_tidy (l : Launch) (dC : Nat → ClassId) (dI : Nat → Nat → Nat) (cI cF cJ cD : ClassId) (b L : Nat) (xs : Nat → Int32) (tA tB : Nat) (lr : Nat) (ot oh ou od ow oa ob ok os fa tr q0 q1 q2 q3 q4 q5 q6 q7 q8 : Nat) (rw : Nat → Option Nat) (rs : RS) (T : TD) (Hb : HB) (F : FR) (K : KO) (hq : f_X2_frameAt rw (tNu T) = some (some q0)) (hrs : rs.map Prod.snd = K) (res : (Int32 × TD × FR × KO)) (hf : f_X3_tidy L xs lr T Hb F K = some res) (sz : Nat) : Met l yX3_tidy (ws_ yX3_tidy cX3_tidy 3 (some .boolean)) rm_X3_tidy (sbPre (dC, dI) (TY cI cF cJ cD) ((wTD cI cF cJ ot oh b ou od ow oa ob ok os T ++ (wHB cI cF cJ oh fa tr rw Hb ++ (wFR cI cF cJ q0 q1 q2 q3 q4 q5 q6 q7 q8 F ++ ([kOut cJ ok rs])))) ++ (kRows cI lr rs)) (fun sz U => EX b L xs tA tB (va_A ((wTD cI cF cJ ot oh b ou od ow oa ob ok os T ++ (wHB cI cF cJ oh fa tr rw Hb ++ (wFR cI cF cJ q0 q1 q2 q3 q4 q5 q6 q7 q8 F ++ ([kOut cJ ok rs])))) ++ (kRows cI lr rs)) sz) U) sz [.ref ot]) (va_Qi (fun (r : Int32) (u : Nat × RS) => r = res.1 ∧ u.2.map Prod.snd = res.2.2.2) (sbEnd (dC, dI) (fun (u : Nat × RS) => (wTD cI cF cJ ot oh b ou od ow oa ob u.1 os res.2.1 ++ (wHB cI cF cJ oh fa tr rw Hb ++ (wFR cI cF cJ q0 q1 q2 q3 q4 q5 q6 q7 q8 res.2.2.1 ++ ([kOut cJ u.1 u.2])))) ++ (kRows cI lr u.2)) (va_A ((wTD cI cF cJ ot oh b ou od ow oa ob ok os T ++ (wHB cI cF cJ oh fa tr rw Hb ++ (wFR cI cF cJ q0 q1 q2 q3 q4 q5 q6 q7 q8 F ++ ([kOut cJ ok rs])))) ++ (kRows cI lr rs)) sz)) (va_A ((wTD cI cF cJ ot oh b ou od ow oa ob ok os T ++ (wHB cI cF cJ oh fa tr rw Hb ++ (wFR cI cF cJ q0 q1 q2 q3 q4 q5 q6 q7 q8 F ++ ([kOut cJ ok rs])))) ++ (kRows cI lr rs)) sz)) 2 29 (va_A ((wTD cI cF cJ ot oh b ou od ow oa ob ok os T ++ (wHB cI cF cJ oh fa tr rw Hb ++ (wFR cI cF cJ q0 q1 q2 q3 q4 q5 q6 q7 q8 F ++ ([kOut cJ ok rs])))) ++ (kRows cI lr rs)) sz) := by
  refine Met.ofW (cc := cX3_tidy) (maxL := 3) (ret := (some .boolean)) (by decide) rfl ?_
  intro p e s m args below meth c s₁ B hml hv
  obtain ⟨rfl, hsz, hP, hK, hD0, hE⟩ := hv
  have hx := B.exec
  have hb := B.bytes
  have hr := B.returns
  have hts0 := atoms_spec (ws := ws_ yX3_tidy cX3_tidy 3 (some .boolean)) B.pre
  have hts := fun (w : Cond) (h : w ∈ LW) => hts0 w (List.mem_cons_of_mem _ h)
  have hown : s.vm.findClass RX3 = some m.cls := findClass_of_methodNamed B.named
  have hlocks := B.notSynchronized
  subst hsz
  have hD := hD0.self (sz := s.heap.size)
  have hE : EX b L xs tA tB (va_A ((wTD cI cF cJ ot oh b ou od ow oa ob ok os T ++ (wHB cI cF cJ oh fa tr rw Hb ++ (wFR cI cF cJ q0 q1 q2 q3 q4 q5 q6 q7 q8 F ++ ([kOut cJ ok rs])))) ++ (kRows cI lr rs)) s.heap.size) s := hE
  generalize hAe : va_A ((wTD cI cF cJ ot oh b ou od ow oa ob ok os T ++ (wHB cI cF cJ oh fa tr rw Hb ++ (wFR cI cF cJ q0 q1 q2 q3 q4 q5 q6 q7 q8 F ++ ([kOut cJ ok rs])))) ++ (kRows cI lr rs)) s.heap.size = A at hD hE ⊢
  have hA : ∀ q : Nat, s.heap.size ≤ q → A q := fun q h => by rw [← hAe]; exact Or.inr h
  have hS : va_S A s.heap s.heap [] := va_S.rf
  have hkc := Nat.zero_le rm_X3_tidy.cells
  have hks := Nat.zero_le rm_X3_tidy.slots
  have hl := lv_entry ([.ref ot]) (n := 3) (Nat.le_of_ble_eq_true rfl)
  rw [lg_entry_eq]
  generalize (lg_sl ([.ref ot]) ++ List.replicate (3 - (lg_sl ([.ref ot])).length) Slot.unset).toArray = ls at hl ⊢
  have hl : lv_has ls 3 [(0, .ref ot)] := hl
  rw [f_X3_tidy] at hf
  refine lv_aload_n hx hb dX3_tidy_0 rfl (lv_at hl 0 rfl) ?_
  refine va_get (D := (dC, dI)) (ci := 3) (v := .ref os) (C := RX3) (T := TX3) (N := 12) hx hb hts iX3 hown hK hP 0 rfl rfl 9 (by decide) (hts _ q331) (fun _ h9 => h9) rfl dX3_tidy_1 ?_
  refine lv_iconst (v := 2) hx hb dX3_tidy_4 (by decide) ?_
  obtain ⟨g1, hf⟩ := gd_e hf
  refine va_iald hx hb hK hP 6 0 rfl rfl (gin_in g1) dX3_tidy_5 ?_
  refine lv_topi (fun v2 ev2 => ?_)
  have hf := bnd_all hf v2 ev2
  refine lv_istore_n (lv' := [(1, .int v2), (0, .ref ot)]) hx hb dX3_tidy_6 rfl hl (by decide) rfl (fun ls hl => ?_)
  refine lv_aload_n hx hb dX3_tidy_7 rfl (lv_at hl 1 rfl) ?_
  obtain ⟨x3, hx3, hf⟩ := obd_e hf
  refine sbP_Vv (As := []) (rest := []) ⟨hx, hb, hml, hown, hts⟩ (fun sz => c_X3_keep l dC dI cI cF cJ cD b L xs tA tB lr ot oh ou od ow oa ob ok os rs T K hrs x3 hx3 sz) (cwV 0 hts (g_V q409 q410 q411 q352 q373) rfl rfl rfl pc_X3_keep ⟨Nat.le_of_ble_eq_true rfl, Nat.le_of_ble_eq_true rfl⟩) 0 3 rfl rfl hK hP hD hS hA [0, 1, 2, 3, 4, 5, 6, 18] [7, 8, 9, 10, 11, 12, 13, 14, 15, 16, 17] rfl rfl (by decide) (by decide) (by decide) EX_blind (fun U hU hW => EX_pass hE hS (va_freeP hD hS hA [0, 1, 2, 3, 4, 5, 6, 18] rfl) hU hW) rfl rfl hl.1 (Nat.le_of_ble_eq_true rfl) dX3_tidy_8 ⟨Nat.le_of_ble_eq_true rfl, Nat.le_of_ble_eq_true rfl⟩ (fun u H locs hr9 hP hD hS => ?_)
  refine W.widen (k := 2) (n := 29) (Nat.le_refl _) (Nat.le_refl _) ?_
  have hrs5 := hr9
  obtain ⟨n4, rs5⟩ := u
  have hP : va_P (dC, dI) vwCl ((wTD cI cF cJ ot oh b ou od ow oa ob n4 os T ++ (wHB cI cF cJ oh fa tr rw Hb ++ (wFR cI cF cJ q0 q1 q2 q3 q4 q5 q6 q7 q8 F ++ ([kOut cJ n4 rs5])))) ++ (kRows cI lr rs5)) H := va_P.part hP [11, 12, 13, 14, 15, 16, 17, 0, 1, 2, 3, 4, 5, 6, 7, 8, 9, 10, 18] rfl
  have hD : va_D A ((wTD cI cF cJ ot oh b ou od ow oa ob n4 os T ++ (wHB cI cF cJ oh fa tr rw Hb ++ (wFR cI cF cJ q0 q1 q2 q3 q4 q5 q6 q7 q8 F ++ ([kOut cJ n4 rs5])))) ++ (kRows cI lr rs5)) := va_D.part hD [11, 12, 13, 14, 15, 16, 17, 0, 1, 2, 3, 4, 5, 6, 7, 8, 9, 10, 18] (by decide) rfl
  refine lv_iconst (v := 0) hx hb dX3_tidy_11 (by decide) ?_
  refine lv_istore_n (lv' := [(2, .int 0), (1, .int v2), (0, .ref ot)]) hx hb dX3_tidy_12 rfl hl (by decide) rfl (fun ls hl => ?_)
  have L13 : ∀ (k : Int32 → TD → Option (Int32 × TD × FR × KO)), (∀ (a22 : Int32) (F23 : TD) (H : Heap) (locs : List Loc) (ls : Array Slot), va_P (dC, dI) vwCl ((wTD cI cF cJ ot oh b ou od ow oa ob n4 os F23 ++ (wHB cI cF cJ oh fa tr rw Hb ++ (wFR cI cF cJ q0 q1 q2 q3 q4 q5 q6 q7 q8 F ++ ([kOut cJ n4 rs5])))) ++ (kRows cI lr rs5)) H → va_D A ((wTD cI cF cJ ot oh b ou od ow oa ob n4 os F23 ++ (wHB cI cF cJ oh fa tr rw Hb ++ (wFR cI cF cJ q0 q1 q2 q3 q4 q5 q6 q7 q8 F ++ ([kOut cJ n4 rs5])))) ++ (kRows cI lr rs5)) → va_S A s.heap H locs → lv_has ls 3 [(0, .ref ot), (1, .int v2)] → k a22 F23 = some res → W p l e (headSpec (ws_ yX3_tidy cX3_tidy 3 (some .boolean)) rm_X3_tidy).room s m ([.ref ot].toArray) below meth c H locs 2 29 (MQ below (va_Qi (fun (r : Int32) (u : Nat × RS) => r = res.1 ∧ u.2.map Prod.snd = res.2.2.2) (sbEnd (dC, dI) (fun (u : Nat × RS) => (wTD cI cF cJ ot oh b ou od ow oa ob u.1 os res.2.1 ++ (wHB cI cF cJ oh fa tr rw Hb ++ (wFR cI cF cJ q0 q1 q2 q3 q4 q5 q6 q7 q8 res.2.2.1 ++ ([kOut cJ u.1 u.2])))) ++ (kRows cI lr u.2)) (A)) (A)) ([.ref ot].toArray) s 2 29 A) (F0 m 72 ls [])) → ∀ (n : Nat) (a22 : Int32) (F23 : TD) (H : Heap) (locs : List Loc) (ls : Array Slot), va_P (dC, dI) vwCl ((wTD cI cF cJ ot oh b ou od ow oa ob n4 os F23 ++ (wHB cI cF cJ oh fa tr rw Hb ++ (wFR cI cF cJ q0 q1 q2 q3 q4 q5 q6 q7 q8 F ++ ([kOut cJ n4 rs5])))) ++ (kRows cI lr rs5)) H → va_D A ((wTD cI cF cJ ot oh b ou od ow oa ob n4 os F23 ++ (wHB cI cF cJ oh fa tr rw Hb ++ (wFR cI cF cJ q0 q1 q2 q3 q4 q5 q6 q7 q8 F ++ ([kOut cJ n4 rs5])))) ++ (kRows cI lr rs5)) → va_S A s.heap H locs → lv_has ls 3 [(2, .int a22), (0, .ref ot), (1, .int v2)] → l_X3_tidy_13 v2 Hb F x3 L xs lr k n a22 F23 = some res → W p l e (headSpec (ws_ yX3_tidy cX3_tidy 3 (some .boolean)) rm_X3_tidy).room s m ([.ref ot].toArray) below meth c H locs 2 29 (MQ below (va_Qi (fun (r : Int32) (u : Nat × RS) => r = res.1 ∧ u.2.map Prod.snd = res.2.2.2) (sbEnd (dC, dI) (fun (u : Nat × RS) => (wTD cI cF cJ ot oh b ou od ow oa ob u.1 os res.2.1 ++ (wHB cI cF cJ oh fa tr rw Hb ++ (wFR cI cF cJ q0 q1 q2 q3 q4 q5 q6 q7 q8 res.2.2.1 ++ ([kOut cJ u.1 u.2])))) ++ (kRows cI lr u.2)) (A)) (A)) ([.ref ot].toArray) s 2 29 A) (F0 m 13 ls []) := by
    intro k hk n
    induction n with
    | zero =>
      intro a24 F25 H locs ls hP hD hS hl hf
      rw [l_X3_tidy_13] at hf
      cases hf
    | succ n ih =>
      intro a24 F25 H locs ls hP hD hS hl hf
      rw [l_X3_tidy_13] at hf
      refine lv_iload_n hx hb dX3_tidy_13 rfl (lv_at hl 0 rfl) ?_
      refine lv_aload_n hx hb dX3_tidy_14 rfl (lv_at hl 1 rfl) ?_
      refine va_get (D := (dC, dI)) (ci := 3) (v := .ref ou) (C := RX3) (T := TX3) (N := 12) hx hb hts iX3 hown hK hP 0 rfl rfl 5 (by decide) (hts _ q345) (fun _ h9 => h9) rfl dX3_tidy_15 ?_
      refine va_alen (v := (nI (tN F25))) hx hb hK hP 1 0 rfl rfl rfl dX3_tidy_18 ?_
      refine lv_icmp_ge (tgt := 72) hx hb dX3_tidy_19 (by decide) (fun c26 => ?_) (fun c26 => ?_)
      · have hf := ite_t hf c26
        exact hk a24 F25 _ _ _ hP hD hS (lv_sub hl [1, 2] rfl) hf
      · have hf := ite_f hf c26
        refine lv_aload_n hx hb dX3_tidy_22 rfl (lv_at hl 1 rfl) ?_
        refine lv_iload_n hx hb dX3_tidy_23 rfl (lv_at hl 0 rfl) ?_
        obtain ⟨x27, hx27, hf⟩ := obd_e hf
        refine sbT_Vi (As := [.int a24]) (rest := []) ⟨hx, hb, hml, hown, hts⟩ (fun sz => c_X3_value l dC dI cI cF cJ cD ot oh b ou od ow oa ob n4 os F25 a24  x27 hx27 sz) (cwV 1 hts (g_V q369 q370 q371 q352 q366) rfl rfl rfl pc_X3_value ⟨Nat.le_of_ble_eq_true rfl, Nat.le_of_ble_eq_true rfl⟩) 0 3 rfl rfl hK hP hD hS hA [0, 1, 2, 3, 4, 5, 6] [7, 8, 9, 10, 11, 12, 13, 14, 15, 16, 17, 18] rfl rfl (by decide) (by decide) (by decide) (fun _ _ _ _ h => h) (fun _ _ _ => trivial) rfl rfl hl.1 (Nat.le_of_ble_eq_true rfl) dX3_tidy_24 ⟨Nat.le_of_ble_eq_true rfl, Nat.le_of_ble_eq_true rfl⟩ (fun r9 u H locs hr9 hP hD hS => ?_)
        have hr9 := Eq.symm hr9
        subst hr9
        have hP : va_P (dC, dI) vwCl ((wTD cI cF cJ ot oh b ou od ow oa ob n4 os F25 ++ (wHB cI cF cJ oh fa tr rw Hb ++ (wFR cI cF cJ q0 q1 q2 q3 q4 q5 q6 q7 q8 F ++ ([kOut cJ n4 rs5])))) ++ (kRows cI lr rs5)) H := va_P.part hP [12, 13, 14, 15, 16, 17, 18, 0, 1, 2, 3, 4, 5, 6, 7, 8, 9, 10, 11] rfl
        have hD : va_D A ((wTD cI cF cJ ot oh b ou od ow oa ob n4 os F25 ++ (wHB cI cF cJ oh fa tr rw Hb ++ (wFR cI cF cJ q0 q1 q2 q3 q4 q5 q6 q7 q8 F ++ ([kOut cJ n4 rs5])))) ++ (kRows cI lr rs5)) := va_D.part hD [12, 13, 14, 15, 16, 17, 18, 0, 1, 2, 3, 4, 5, 6, 7, 8, 9, 10, 11] (by decide) rfl
        refine lv_bipush (v := 10) hx hb dX3_tidy_27 (by decide) ?_
        refine lv_icmp_ge (tgt := 35) hx hb dX3_tidy_29 (by decide) (fun c28 => ?_) (fun c28 => ?_)
        · have hf := ite_t hf c28
          refine lv_aload_n hx hb dX3_tidy_35 rfl (lv_at hl 1 rfl) ?_
          refine lv_iload_n hx hb dX3_tidy_36 rfl (lv_at hl 0 rfl) ?_
          refine lv_aload_n hx hb dX3_tidy_37 rfl (lv_at hl 1 rfl) ?_
          refine lv_iload_n hx hb dX3_tidy_38 rfl (lv_at hl 0 rfl) ?_
          obtain ⟨x29, hx29, hf⟩ := obd_e hf
          refine sbT_Vi (As := [.int a24]) (rest := [.int a24, .ref ot]) ⟨hx, hb, hml, hown, hts⟩ (fun sz => c_X3_value l dC dI cI cF cJ cD ot oh b ou od ow oa ob n4 os F25 a24  x29 hx29 sz) (cwV 1 hts (g_V q369 q370 q371 q352 q366) rfl rfl rfl pc_X3_value ⟨Nat.le_of_ble_eq_true rfl, Nat.le_of_ble_eq_true rfl⟩) 0 3 rfl rfl hK hP hD hS hA [0, 1, 2, 3, 4, 5, 6] [7, 8, 9, 10, 11, 12, 13, 14, 15, 16, 17, 18] rfl rfl (by decide) (by decide) (by decide) (fun _ _ _ _ h => h) (fun _ _ _ => trivial) rfl rfl hl.1 (Nat.le_of_ble_eq_true rfl) dX3_tidy_39 ⟨Nat.le_of_ble_eq_true rfl, Nat.le_of_ble_eq_true rfl⟩ (fun r9 u H locs hr9 hP hD hS => ?_)
          have hr9 := Eq.symm hr9
          subst hr9
          have hP : va_P (dC, dI) vwCl ((wTD cI cF cJ ot oh b ou od ow oa ob n4 os F25 ++ (wHB cI cF cJ oh fa tr rw Hb ++ (wFR cI cF cJ q0 q1 q2 q3 q4 q5 q6 q7 q8 F ++ ([kOut cJ n4 rs5])))) ++ (kRows cI lr rs5)) H := va_P.part hP [12, 13, 14, 15, 16, 17, 18, 0, 1, 2, 3, 4, 5, 6, 7, 8, 9, 10, 11] rfl
          have hD : va_D A ((wTD cI cF cJ ot oh b ou od ow oa ob n4 os F25 ++ (wHB cI cF cJ oh fa tr rw Hb ++ (wFR cI cF cJ q0 q1 q2 q3 q4 q5 q6 q7 q8 F ++ ([kOut cJ n4 rs5])))) ++ (kRows cI lr rs5)) := va_D.part hD [12, 13, 14, 15, 16, 17, 18, 0, 1, 2, 3, 4, 5, 6, 7, 8, 9, 10, 11] (by decide) rfl
          refine lv_bipush (v := 10) hx hb dX3_tidy_42 (by decide) ?_
          refine lv_isub hx hb dX3_tidy_44 ?_
          refine lv_topi (fun v30 ev30 => ?_)
          have hf := bnd_all hf v30 ev30
          obtain ⟨x31, hx31, hf⟩ := obd_e hf
          refine sbT_Vv (As := [.int a24, .int v30]) (rest := []) ⟨hx, hb, hml, hown, hts⟩ (fun sz => c_X3_set l dC dI cI cF cJ cD ot oh b ou od ow oa ob n4 os F25 a24 v30  x31 hx31 sz) (cwV 2 hts (g_V q394 q395 q396 q352 q393) rfl rfl rfl pc_X3_set ⟨Nat.le_of_ble_eq_true rfl, Nat.le_of_ble_eq_true rfl⟩) 0 3 rfl rfl hK hP hD hS hA [0, 1, 2, 3, 4, 5, 6] [7, 8, 9, 10, 11, 12, 13, 14, 15, 16, 17, 18] rfl rfl (by decide) (by decide) (by decide) (fun _ _ _ _ h => h) (fun _ _ _ => trivial) rfl rfl hl.1 (Nat.le_of_ble_eq_true rfl) dX3_tidy_45 ⟨Nat.le_of_ble_eq_true rfl, Nat.le_of_ble_eq_true rfl⟩ (fun u H locs hr9 hP hD hS => ?_)
          have hP : va_P (dC, dI) vwCl ((wTD cI cF cJ ot oh b ou od ow oa ob n4 os x31 ++ (wHB cI cF cJ oh fa tr rw Hb ++ (wFR cI cF cJ q0 q1 q2 q3 q4 q5 q6 q7 q8 F ++ ([kOut cJ n4 rs5])))) ++ (kRows cI lr rs5)) H := va_P.part hP [12, 13, 14, 15, 16, 17, 18, 0, 1, 2, 3, 4, 5, 6, 7, 8, 9, 10, 11] rfl
          have hD : va_D A ((wTD cI cF cJ ot oh b ou od ow oa ob n4 os x31 ++ (wHB cI cF cJ oh fa tr rw Hb ++ (wFR cI cF cJ q0 q1 q2 q3 q4 q5 q6 q7 q8 F ++ ([kOut cJ n4 rs5])))) ++ (kRows cI lr rs5)) := va_D.part hD [12, 13, 14, 15, 16, 17, 18, 0, 1, 2, 3, 4, 5, 6, 7, 8, 9, 10, 11] (by decide) rfl
          refine lv_aload_n hx hb dX3_tidy_48 rfl (lv_at hl 1 rfl) ?_
          refine va_get (D := (dC, dI)) (ci := 3) (v := .ref os) (C := RX3) (T := TX3) (N := 12) hx hb hts iX3 hown hK hP 0 rfl rfl 9 (by decide) (hts _ q331) (fun _ h9 => h9) rfl dX3_tidy_49 ?_
          refine lv_iconst (v := 2) hx hb dX3_tidy_52 (by decide) ?_
          refine lv_dup2_11 hx hb dX3_tidy_53 rfl rfl ?_
          obtain ⟨g32, hf⟩ := gd_e hf
          refine va_iald hx hb hK hP 6 0 rfl rfl (gin_in g32) dX3_tidy_54 ?_
          refine lv_topi (fun v33 ev33 => ?_)
          have hf := bnd_all hf v33 ev33
          refine lv_iconst (v := 1) hx hb dX3_tidy_55 (by decide) ?_
          refine lv_iadd hx hb dX3_tidy_56 ?_
          refine lv_topi (fun v34 ev34 => ?_)
          have hf := bnd_all hf v34 ev34
          obtain ⟨g35, hf⟩ := gd_e hf
          refine va_iast hx hb hK hP hD hS 6 0 rfl rfl (gin_in g35) dX3_tidy_57 (fun H locs hP hD hS => ?_)
          have hP : va_P (dC, dI) vwCl ((wTD cI cF cJ ot oh b ou od ow oa ob n4 os (stSm x31 (upd (tSm x31) (Int32.toNatClampNeg 2) v34)) ++ (wHB cI cF cJ oh fa tr rw Hb ++ (wFR cI cF cJ q0 q1 q2 q3 q4 q5 q6 q7 q8 F ++ ([kOut cJ n4 rs5])))) ++ (kRows cI lr rs5)) H := hP
          have hD : va_D A ((wTD cI cF cJ ot oh b ou od ow oa ob n4 os (stSm x31 (upd (tSm x31) (Int32.toNatClampNeg 2) v34)) ++ (wHB cI cF cJ oh fa tr rw Hb ++ (wFR cI cF cJ q0 q1 q2 q3 q4 q5 q6 q7 q8 F ++ ([kOut cJ n4 rs5])))) ++ (kRows cI lr rs5)) := hD
          refine lv_aload_n hx hb dX3_tidy_58 rfl (lv_at hl 1 rfl) ?_
          refine lv_iload_n hx hb dX3_tidy_59 rfl (lv_at hl 0 rfl) ?_
          refine lv_iconst (v := 1) hx hb dX3_tidy_60 (by decide) ?_
          refine lv_iadd hx hb dX3_tidy_61 ?_
          refine lv_topi (fun v36 ev36 => ?_)
          have hf := bnd_all hf v36 ev36
          refine lv_iconst (v := 1) hx hb dX3_tidy_62 (by decide) ?_
          obtain ⟨x37, hx37, hf⟩ := obd_e hf
          refine sbT_Vv (As := [.int v36, .int 1]) (rest := []) ⟨hx, hb, hml, hown, hts⟩ (fun sz => c_X3_bring l dC dI cI cF cJ cD ot oh b ou od ow oa ob n4 os (stSm x31 (upd (tSm x31) (Int32.toNatClampNeg 2) v34)) v36 1  x37 hx37 sz) (cwV 2 hts (g_V q401 q402 q403 q352 q397) rfl rfl rfl pc_X3_bring ⟨Nat.le_of_ble_eq_true rfl, Nat.le_of_ble_eq_true rfl⟩) 0 3 rfl rfl hK hP hD hS hA [0, 1, 2, 3, 4, 5, 6] [7, 8, 9, 10, 11, 12, 13, 14, 15, 16, 17, 18] rfl rfl (by decide) (by decide) (by decide) (fun _ _ _ _ h => h) (fun _ _ _ => trivial) rfl rfl hl.1 (Nat.le_of_ble_eq_true rfl) dX3_tidy_63 ⟨Nat.le_of_ble_eq_true rfl, Nat.le_of_ble_eq_true rfl⟩ (fun u H locs hr9 hP hD hS => ?_)
          have hP : va_P (dC, dI) vwCl ((wTD cI cF cJ ot oh b ou od ow oa ob n4 os x37 ++ (wHB cI cF cJ oh fa tr rw Hb ++ (wFR cI cF cJ q0 q1 q2 q3 q4 q5 q6 q7 q8 F ++ ([kOut cJ n4 rs5])))) ++ (kRows cI lr rs5)) H := va_P.part hP [12, 13, 14, 15, 16, 17, 18, 0, 1, 2, 3, 4, 5, 6, 7, 8, 9, 10, 11] rfl
          have hD : va_D A ((wTD cI cF cJ ot oh b ou od ow oa ob n4 os x37 ++ (wHB cI cF cJ oh fa tr rw Hb ++ (wFR cI cF cJ q0 q1 q2 q3 q4 q5 q6 q7 q8 F ++ ([kOut cJ n4 rs5])))) ++ (kRows cI lr rs5)) := va_D.part hD [12, 13, 14, 15, 16, 17, 18, 0, 1, 2, 3, 4, 5, 6, 7, 8, 9, 10, 11] (by decide) rfl
          obtain ⟨v38, ev38⟩ : ∃ y : Int32, y = a24 + 1 := ⟨_, rfl⟩
          have hf := bnd_all hf v38 ev38
          refine lv_iinc (v := v38) (lv' := [(2, .int v38), (0, .ref ot), (1, .int v2)]) hx hb dX3_tidy_66 hl (k := 0) rfl (by rw [ev38]; rfl) (by decide) rfl (fun ls hl => ?_)
          refine lv_goto (tgt := 13) hx hb dX3_tidy_69 (by decide) ?_
          exact ih v38 x37 _ _ _ hP hD hS (lv_sub hl [0, 1, 2] rfl) hf
        · have hf := ite_f hf c28
          refine lv_goto (tgt := 66) hx hb dX3_tidy_32 (by decide) ?_
          obtain ⟨v39, ev39⟩ : ∃ y : Int32, y = a24 + 1 := ⟨_, rfl⟩
          have hf := bnd_all hf v39 ev39
          refine lv_iinc (v := v39) (lv' := [(2, .int v39), (0, .ref ot), (1, .int v2)]) hx hb dX3_tidy_66 hl (k := 0) rfl (by rw [ev39]; rfl) (by decide) rfl (fun ls hl => ?_)
          refine lv_goto (tgt := 13) hx hb dX3_tidy_69 (by decide) ?_
          exact ih v39 F25 _ _ _ hP hD hS (lv_sub hl [0, 1, 2] rfl) hf
  refine L13 _ (fun a40 F41 H locs ls hP hD hS hl hf => ?_) 16 0 T _ _ _ hP hD hS (lv_sub hl [0, 2, 1] rfl) hf
  refine lv_aload_n hx hb dX3_tidy_72 rfl (lv_at hl 0 rfl) ?_
  refine va_get (D := (dC, dI)) (ci := 3) (v := .ref oh) (C := RX3) (T := TX3) (N := 12) hx hb hts iX3 hown hK hP 0 rfl rfl 0 (by decide) (hts _ q332) (fun _ h9 => h9) rfl dX3_tidy_73 ?_
  refine lv_aload_n hx hb dX3_tidy_76 rfl (lv_at hl 0 rfl) ?_
  refine va_get (D := (dC, dI)) (ci := 3) (v := .int (tNu F41)) (C := RX3) (T := TX3) (N := 12) hx hb hts iX3 hown hK hP 0 rfl rfl 3 (by decide) (hts _ q343) (fun _ h9 => h9) rfl dX3_tidy_77 ?_
  obtain ⟨g42, hf⟩ := gd_e hf
  refine sb_topv (v' := .int (tNu T)) (congrArg Value.int (gdec_e g42)) ?_
  obtain ⟨x43, hx43, hf⟩ := obd_e hf
  refine sbT_Vi (As := [.int (tNu T)]) (rest := []) ⟨hx, hb, hml, hown, hts⟩ (fun sz => c_X2_tidy l dC dI cI cF cJ cD oh fa tr q0 q1 q2 q3 q4 q5 q6 q7 q8 rw Hb F (tNu T) hq x43 hx43 sz) (cwV 1 hts (g_V q442 q443 q444 q172 q237) rfl rfl rfl pc_X2_tidy ⟨Nat.le_of_ble_eq_true rfl, Nat.le_of_ble_eq_true rfl⟩) 0 2 rfl rfl hK hP hD hS hA [7, 8, 9, 10, 11, 12, 13, 14, 15, 16, 17] [0, 1, 2, 3, 4, 5, 6, 18] rfl rfl (by decide) (by decide) (by decide) (fun _ _ _ _ h => h) (fun _ _ _ => trivial) rfl rfl hl.1 (Nat.le_of_ble_eq_true rfl) dX3_tidy_80 ⟨Nat.le_of_ble_eq_true rfl, Nat.le_of_ble_eq_true rfl⟩ (fun r9 u H locs hr9 hP hD hS => ?_)
  have hr9 := Eq.symm hr9
  subst hr9
  have hP : va_P (dC, dI) vwCl ((wTD cI cF cJ ot oh b ou od ow oa ob n4 os F41 ++ (wHB cI cF cJ oh fa tr rw Hb ++ (wFR cI cF cJ q0 q1 q2 q3 q4 q5 q6 q7 q8 x43.2 ++ ([kOut cJ n4 rs5])))) ++ (kRows cI lr rs5)) H := va_P.part hP [0, 1, 2, 3, 4, 5, 6, 8, 9, 10, 11, 12, 13, 14, 15, 16, 17, 18, 7] rfl
  have hD : va_D A ((wTD cI cF cJ ot oh b ou od ow oa ob n4 os F41 ++ (wHB cI cF cJ oh fa tr rw Hb ++ (wFR cI cF cJ q0 q1 q2 q3 q4 q5 q6 q7 q8 x43.2 ++ ([kOut cJ n4 rs5])))) ++ (kRows cI lr rs5)) := va_D.part hD [0, 1, 2, 3, 4, 5, 6, 8, 9, 10, 11, 12, 13, 14, 15, 16, 17, 18, 7] (by decide) rfl
  refine lv_aload_n hx hb dX3_tidy_83 rfl (lv_at hl 0 rfl) ?_
  refine va_get (D := (dC, dI)) (ci := 3) (v := .ref os) (C := RX3) (T := TX3) (N := 12) hx hb hts iX3 hown hK hP 0 rfl rfl 9 (by decide) (hts _ q331) (fun _ h9 => h9) rfl dX3_tidy_84 ?_
  refine lv_iconst (v := 2) hx hb dX3_tidy_87 (by decide) ?_
  obtain ⟨g44, hf⟩ := gd_e hf
  refine va_iald hx hb hK hP 6 0 rfl rfl (gin_in g44) dX3_tidy_88 ?_
  refine lv_topi (fun v45 ev45 => ?_)
  have hf := bnd_all hf v45 ev45
  refine lv_iload_n hx hb dX3_tidy_89 rfl (lv_at hl 1 rfl) ?_
  refine lv_isub hx hb dX3_tidy_90 ?_
  refine lv_topi (fun v46 ev46 => ?_)
  have hf := bnd_all hf v46 ev46
  refine lv_icmp_ne (tgt := 98) hx hb dX3_tidy_91 (by decide) (fun c47 => ?_) (fun c47 => ?_)
  · have hf := ite_f hf c47
    refine lv_iconst (v := 0) hx hb dX3_tidy_98 (by decide) ?_
    obtain rfl := Option.some.inj hf
    exact W.zret (v := 0) hx hb hr (by rfl) (fun t ht hW => ⟨⟨_, (n4, rs5), rfl, ⟨rfl, hrs5⟩, by rw [ht]; exact hP, hD⟩, hS.F ht⟩) hS.2.2 dX3_tidy_99
  · have hf := ite_t hf c47
    refine lv_iconst (v := 1) hx hb dX3_tidy_94 (by decide) ?_
    refine lv_goto (tgt := 99) hx hb dX3_tidy_95 (by decide) ?_
    obtain rfl := Option.some.inj hf
    exact W.zret (v := 1) hx hb hr (by rfl) (fun t ht hW => ⟨⟨_, (n4, rs5), rfl, ⟨rfl, hrs5⟩, by rw [ht]; exact hP, hD⟩, hS.F ht⟩) hS.2.2 dX3_tidy_99
noncomputable def f_X3_grease (L : Nat) (xs : Nat → Int32) (T : TD) (Hb : HB) (F : FR) : Option (Int32 × TD × FR) := obd (f_X3_draw L xs T (nI (tN T))) fun x1 => gd (gin x1.1 (tN x1.2)) <| bnd ((tWa x1.2) (Int32.toNatClampNeg x1.1)) fun (v3 : Int32) => gd (gin x1.1 (tN x1.2)) <| bnd ((tWb x1.2) (Int32.toNatClampNeg x1.1)) fun (v5 : Int32) => bnd (v3 + v5) fun (v6 : Int32) => gd (gin x1.1 (tN x1.2)) <| gd (gin x1.1 (tN x1.2)) <| bnd ((tTi x1.2) + 32) fun (v9 : Int64) => gd (gdec ((tNu x1.2) = (tNu T))) <| obd (f_X2_grease Hb F (tNu T) x1.1) fun x11 => if x11.1 = v6 then (some (1, (stTi (stWb (stWa x1.2 (upd (tWa x1.2) (Int32.toNatClampNeg x1.1) 0)) (upd (tWb x1.2) (Int32.toNatClampNeg x1.1) 0)) v9), x11.2)) else (some (0, (stTi (stWb (stWa x1.2 (upd (tWa x1.2) (Int32.toNatClampNeg x1.1) 0)) (upd (tWb x1.2) (Int32.toNatClampNeg x1.1) 0)) v9), x11.2))
theorem pc_X3_grease : yX3_grease.cls = RX3 ∧ yX3_grease.cls ≠ "java/lang/invoke/MethodHandle" ∧ yX3_grease.cls ≠ "java/lang/invoke/VarHandle" ∧ (parseMethodDescriptor yX3_grease.desc).map (fun d => d.parameters.length) = some 0 := by decide +kernel
abbrev rm_X3_grease : Room := { frames := 5, cells := 0, slots := 0, locals := 110 }
set_option maxHeartbeats 4000000 in
set_option maxRecDepth 100000 in
theorem c_X3_grease (l : Launch) (dC : Nat → ClassId) (dI : Nat → Nat → Nat) (cI cF cJ cD : ClassId) (b L : Nat) (xs : Nat → Int32) (tA tB : Nat) (ot oh ou od ow oa ob ok os fa tr q0 q1 q2 q3 q4 q5 q6 q7 q8 : Nat) (rw : Nat → Option Nat) (T : TD) (Hb : HB) (F : FR) (hq : f_X2_frameAt rw (tNu T) = some (some q0)) (res : (Int32 × TD × FR)) (hf : f_X3_grease L xs T Hb F = some res) (sz : Nat) : Met l yX3_grease (ws_ yX3_grease cX3_grease 3 (some .boolean)) rm_X3_grease (sbPre (dC, dI) (TY cI cF cJ cD) (wTD cI cF cJ ot oh b ou od ow oa ob ok os T ++ (wHB cI cF cJ oh fa tr rw Hb ++ (wFR cI cF cJ q0 q1 q2 q3 q4 q5 q6 q7 q8 F))) (fun sz U => EX b L xs tA tB (va_A (wTD cI cF cJ ot oh b ou od ow oa ob ok os T ++ (wHB cI cF cJ oh fa tr rw Hb ++ (wFR cI cF cJ q0 q1 q2 q3 q4 q5 q6 q7 q8 F))) sz) U) sz [.ref ot]) (va_Qi (fun (r : Int32) (_ : Unit) => r = res.1) (sbEnd (dC, dI) (fun _ => wTD cI cF cJ ot oh b ou od ow oa ob ok os res.2.1 ++ (wHB cI cF cJ oh fa tr rw Hb ++ (wFR cI cF cJ q0 q1 q2 q3 q4 q5 q6 q7 q8 res.2.2))) (va_A (wTD cI cF cJ ot oh b ou od ow oa ob ok os T ++ (wHB cI cF cJ oh fa tr rw Hb ++ (wFR cI cF cJ q0 q1 q2 q3 q4 q5 q6 q7 q8 F))) sz)) (va_A (wTD cI cF cJ ot oh b ou od ow oa ob ok os T ++ (wHB cI cF cJ oh fa tr rw Hb ++ (wFR cI cF cJ q0 q1 q2 q3 q4 q5 q6 q7 q8 F))) sz)) 0 0 (va_A (wTD cI cF cJ ot oh b ou od ow oa ob ok os T ++ (wHB cI cF cJ oh fa tr rw Hb ++ (wFR cI cF cJ q0 q1 q2 q3 q4 q5 q6 q7 q8 F))) sz) := by
  refine Met.ofW (cc := cX3_grease) (maxL := 3) (ret := (some .boolean)) (by decide) rfl ?_
  intro p e s m args below meth c s₁ B hml hv
  obtain ⟨rfl, hsz, hP, hK, hD0, hE⟩ := hv
  have hx := B.exec
  have hb := B.bytes
  have hr := B.returns
  have hts0 := atoms_spec (ws := ws_ yX3_grease cX3_grease 3 (some .boolean)) B.pre
  have hts := fun (w : Cond) (h : w ∈ LW) => hts0 w (List.mem_cons_of_mem _ h)
  have hown : s.vm.findClass RX3 = some m.cls := findClass_of_methodNamed B.named
  have hlocks := B.notSynchronized
  subst hsz
  have hD := hD0.self (sz := s.heap.size)
  have hE : EX b L xs tA tB (va_A (wTD cI cF cJ ot oh b ou od ow oa ob ok os T ++ (wHB cI cF cJ oh fa tr rw Hb ++ (wFR cI cF cJ q0 q1 q2 q3 q4 q5 q6 q7 q8 F))) s.heap.size) s := hE
  generalize hAe : va_A (wTD cI cF cJ ot oh b ou od ow oa ob ok os T ++ (wHB cI cF cJ oh fa tr rw Hb ++ (wFR cI cF cJ q0 q1 q2 q3 q4 q5 q6 q7 q8 F))) s.heap.size = A at hD hE ⊢
  have hA : ∀ q : Nat, s.heap.size ≤ q → A q := fun q h => by rw [← hAe]; exact Or.inr h
  have hS : va_S A s.heap s.heap [] := va_S.rf
  have hkc := Nat.zero_le rm_X3_grease.cells
  have hks := Nat.zero_le rm_X3_grease.slots
  have hl := lv_entry ([.ref ot]) (n := 3) (Nat.le_of_ble_eq_true rfl)
  rw [lg_entry_eq]
  generalize (lg_sl ([.ref ot]) ++ List.replicate (3 - (lg_sl ([.ref ot])).length) Slot.unset).toArray = ls at hl ⊢
  have hl : lv_has ls 3 [(0, .ref ot)] := hl
  rw [f_X3_grease] at hf
  refine lv_aload_n hx hb dX3_grease_0 rfl (lv_at hl 0 rfl) ?_
  refine lv_aload_n hx hb dX3_grease_1 rfl (lv_at hl 0 rfl) ?_
  refine va_get (D := (dC, dI)) (ci := 3) (v := .ref ou) (C := RX3) (T := TX3) (N := 12) hx hb hts iX3 hown hK hP 0 rfl rfl 5 (by decide) (hts _ q345) (fun _ h9 => h9) rfl dX3_grease_2 ?_
  refine va_alen (v := (nI (tN T))) hx hb hK hP 1 0 rfl rfl rfl dX3_grease_5 ?_
  obtain ⟨x1, hx1, hf⟩ := obd_e hf
  refine sb_Vi (As := [.int (nI (tN T))]) (rest := []) ⟨hx, hb, hml, hown, hts⟩ (fun sz => c_X3_draw l dC dI cI cF cJ cD b L xs tA tB ot oh ou od ow oa ob ok os T (nI (tN T))  x1 hx1 sz) (cwV 1 hts (g_V q349 q350 q351 q352 q339) rfl rfl rfl pc_X3_draw ⟨Nat.le_of_ble_eq_true rfl, Nat.le_of_ble_eq_true rfl⟩) 0 3 rfl rfl hK hP hD hS hA [0, 1, 2, 3, 4, 5, 6] [7, 8, 9, 10, 11, 12, 13, 14, 15, 16, 17] rfl rfl (by decide) (by decide) (by decide) EX_blind (fun U hU hW => EX_pass hE hS (va_free hD hS hA [0, 1, 2, 3, 4, 5, 6] rfl) hU hW) rfl rfl hl.1 (Nat.le_of_ble_eq_true rfl) dX3_grease_6 ⟨hkc, hks⟩ (fun r9 u H locs hr9 hP hD hS => ?_)
  have hr9 := Eq.symm hr9
  subst hr9
  have hP : va_P (dC, dI) vwCl (wTD cI cF cJ ot oh b ou od ow oa ob ok os x1.2 ++ (wHB cI cF cJ oh fa tr rw Hb ++ (wFR cI cF cJ q0 q1 q2 q3 q4 q5 q6 q7 q8 F))) H := hP.sub [11, 12, 13, 14, 15, 16, 17, 0, 1, 2, 3, 4, 5, 6, 7, 8, 9, 10] rfl
  have hD : va_D A (wTD cI cF cJ ot oh b ou od ow oa ob ok os x1.2 ++ (wHB cI cF cJ oh fa tr rw Hb ++ (wFR cI cF cJ q0 q1 q2 q3 q4 q5 q6 q7 q8 F))) := hD.sub [11, 12, 13, 14, 15, 16, 17, 0, 1, 2, 3, 4, 5, 6, 7, 8, 9, 10] (by decide) rfl
  refine lv_istore_n (lv' := [(1, .int x1.1), (0, .ref ot)]) hx hb dX3_grease_9 rfl hl (by decide) rfl (fun ls hl => ?_)
  refine lv_aload_n hx hb dX3_grease_10 rfl (lv_at hl 1 rfl) ?_
  refine va_get (D := (dC, dI)) (ci := 3) (v := .ref ow) (C := RX3) (T := TX3) (N := 12) hx hb hts iX3 hown hK hP 0 rfl rfl 7 (by decide) (hts _ q348) (fun _ h9 => h9) rfl dX3_grease_11 ?_
  refine lv_iconst (v := 0) hx hb dX3_grease_14 (by decide) ?_
  refine sb_aldJ hx hb hK hP 3 2 rfl rfl (gin_in (by decide)) dX3_grease_15 ?_
  refine sb_topv (v' := .ref oa) rfl ?_
  refine lv_iload_n hx hb dX3_grease_16 rfl (lv_at hl 0 rfl) ?_
  obtain ⟨g2, hf⟩ := gd_e hf
  refine va_iald hx hb hK hP 4 0 rfl rfl (gin_in g2) dX3_grease_17 ?_
  refine lv_topi (fun v3 ev3 => ?_)
  have hf := bnd_all hf v3 ev3
  refine lv_aload_n hx hb dX3_grease_18 rfl (lv_at hl 1 rfl) ?_
  refine va_get (D := (dC, dI)) (ci := 3) (v := .ref ow) (C := RX3) (T := TX3) (N := 12) hx hb hts iX3 hown hK hP 0 rfl rfl 7 (by decide) (hts _ q348) (fun _ h9 => h9) rfl dX3_grease_19 ?_
  refine lv_iconst (v := 1) hx hb dX3_grease_22 (by decide) ?_
  refine sb_aldJ hx hb hK hP 3 2 rfl rfl (gin_in (by decide)) dX3_grease_23 ?_
  refine sb_topv (v' := .ref ob) rfl ?_
  refine lv_iload_n hx hb dX3_grease_24 rfl (lv_at hl 0 rfl) ?_
  obtain ⟨g4, hf⟩ := gd_e hf
  refine va_iald hx hb hK hP 5 0 rfl rfl (gin_in g4) dX3_grease_25 ?_
  refine lv_topi (fun v5 ev5 => ?_)
  have hf := bnd_all hf v5 ev5
  refine lv_iadd hx hb dX3_grease_26 ?_
  refine lv_topi (fun v6 ev6 => ?_)
  have hf := bnd_all hf v6 ev6
  refine lv_istore_n (lv' := [(2, .int v6), (1, .int x1.1), (0, .ref ot)]) hx hb dX3_grease_27 rfl hl (by decide) rfl (fun ls hl => ?_)
  refine lv_aload_n hx hb dX3_grease_28 rfl (lv_at hl 2 rfl) ?_
  refine va_get (D := (dC, dI)) (ci := 3) (v := .ref ow) (C := RX3) (T := TX3) (N := 12) hx hb hts iX3 hown hK hP 0 rfl rfl 7 (by decide) (hts _ q348) (fun _ h9 => h9) rfl dX3_grease_29 ?_
  refine lv_iconst (v := 0) hx hb dX3_grease_32 (by decide) ?_
  refine sb_aldJ hx hb hK hP 3 2 rfl rfl (gin_in (by decide)) dX3_grease_33 ?_
  refine sb_topv (v' := .ref oa) rfl ?_
  refine lv_iload_n hx hb dX3_grease_34 rfl (lv_at hl 1 rfl) ?_
  refine lv_iconst (v := 0) hx hb dX3_grease_35 (by decide) ?_
  obtain ⟨g7, hf⟩ := gd_e hf
  refine va_iast hx hb hK hP hD hS 4 0 rfl rfl (gin_in g7) dX3_grease_36 (fun H locs hP hD hS => ?_)
  have hP : va_P (dC, dI) vwCl (wTD cI cF cJ ot oh b ou od ow oa ob ok os (stWa x1.2 (upd (tWa x1.2) (Int32.toNatClampNeg x1.1) 0)) ++ (wHB cI cF cJ oh fa tr rw Hb ++ (wFR cI cF cJ q0 q1 q2 q3 q4 q5 q6 q7 q8 F))) H := hP
  have hD : va_D A (wTD cI cF cJ ot oh b ou od ow oa ob ok os (stWa x1.2 (upd (tWa x1.2) (Int32.toNatClampNeg x1.1) 0)) ++ (wHB cI cF cJ oh fa tr rw Hb ++ (wFR cI cF cJ q0 q1 q2 q3 q4 q5 q6 q7 q8 F))) := hD
  refine lv_aload_n hx hb dX3_grease_37 rfl (lv_at hl 2 rfl) ?_
  refine va_get (D := (dC, dI)) (ci := 3) (v := .ref ow) (C := RX3) (T := TX3) (N := 12) hx hb hts iX3 hown hK hP 0 rfl rfl 7 (by decide) (hts _ q348) (fun _ h9 => h9) rfl dX3_grease_38 ?_
  refine lv_iconst (v := 1) hx hb dX3_grease_41 (by decide) ?_
  refine sb_aldJ hx hb hK hP 3 2 rfl rfl (gin_in (by decide)) dX3_grease_42 ?_
  refine sb_topv (v' := .ref ob) rfl ?_
  refine lv_iload_n hx hb dX3_grease_43 rfl (lv_at hl 1 rfl) ?_
  refine lv_iconst (v := 0) hx hb dX3_grease_44 (by decide) ?_
  obtain ⟨g8, hf⟩ := gd_e hf
  refine va_iast hx hb hK hP hD hS 5 0 rfl rfl (gin_in g8) dX3_grease_45 (fun H locs hP hD hS => ?_)
  have hP : va_P (dC, dI) vwCl (wTD cI cF cJ ot oh b ou od ow oa ob ok os (stWb (stWa x1.2 (upd (tWa x1.2) (Int32.toNatClampNeg x1.1) 0)) (upd (tWb x1.2) (Int32.toNatClampNeg x1.1) 0)) ++ (wHB cI cF cJ oh fa tr rw Hb ++ (wFR cI cF cJ q0 q1 q2 q3 q4 q5 q6 q7 q8 F))) H := hP
  have hD : va_D A (wTD cI cF cJ ot oh b ou od ow oa ob ok os (stWb (stWa x1.2 (upd (tWa x1.2) (Int32.toNatClampNeg x1.1) 0)) (upd (tWb x1.2) (Int32.toNatClampNeg x1.1) 0)) ++ (wHB cI cF cJ oh fa tr rw Hb ++ (wFR cI cF cJ q0 q1 q2 q3 q4 q5 q6 q7 q8 F))) := hD
  refine lv_aload_n hx hb dX3_grease_46 rfl (lv_at hl 2 rfl) ?_
  refine lv_dup hx hb dX3_grease_47 rfl ?_
  refine va_get (D := (dC, dI)) (ci := 3) (v := .long (tTi x1.2)) (C := RX3) (T := TX3) (N := 12) hx hb hts iX3 hown hK hP 0 rfl rfl 11 (by decide) (hts _ q380) (fun _ h9 => h9) rfl dX3_grease_48 ?_
  refine lv_ldc2 hx hb hown (hts _ q465) dX3_grease_51 ?_
  refine lv_ladd hx hb dX3_grease_54 ?_
  refine lv_topl (fun v9 ev9 => ?_)
  have hf := bnd_all hf v9 ev9
  refine va_put (D := (dC, dI)) (ci := 3) (v := .long v9) (ty := .long) (C := RX3) (T := TX3) (N := 12) hx hb hts iX3 tyX3 tyX3_ok nmX3 hown hK hP hD hS 0 rfl rfl 11 (by decide) (hts _ q380) (fun _ h9 => h9) rfl (by decide +kernel) rfl rfl (Nat.le_of_ble_eq_true rfl) dX3_grease_55 (fun H locs hP hD hS => ?_)
  have hP : va_P (dC, dI) vwCl (wTD cI cF cJ ot oh b ou od ow oa ob ok os (stTi (stWb (stWa x1.2 (upd (tWa x1.2) (Int32.toNatClampNeg x1.1) 0)) (upd (tWb x1.2) (Int32.toNatClampNeg x1.1) 0)) v9) ++ (wHB cI cF cJ oh fa tr rw Hb ++ (wFR cI cF cJ q0 q1 q2 q3 q4 q5 q6 q7 q8 F))) H := hP
  have hD : va_D A (wTD cI cF cJ ot oh b ou od ow oa ob ok os (stTi (stWb (stWa x1.2 (upd (tWa x1.2) (Int32.toNatClampNeg x1.1) 0)) (upd (tWb x1.2) (Int32.toNatClampNeg x1.1) 0)) v9) ++ (wHB cI cF cJ oh fa tr rw Hb ++ (wFR cI cF cJ q0 q1 q2 q3 q4 q5 q6 q7 q8 F))) := hD
  refine lv_aload_n hx hb dX3_grease_58 rfl (lv_at hl 2 rfl) ?_
  refine va_get (D := (dC, dI)) (ci := 3) (v := .ref oh) (C := RX3) (T := TX3) (N := 12) hx hb hts iX3 hown hK hP 0 rfl rfl 0 (by decide) (hts _ q332) (fun _ h9 => h9) rfl dX3_grease_59 ?_
  refine lv_aload_n hx hb dX3_grease_62 rfl (lv_at hl 2 rfl) ?_
  refine va_get (D := (dC, dI)) (ci := 3) (v := .int (tNu x1.2)) (C := RX3) (T := TX3) (N := 12) hx hb hts iX3 hown hK hP 0 rfl rfl 3 (by decide) (hts _ q343) (fun _ h9 => h9) rfl dX3_grease_63 ?_
  obtain ⟨g10, hf⟩ := gd_e hf
  refine sb_topv (v' := .int (tNu T)) (congrArg Value.int (gdec_e g10)) ?_
  refine lv_iload_n hx hb dX3_grease_66 rfl (lv_at hl 1 rfl) ?_
  obtain ⟨x11, hx11, hf⟩ := obd_e hf
  refine sb_Vi (As := [.int (tNu T), .int x1.1]) (rest := []) ⟨hx, hb, hml, hown, hts⟩ (fun sz => c_X2_grease l dC dI cI cF cJ cD oh fa tr q0 q1 q2 q3 q4 q5 q6 q7 q8 rw Hb F (tNu T) x1.1 hq x11 hx11 sz) (cwV 2 hts (g_V q466 q467 q468 q172 q251) rfl rfl rfl pc_X2_grease ⟨Nat.le_of_ble_eq_true rfl, Nat.le_of_ble_eq_true rfl⟩) 0 2 rfl rfl hK hP hD hS hA [7, 8, 9, 10, 11, 12, 13, 14, 15, 16, 17] [0, 1, 2, 3, 4, 5, 6] rfl rfl (by decide) (by decide) (by decide) (fun _ _ _ _ h => h) (fun _ _ _ => trivial) rfl rfl hl.1 (Nat.le_of_ble_eq_true rfl) dX3_grease_67 ⟨hkc, hks⟩ (fun r9 u H locs hr9 hP hD hS => ?_)
  have hr9 := Eq.symm hr9
  subst hr9
  have hP : va_P (dC, dI) vwCl (wTD cI cF cJ ot oh b ou od ow oa ob ok os (stTi (stWb (stWa x1.2 (upd (tWa x1.2) (Int32.toNatClampNeg x1.1) 0)) (upd (tWb x1.2) (Int32.toNatClampNeg x1.1) 0)) v9) ++ (wHB cI cF cJ oh fa tr rw Hb ++ (wFR cI cF cJ q0 q1 q2 q3 q4 q5 q6 q7 q8 x11.2))) H := hP
  have hD : va_D A (wTD cI cF cJ ot oh b ou od ow oa ob ok os (stTi (stWb (stWa x1.2 (upd (tWa x1.2) (Int32.toNatClampNeg x1.1) 0)) (upd (tWb x1.2) (Int32.toNatClampNeg x1.1) 0)) v9) ++ (wHB cI cF cJ oh fa tr rw Hb ++ (wFR cI cF cJ q0 q1 q2 q3 q4 q5 q6 q7 q8 x11.2))) := hD
  refine lv_iload_n hx hb dX3_grease_70 rfl (lv_at hl 0 rfl) ?_
  refine lv_icmp_ne (tgt := 78) hx hb dX3_grease_71 (by decide) (fun c12 => ?_) (fun c12 => ?_)
  · have hf := ite_f hf c12
    refine lv_iconst (v := 0) hx hb dX3_grease_78 (by decide) ?_
    obtain rfl := Option.some.inj hf
    exact W.zret (v := 0) hx hb hr (by rfl) (fun t ht hW => ⟨⟨_, (), rfl, rfl, by rw [ht]; exact hP, hD⟩, hS.F ht⟩) hS.2.2 dX3_grease_79
  · have hf := ite_t hf c12
    refine lv_iconst (v := 1) hx hb dX3_grease_74 (by decide) ?_
    refine lv_goto (tgt := 79) hx hb dX3_grease_75 (by decide) ?_
    obtain rfl := Option.some.inj hf
    exact W.zret (v := 1) hx hb hr (by rfl) (fun t ht hW => ⟨⟨_, (), rfl, rfl, by rw [ht]; exact hP, hD⟩, hS.F ht⟩) hS.2.2 dX3_grease_79
