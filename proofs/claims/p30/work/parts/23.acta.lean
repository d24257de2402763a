-- laid by wip/p30/specs.py
noncomputable def f_X3_add (L : Nat) (xs : Nat → Int32) (lr : Nat) (T : TD) (Hb : HB) (F : FR) (K : KO) : Option (Int32 × TD × FR × KO) := obd (f_X3_some L xs T) fun x1 => gd (gin 0 5) <| bnd ((tSm x1.2) (Int32.toNatClampNeg 0)) fun (v3 : Int32) => obd (f_X3_keep lr x1.2 K) fun x4 => obd (f_X3_adds x1.2 x1.1) fun x7 => gd (gdec ((tNu x7) = (tNu T))) <| obd (f_X2_add Hb F (tNu T) x1.1) fun x9 => gd (gin 0 5) <| bnd ((tSm x7) (Int32.toNatClampNeg 0)) fun (v11 : Int32) => bnd (v11 - v3) fun (v12 : Int32) => if x9.1 = v12 then (some (1, x7, x9.2, x4)) else (some (0, x7, x9.2, x4))
theorem pc_X3_add : yX3_add.cls = RX3 ∧ yX3_add.cls ≠ "java/lang/invoke/MethodHandle" ∧ yX3_add.cls ≠ "java/lang/invoke/VarHandle" ∧ (parseMethodDescriptor yX3_add.desc).map (fun d => d.parameters.length) = some 0 := by decide +kernel
abbrev rm_X3_add : Room := { frames := 6, cells := 3, slots := 39, locals := 152 }
set_option maxHeartbeats 4000000 in
set_option maxRecDepth 100000 in
theorem c_X3_add (l : Launch) (dC : Nat → ClassId) (dI : Nat → Nat → Nat) (cI cF cJ cD : ClassId) (b L : Nat) (xs : Nat → Int32) (tA tB : Nat) (lr : Nat) (ot oh ou od ow oa ob ok os fa tr q0 q1 q2 q3 q4 q5 q6 q7 q8 : Nat) (rw : Nat → Option Nat) (rs : RS) (T : TD) (Hb : HB) (F : FR) (K : KO) (hq : f_X2_frameAt rw (tNu T) = some (some q0)) (hrs : rs.map Prod.snd = K) (res : (Int32 × TD × FR × KO)) (hf : f_X3_add L xs lr T Hb F K = some res) (sz : Nat) : Met l yX3_add (ws_ yX3_add cX3_add 3 (some .boolean)) rm_X3_add (sbPre (dC, dI) (TY cI cF cJ cD) ((wTD cI cF cJ ot oh b ou od ow oa ob ok os T ++ (wHB cI cF cJ oh fa tr rw Hb ++ (wFR cI cF cJ q0 q1 q2 q3 q4 q5 q6 q7 q8 F ++ ([kOut cJ ok rs])))) ++ (kRows cI lr rs)) (fun sz U => EX b L xs tA tB (va_A ((wTD cI cF cJ ot oh b ou od ow oa ob ok os T ++ (wHB cI cF cJ oh fa tr rw Hb ++ (wFR cI cF cJ q0 q1 q2 q3 q4 q5 q6 q7 q8 F ++ ([kOut cJ ok rs])))) ++ (kRows cI lr rs)) sz) U) sz [.ref ot]) (va_Qi (fun (r : Int32) (u : Nat × RS) => r = res.1 ∧ u.2.map Prod.snd = res.2.2.2) (sbEnd (dC, dI) (fun (u : Nat × RS) => (wTD cI cF cJ ot oh b ou od ow oa ob u.1 os res.2.1 ++ (wHB cI cF cJ oh fa tr rw Hb ++ (wFR cI cF cJ q0 q1 q2 q3 q4 q5 q6 q7 q8 res.2.2.1 ++ ([kOut cJ u.1 u.2])))) ++ (kRows cI lr u.2)) (va_A ((wTD cI cF cJ ot oh b ou od ow oa ob ok os T ++ (wHB cI cF cJ oh fa tr rw Hb ++ (wFR cI cF cJ q0 q1 q2 q3 q4 q5 q6 q7 q8 F ++ ([kOut cJ ok rs])))) ++ (kRows cI lr rs)) sz)) (va_A ((wTD cI cF cJ ot oh b ou od ow oa ob ok os T ++ (wHB cI cF cJ oh fa tr rw Hb ++ (wFR cI cF cJ q0 q1 q2 q3 q4 q5 q6 q7 q8 F ++ ([kOut cJ ok rs])))) ++ (kRows cI lr rs)) sz)) 3 39 (va_A ((wTD cI cF cJ ot oh b ou od ow oa ob ok os T ++ (wHB cI cF cJ oh fa tr rw Hb ++ (wFR cI cF cJ q0 q1 q2 q3 q4 q5 q6 q7 q8 F ++ ([kOut cJ ok rs])))) ++ (kRows cI lr rs)) sz) := by
  refine Met.ofW (cc := cX3_add) (maxL := 3) (ret := (some .boolean)) (by decide) rfl ?_
  intro p e s m args below meth c s₁ B hml hv
  obtain ⟨rfl, hsz, hP, hK, hD0, hE⟩ := hv
  have hx := B.exec
  have hb := B.bytes
  have hr := B.returns
  have hts0 := atoms_spec (ws := ws_ yX3_add cX3_add 3 (some .boolean)) B.pre
  have hts := fun (w : Cond) (h : w ∈ LW) => hts0 w (List.mem_cons_of_mem _ h)
  have hown : s.vm.findClass RX3 = some m.cls := findClass_of_methodNamed B.named
  have hlocks := B.notSynchronized
  subst hsz
  have hD := hD0.self (sz := s.heap.size)
  have hE : EX b L xs tA tB (va_A ((wTD cI cF cJ ot oh b ou od ow oa ob ok os T ++ (wHB cI cF cJ oh fa tr rw Hb ++ (wFR cI cF cJ q0 q1 q2 q3 q4 q5 q6 q7 q8 F ++ ([kOut cJ ok rs])))) ++ (kRows cI lr rs)) s.heap.size) s := hE
  generalize hAe : va_A ((wTD cI cF cJ ot oh b ou od ow oa ob ok os T ++ (wHB cI cF cJ oh fa tr rw Hb ++ (wFR cI cF cJ q0 q1 q2 q3 q4 q5 q6 q7 q8 F ++ ([kOut cJ ok rs])))) ++ (kRows cI lr rs)) s.heap.size = A at hD hE ⊢
  have hA : ∀ q : Nat, s.heap.size ≤ q → A q := fun q h => by rw [← hAe]; exact Or.inr h
  have hS : va_S A s.heap s.heap [] := va_S.rf
  have hkc := Nat.zero_le rm_X3_add.cells
  have hks := Nat.zero_le rm_X3_add.slots
  have hl := lv_entry ([.ref ot]) (n := 3) (Nat.le_of_ble_eq_true rfl)
  rw [lg_entry_eq]
  generalize (lg_sl ([.ref ot]) ++ List.replicate (3 - (lg_sl ([.ref ot])).length) Slot.unset).toArray = ls at hl ⊢
  have hl : lv_has ls 3 [(0, .ref ot)] := hl
  rw [f_X3_add] at hf
  refine lv_aload_n hx hb dX3_add_0 rfl (lv_at hl 0 rfl) ?_
  obtain ⟨x1, hx1, hf⟩ := obd_e hf
  refine sbT_Vi (As := []) (rest := []) ⟨hx, hb, hml, hown, hts⟩ (fun sz => c_X3_some l dC dI cI cF cJ cD b L xs tA tB ot oh ou od ow oa ob ok os T  x1 hx1 sz) (cwV 0 hts (g_V q406 q407 q408 q352 q405) rfl rfl rfl pc_X3_some ⟨Nat.le_of_ble_eq_true rfl, Nat.le_of_ble_eq_true rfl⟩) 0 3 rfl rfl hK hP hD hS hA [0, 1, 2, 3, 4, 5, 6] [7, 8, 9, 10, 11, 12, 13, 14, 15, 16, 17, 18] rfl rfl (by decide) (by decide) (by decide) EX_blind (fun U hU hW => EX_pass hE hS (va_free hD.left hS hA [0, 1, 2, 3, 4, 5, 6] rfl) hU hW) rfl rfl hl.1 (Nat.le_of_ble_eq_true rfl) dX3_add_1 ⟨hkc, hks⟩ (fun r9 u H locs hr9 hP hD hS => ?_)
  have hr9 := Eq.symm hr9
  subst hr9
  have hP : va_P (dC, dI) vwCl ((wTD cI cF cJ ot oh b ou od ow oa ob ok os x1.2 ++ (wHB cI cF cJ oh fa tr rw Hb ++ (wFR cI cF cJ q0 q1 q2 q3 q4 q5 q6 q7 q8 F ++ ([kOut cJ ok rs])))) ++ (kRows cI lr rs)) H := va_P.part hP [12, 13, 14, 15, 16, 17, 18, 0, 1, 2, 3, 4, 5, 6, 7, 8, 9, 10, 11] rfl
  have hD : va_D A ((wTD cI cF cJ ot oh b ou od ow oa ob ok os x1.2 ++ (wHB cI cF cJ oh fa tr rw Hb ++ (wFR cI cF cJ q0 q1 q2 q3 q4 q5 q6 q7 q8 F ++ ([kOut cJ ok rs])))) ++ (kRows cI lr rs)) := va_D.part hD [12, 13, 14, 15, 16, 17, 18, 0, 1, 2, 3, 4, 5, 6, 7, 8, 9, 10, 11] (by decide) rfl
  refine lv_istore_n (lv' := [(1, .int x1.1), (0, .ref ot)]) hx hb dX3_add_4 rfl hl (by decide) rfl (fun ls hl => ?_)
  refine lv_aload_n hx hb dX3_add_5 rfl (lv_at hl 1 rfl) ?_
  refine va_get (D := (dC, dI)) (ci := 3) (v := .ref os) (C := RX3) (T := TX3) (N := 12) hx hb hts iX3 hown hK hP 0 rfl rfl 9 (by decide) (hts _ q331) (fun _ h9 => h9) rfl dX3_add_6 ?_
  refine lv_iconst (v := 0) hx hb dX3_add_9 (by decide) ?_
  obtain ⟨g2, hf⟩ := gd_e hf
  refine va_iald hx hb hK hP 6 0 rfl rfl (gin_in g2) dX3_add_10 ?_
  refine lv_topi (fun v3 ev3 => ?_)
  have hf := bnd_all hf v3 ev3
  refine lv_istore_n (lv' := [(2, .int v3), (1, .int x1.1), (0, .ref ot)]) hx hb dX3_add_11 rfl hl (by decide) rfl (fun ls hl => ?_)
  refine lv_aload_n hx hb dX3_add_12 rfl (lv_at hl 2 rfl) ?_
  obtain ⟨x4, hx4, hf⟩ := obd_e hf
  refine sbP_Vv (As := []) (rest := []) ⟨hx, hb, hml, hown, hts⟩ (fun sz => c_X3_keep l dC dI cI cF cJ cD b L xs tA tB lr ot oh ou od ow oa ob ok os rs x1.2 K hrs x4 hx4 sz) (cwV 0 hts (g_V q409 q410 q411 q352 q373) rfl rfl rfl pc_X3_keep ⟨Nat.le_of_ble_eq_true rfl, Nat.le_of_ble_eq_true rfl⟩) 0 3 rfl rfl hK hP hD hS hA [0, 1, 2, 3, 4, 5, 6, 18] [7, 8, 9, 10, 11, 12, 13, 14, 15, 16, 17] rfl rfl (by decide) (by decide) (by decide) EX_blind (fun U hU hW => EX_pass hE hS (va_freeP hD hS hA [0, 1, 2, 3, 4, 5, 6, 18] rfl) hU hW) rfl rfl hl.1 (Nat.le_of_ble_eq_true rfl) dX3_add_13 ⟨Nat.le_of_ble_eq_true rfl, Nat.le_of_ble_eq_true rfl⟩ (fun u H locs hr9 hP hD hS => ?_)
  refine W.widen (k := 2) (n := 29) (Nat.le_refl _) (Nat.le_refl _) ?_
  have hrs6 := hr9
  obtain ⟨n5, rs6⟩ := u
  have hP : va_P (dC, dI) vwCl ((wTD cI cF cJ ot oh b ou od ow oa ob n5 os x1.2 ++ (wHB cI cF cJ oh fa tr rw Hb ++ (wFR cI cF cJ q0 q1 q2 q3 q4 q5 q6 q7 q8 F ++ ([kOut cJ n5 rs6])))) ++ (kRows cI lr rs6)) H := va_P.part hP [11, 12, 13, 14, 15, 16, 17, 0, 1, 2, 3, 4, 5, 6, 7, 8, 9, 10, 18] rfl
  have hD : va_D A ((wTD cI cF cJ ot oh b ou od ow oa ob n5 os x1.2 ++ (wHB cI cF cJ oh fa tr rw Hb ++ (wFR cI cF cJ q0 q1 q2 q3 q4 q5 q6 q7 q8 F ++ ([kOut cJ n5 rs6])))) ++ (kRows cI lr rs6)) := va_D.part hD [11, 12, 13, 14, 15, 16, 17, 0, 1, 2, 3, 4, 5, 6, 7, 8, 9, 10, 18] (by decide) rfl
  refine lv_aload_n hx hb dX3_add_16 rfl (lv_at hl 2 rfl) ?_
  refine lv_iload_n hx hb dX3_add_17 rfl (lv_at hl 1 rfl) ?_
  obtain ⟨x7, hx7, hf⟩ := obd_e hf
  refine sbT_Vv (As := [.int x1.1]) (rest := []) ⟨hx, hb, hml, hown, hts⟩ (fun sz => c_X3_adds l dC dI cI cF cJ cD ot oh b ou od ow oa ob n5 os x1.2 x1.1  x7 hx7 sz) (cwV 1 hts (g_V q412 q413 q414 q352 q404) rfl rfl rfl pc_X3_adds ⟨Nat.le_of_ble_eq_true rfl, Nat.le_of_ble_eq_true rfl⟩) 0 3 rfl rfl hK hP hD hS hA [0, 1, 2, 3, 4, 5, 6] [7, 8, 9, 10, 11, 12, 13, 14, 15, 16, 17, 18] rfl rfl (by decide) (by decide) (by decide) (fun _ _ _ _ h => h) (fun _ _ _ => trivial) rfl rfl hl.1 (Nat.le_of_ble_eq_true rfl) dX3_add_18 ⟨Nat.le_of_ble_eq_true rfl, Nat.le_of_ble_eq_true rfl⟩ (fun u H locs hr9 hP hD hS => ?_)
  refine W.widen (k := 3) (n := 39) (Nat.le_refl _) (Nat.le_refl _) ?_
  have hP : va_P (dC, dI) vwCl ((wTD cI cF cJ ot oh b ou od ow oa ob n5 os x7 ++ (wHB cI cF cJ oh fa tr rw Hb ++ (wFR cI cF cJ q0 q1 q2 q3 q4 q5 q6 q7 q8 F ++ ([kOut cJ n5 rs6])))) ++ (kRows cI lr rs6)) H := va_P.part hP [12, 13, 14, 15, 16, 17, 18, 0, 1, 2, 3, 4, 5, 6, 7, 8, 9, 10, 11] rfl
  have hD : va_D A ((wTD cI cF cJ ot oh b ou od ow oa ob n5 os x7 ++ (wHB cI cF cJ oh fa tr rw Hb ++ (wFR cI cF cJ q0 q1 q2 q3 q4 q5 q6 q7 q8 F ++ ([kOut cJ n5 rs6])))) ++ (kRows cI lr rs6)) := va_D.part hD [12, 13, 14, 15, 16, 17, 18, 0, 1, 2, 3, 4, 5, 6, 7, 8, 9, 10, 11] (by decide) rfl
  refine lv_aload_n hx hb dX3_add_21 rfl (lv_at hl 2 rfl) ?_
  refine va_get (D := (dC, dI)) (ci := 3) (v := .ref oh) (C := RX3) (T := TX3) (N := 12) hx hb hts iX3 hown hK hP 0 rfl rfl 0 (by decide) (hts _ q332) (fun _ h9 => h9) rfl dX3_add_22 ?_
  refine lv_aload_n hx hb dX3_add_25 rfl (lv_at hl 2 rfl) ?_
  refine va_get (D := (dC, dI)) (ci := 3) (v := .int (tNu x7)) (C := RX3) (T := TX3) (N := 12) hx hb hts iX3 hown hK hP 0 rfl rfl 3 (by decide) (hts _ q343) (fun _ h9 => h9) rfl dX3_add_26 ?_
  obtain ⟨g8, hf⟩ := gd_e hf
  refine sb_topv (v' := .int (tNu T)) (congrArg Value.int (gdec_e g8)) ?_
  refine lv_iload_n hx hb dX3_add_29 rfl (lv_at hl 1 rfl) ?_
  obtain ⟨x9, hx9, hf⟩ := obd_e hf
  refine sbT_Vi (As := [.int (tNu T), .int x1.1]) (rest := []) ⟨hx, hb, hml, hown, hts⟩ (fun sz => c_X2_add l dC dI cI cF cJ cD oh fa tr q0 q1 q2 q3 q4 q5 q6 q7 q8 rw Hb F (tNu T) x1.1 hq x9 hx9 sz) (cwV 2 hts (g_V q415 q416 q417 q172 q210) rfl rfl rfl pc_X2_add ⟨Nat.le_of_ble_eq_true rfl, Nat.le_of_ble_eq_true rfl⟩) 0 2 rfl rfl hK hP hD hS hA [7, 8, 9, 10, 11, 12, 13, 14, 15, 16, 17] [0, 1, 2, 3, 4, 5, 6, 18] rfl rfl (by decide) (by decide) (by decide) (fun _ _ _ _ h => h) (fun _ _ _ => trivial) rfl rfl hl.1 (Nat.le_of_ble_eq_true rfl) dX3_add_30 ⟨Nat.le_of_ble_eq_true rfl, Nat.le_of_ble_eq_true rfl⟩ (fun r9 u H locs hr9 hP hD hS => ?_)
  have hr9 := Eq.symm hr9
  subst hr9
  have hP : va_P (dC, dI) vwCl ((wTD cI cF cJ ot oh b ou od ow oa ob n5 os x7 ++ (wHB cI cF cJ oh fa tr rw Hb ++ (wFR cI cF cJ q0 q1 q2 q3 q4 q5 q6 q7 q8 x9.2 ++ ([kOut cJ n5 rs6])))) ++ (kRows cI lr rs6)) H := va_P.part hP [0, 1, 2, 3, 4, 5, 6, 8, 9, 10, 11, 12, 13, 14, 15, 16, 17, 18, 7] rfl
  have hD : va_D A ((wTD cI cF cJ ot oh b ou od ow oa ob n5 os x7 ++ (wHB cI cF cJ oh fa tr rw Hb ++ (wFR cI cF cJ q0 q1 q2 q3 q4 q5 q6 q7 q8 x9.2 ++ ([kOut cJ n5 rs6])))) ++ (kRows cI lr rs6)) := va_D.part hD [0, 1, 2, 3, 4, 5, 6, 8, 9, 10, 11, 12, 13, 14, 15, 16, 17, 18, 7] (by decide) rfl
  refine lv_aload_n hx hb dX3_add_33 rfl (lv_at hl 2 rfl) ?_
  refine va_get (D := (dC, dI)) (ci := 3) (v := .ref os) (C := RX3) (T := TX3) (N := 12) hx hb hts iX3 hown hK hP 0 rfl rfl 9 (by decide) (hts _ q331) (fun _ h9 => h9) rfl dX3_add_34 ?_
  refine lv_iconst (v := 0) hx hb dX3_add_37 (by decide) ?_
  obtain ⟨g10, hf⟩ := gd_e hf
  refine va_iald hx hb hK hP 6 0 rfl rfl (gin_in g10) dX3_add_38 ?_
  refine lv_topi (fun v11 ev11 => ?_)
  have hf := bnd_all hf v11 ev11
  refine lv_iload_n hx hb dX3_add_39 rfl (lv_at hl 0 rfl) ?_
  refine lv_isub hx hb dX3_add_40 ?_
  refine lv_topi (fun v12 ev12 => ?_)
  have hf := bnd_all hf v12 ev12
  refine lv_icmp_ne (tgt := 48) hx hb dX3_add_41 (by decide) (fun c13 => ?_) (fun c13 => ?_)
  · have hf := ite_f hf c13
    refine lv_iconst (v := 0) hx hb dX3_add_48 (by decide) ?_
    obtain rfl := Option.some.inj hf
    exact W.zret (v := 0) hx hb hr (by rfl) (fun t ht hW => ⟨⟨_, (n5, rs6), rfl, ⟨rfl, hrs6⟩, by rw [ht]; exact hP, hD⟩, hS.F ht⟩) hS.2.2 dX3_add_49
  · have hf := ite_t hf c13
    refine lv_iconst (v := 1) hx hb dX3_add_44 (by decide) ?_
    refine lv_goto (tgt := 49) hx hb dX3_add_45 (by decide) ?_
    obtain rfl := Option.some.inj hf
    exact W.zret (v := 1) hx hb hr (by rfl) (fun t ht hW => ⟨⟨_, (n5, rs6), rfl, ⟨rfl, hrs6⟩, by rw [ht]; exact hP, hD⟩, hS.F ht⟩) hS.2.2 dX3_add_49
noncomputable def l_X3_clear_19 (c1 : Int32) (R1 : HB) (R2 : FR) (R3 : KO) (L : Nat) (xs : (Nat → Int32)) (lr : Nat) (k : Int32 → TD → Option (Int32 × TD × FR × KO)) : Nat → Int32 → TD → Option (Int32 × TD × FR × KO)
  | 0, _, _ => none
  | n + 1, a7, F8 => if a7 < 0 then (k a7 F8) else (obd (f_X3_set F8 a7 0) fun x10 => bnd (a7 + (-1)) fun (v11 : Int32) => l_X3_clear_19 c1 R1 R2 R3 L xs lr k n v11 x10)
noncomputable def f_X3_clear (L : Nat) (xs : Nat → Int32) (lr : Nat) (T : TD) (Hb : HB) (F : FR) (K : KO) : Option (Int32 × TD × FR × KO) := gd (gin 0 5) <| bnd ((tSm T) (Int32.toNatClampNeg 0)) fun (v2 : Int32) => obd (f_X3_keep lr T K) fun x3 => bnd ((nI (tN T)) - 1) fun (v6 : Int32) => l_X3_clear_19 v2 Hb F x3 L xs lr (fun (a19 : Int32) (F20 : TD) => gd (gdec ((tNu F20) = (tNu T))) <| obd (f_X2_clear Hb F (tNu T)) fun x22 => gd (gin 0 5) <| bnd ((tSm F20) (Int32.toNatClampNeg 0)) fun (v24 : Int32) => bnd (v24 - v2) fun (v25 : Int32) => if x22.1 = v25 then (some (1, F20, x22.2, x3)) else (some (0, F20, x22.2, x3))) 16 v6 T
theorem pc_X3_clear : yX3_clear.cls = RX3 ∧ yX3_clear.cls ≠ "java/lang/invoke/MethodHandle" ∧ yX3_clear.cls ≠ "java/lang/invoke/VarHandle" ∧ (parseMethodDescriptor yX3_clear.desc).map (fun d => d.parameters.length) = some 0 := by decide +kernel
abbrev rm_X3_clear : Room := { frames := 5, cells := 2, slots := 29, locals := 126 }
set_option maxHeartbeats 4000000 in
set_option maxRecDepth 100000 in
theorem c_X3_clear (l : Launch) (dC : Nat → ClassId) (dI : Nat → Nat → Nat) (cI cF cJ cD : ClassId) (b L : Nat) (xs : Nat → Int32) (tA tB : Nat) (lr : Nat) (ot oh ou od ow oa ob ok os fa tr q0 q1 q2 q3 q4 q5 q6 q7 q8 : Nat) (rw : Nat → Option Nat) (rs : RS) (T : TD) (Hb : HB) (F : FR) (K : KO) (hq : f_X2_frameAt rw (tNu T) = some (some q0)) (hrs : rs.map Prod.snd = K) (res : (Int32 × TD × FR × KO)) (hf : f_X3_clear L xs lr T Hb F K = some res) (sz : Nat) : Met l yX3_clear (ws_ yX3_clear cX3_clear 3 (some .boolean)) rm_X3_clear (sbPre (dC, dI) (TY cI cF cJ cD) ((wTD cI cF cJ ot oh b ou od ow oa ob ok os T ++ (wHB cI cF cJ oh fa tr rw Hb ++ (wFR cI cF cJ q0 q1 q2 q3 q4 q5 q6 q7 q8 F ++ ([kOut cJ ok rs])))) ++ (kRows cI lr rs)) (fun sz U => EX b L xs tA tB (va_A ((wTD cI cF cJ ot oh b ou od ow oa ob ok os T ++ (wHB cI cF cJ oh fa tr rw Hb ++ (wFR cI cF cJ q0 q1 q2 q3 q4 q5 q6 q7 q8 F ++ ([kOut cJ ok rs])))) ++ (kRows cI lr rs)) sz) U) sz [.ref ot]) (va_Qi (fun (r : Int32) (u : Nat × RS) => r = res.1 ∧ u.2.map Prod.snd = res.2.2.2) (sbEnd (dC, dI) (fun (u : Nat × RS) => (wTD cI cF cJ ot oh b ou od ow oa ob u.1 os res.2.1 ++ (wHB cI cF cJ oh fa tr rw Hb ++ (wFR cI cF cJ q0 q1 q2 q3 q4 q5 q6 q7 q8 res.2.2.1 ++ ([kOut cJ u.1 u.2])))) ++ (kRows cI lr u.2)) (va_A ((wTD cI cF cJ ot oh b ou od ow oa ob ok os T ++ (wHB cI cF cJ oh fa tr rw Hb ++ (wFR cI cF cJ q0 q1 q2 q3 q4 q5 q6 q7 q8 F ++ ([kOut cJ ok rs])))) ++ (kRows cI lr rs)) sz)) (va_A ((wTD cI cF cJ ot oh b ou od ow oa ob ok os T ++ (wHB cI cF cJ oh fa tr rw Hb ++ (wFR cI cF cJ q0 q1 q2 q3 q4 q5 q6 q7 q8 F ++ ([kOut cJ ok rs])))) ++ (kRows cI lr rs)) sz)) 2 29 (va_A ((wTD cI cF cJ ot oh b ou od ow oa ob ok os T ++ (wHB cI cF cJ oh fa tr rw Hb ++ (wFR cI cF cJ q0 q1 q2 q3 q4 q5 q6 q7 q8 F ++ ([kOut cJ ok rs])))) ++ (kRows cI lr rs)) sz) := by
  refine Met.ofW (cc := cX3_clear) (maxL := 3) (ret := (some .boolean)) (by decide) rfl ?_
  intro p e s m args below meth c s₁ B hml hv
  obtain ⟨rfl, hsz, hP, hK, hD0, hE⟩ := hv
  have hx := B.exec
  have hb := B.bytes
  have hr := B.returns
  have hts0 := atoms_spec (ws := ws_ yX3_clear cX3_clear 3 (some .boolean)) B.pre
  have hts := fun (w : Cond) (h : w ∈ LW) => hts0 w (List.mem_cons_of_mem _ h)
  have hown : s.vm.findClass RX3 = some m.cls := findClass_of_methodNamed B.named
  have hlocks := B.notSynchronized
  subst hsz
  have hD := hD0.self (sz := s.heap.size)
  have hE : EX b L xs tA tB (va_A ((wTD cI cF cJ ot oh b ou od ow oa ob ok os T ++ (wHB cI cF cJ oh fa tr rw Hb ++ (wFR cI cF cJ q0 q1 q2 q3 q4 q5 q6 q7 q8 F ++ ([kOut cJ ok rs])))) ++ (kRows cI lr rs)) s.heap.size) s := hE
  generalize hAe : va_A ((wTD cI cF cJ ot oh b ou od ow oa ob ok os T ++ (wHB cI cF cJ oh fa tr rw Hb ++ (wFR cI cF cJ q0 q1 q2 q3 q4 q5 q6 q7 q8 F ++ ([kOut cJ ok rs])))) ++ (kRows cI lr rs)) s.heap.size = A at hD hE ⊢
  have hA : ∀ q : Nat, s.heap.size ≤ q → A q := fun q h => by rw [← hAe]; exact Or.inr h
  have hS : va_S A s.heap s.heap [] := va_S.rf
  have hkc := Nat.zero_le rm_X3_clear.cells
  have hks := Nat.zero_le rm_X3_clear.slots
  have hl := lv_entry ([.ref ot]) (n := 3) (Nat.le_of_ble_eq_true rfl)
  rw [lg_entry_eq]
  generalize (lg_sl ([.ref ot]) ++ List.replicate (3 - (lg_sl ([.ref ot])).length) Slot.unset).toArray = ls at hl ⊢
  have hl : lv_has ls 3 [(0, .ref ot)] := hl
  rw [f_X3_clear] at hf
  refine lv_aload_n hx hb dX3_clear_0 rfl (lv_at hl 0 rfl) ?_
  refine va_get (D := (dC, dI)) (ci := 3) (v := .ref os) (C := RX3) (T := TX3) (N := 12) hx hb hts iX3 hown hK hP 0 rfl rfl 9 (by decide) (hts _ q331) (fun _ h9 => h9) rfl dX3_clear_1 ?_
  refine lv_iconst (v := 0) hx hb dX3_clear_4 (by decide) ?_
  obtain ⟨g1, hf⟩ := gd_e hf
  refine va_iald hx hb hK hP 6 0 rfl rfl (gin_in g1) dX3_clear_5 ?_
  refine lv_topi (fun v2 ev2 => ?_)
  have hf := bnd_all hf v2 ev2
  refine lv_istore_n (lv' := [(1, .int v2), (0, .ref ot)]) hx hb dX3_clear_6 rfl hl (by decide) rfl (fun ls hl => ?_)
  refine lv_aload_n hx hb dX3_clear_7 rfl (lv_at hl 1 rfl) ?_
  obtain ⟨x3, hx3, hf⟩ := obd_e hf
  refine sbP_Vv (As := []) (rest := []) ⟨hx, hb, hml, hown, hts⟩ (fun sz => c_X3_keep l dC dI cI cF cJ cD b L xs tA tB lr ot oh ou od ow oa ob ok os rs T K hrs x3 hx3 sz) (cwV 0 hts (g_V q409 q410 q411 q352 q373) rfl rfl rfl pc_X3_keep ⟨Nat.le_of_ble_eq_true rfl, Nat.le_of_ble_eq_true rfl⟩) 0 3 rfl rfl hK hP hD hS hA [0, 1, 2, 3, 4, 5, 6, 18] [7, 8, 9, 10, 11, 12, 13, 14, 15, 16, 17] rfl rfl (by decide) (by decide) (by decide) EX_blind (fun U hU hW => EX_pass hE hS (va_freeP hD hS hA [0, 1, 2, 3, 4, 5, 6, 18] rfl) hU hW) rfl rfl hl.1 (Nat.le_of_ble_eq_true rfl) dX3_clear_8 ⟨Nat.le_of_ble_eq_true rfl, Nat.le_of_ble_eq_true rfl⟩ (fun u H locs hr9 hP hD hS => ?_)
  refine W.widen (k := 2) (n := 29) (Nat.le_refl _) (Nat.le_refl _) ?_
  have hrs5 := hr9
  obtain ⟨n4, rs5⟩ := u
  have hP : va_P (dC, dI) vwCl ((wTD cI cF cJ ot oh b ou od ow oa ob n4 os T ++ (wHB cI cF cJ oh fa tr rw Hb ++ (wFR cI cF cJ q0 q1 q2 q3 q4 q5 q6 q7 q8 F ++ ([kOut cJ n4 rs5])))) ++ (kRows cI lr rs5)) H := va_P.part hP [11, 12, 13, 14, 15, 16, 17, 0, 1, 2, 3, 4, 5, 6, 7, 8, 9, 10, 18] rfl
  have hD : va_D A ((wTD cI cF cJ ot oh b ou od ow oa ob n4 os T ++ (wHB cI cF cJ oh fa tr rw Hb ++ (wFR cI cF cJ q0 q1 q2 q3 q4 q5 q6 q7 q8 F ++ ([kOut cJ n4 rs5])))) ++ (kRows cI lr rs5)) := va_D.part hD [11, 12, 13, 14, 15, 16, 17, 0, 1, 2, 3, 4, 5, 6, 7, 8, 9, 10, 18] (by decide) rfl
  refine lv_aload_n hx hb dX3_clear_11 rfl (lv_at hl 1 rfl) ?_
  refine va_get (D := (dC, dI)) (ci := 3) (v := .ref ou) (C := RX3) (T := TX3) (N := 12) hx hb hts iX3 hown hK hP 0 rfl rfl 5 (by decide) (hts _ q345) (fun _ h9 => h9) rfl dX3_clear_12 ?_
  refine va_alen (v := (nI (tN T))) hx hb hK hP 1 0 rfl rfl rfl dX3_clear_15 ?_
  refine lv_iconst (v := 1) hx hb dX3_clear_16 (by decide) ?_
  refine lv_isub hx hb dX3_clear_17 ?_
  refine lv_topi (fun v6 ev6 => ?_)
  have hf := bnd_all hf v6 ev6
  refine lv_istore_n (lv' := [(2, .int v6), (1, .int v2), (0, .ref ot)]) hx hb dX3_clear_18 rfl hl (by decide) rfl (fun ls hl => ?_)
  have L19 : ∀ (k : Int32 → TD → Option (Int32 × TD × FR × KO)), (∀ (a12 : Int32) (F13 : TD) (H : Heap) (locs : List Loc) (ls : Array Slot), va_P (dC, dI) vwCl ((wTD cI cF cJ ot oh b ou od ow oa ob n4 os F13 ++ (wHB cI cF cJ oh fa tr rw Hb ++ (wFR cI cF cJ q0 q1 q2 q3 q4 q5 q6 q7 q8 F ++ ([kOut cJ n4 rs5])))) ++ (kRows cI lr rs5)) H → va_D A ((wTD cI cF cJ ot oh b ou od ow oa ob n4 os F13 ++ (wHB cI cF cJ oh fa tr rw Hb ++ (wFR cI cF cJ q0 q1 q2 q3 q4 q5 q6 q7 q8 F ++ ([kOut cJ n4 rs5])))) ++ (kRows cI lr rs5)) → va_S A s.heap H locs → lv_has ls 3 [(0, .ref ot), (1, .int v2)] → k a12 F13 = some res → W p l e (headSpec (ws_ yX3_clear cX3_clear 3 (some .boolean)) rm_X3_clear).room s m ([.ref ot].toArray) below meth c H locs 2 29 (MQ below (va_Qi (fun (r : Int32) (u : Nat × RS) => r = res.1 ∧ u.2.map Prod.snd = res.2.2.2) (sbEnd (dC, dI) (fun (u : Nat × RS) => (wTD cI cF cJ ot oh b ou od ow oa ob u.1 os res.2.1 ++ (wHB cI cF cJ oh fa tr rw Hb ++ (wFR cI cF cJ q0 q1 q2 q3 q4 q5 q6 q7 q8 res.2.2.1 ++ ([kOut cJ u.1 u.2])))) ++ (kRows cI lr u.2)) (A)) (A)) ([.ref ot].toArray) s 2 29 A) (F0 m 35 ls [])) → ∀ (n : Nat) (a12 : Int32) (F13 : TD) (H : Heap) (locs : List Loc) (ls : Array Slot), va_P (dC, dI) vwCl ((wTD cI cF cJ ot oh b ou od ow oa ob n4 os F13 ++ (wHB cI cF cJ oh fa tr rw Hb ++ (wFR cI cF cJ q0 q1 q2 q3 q4 q5 q6 q7 q8 F ++ ([kOut cJ n4 rs5])))) ++ (kRows cI lr rs5)) H → va_D A ((wTD cI cF cJ ot oh b ou od ow oa ob n4 os F13 ++ (wHB cI cF cJ oh fa tr rw Hb ++ (wFR cI cF cJ q0 q1 q2 q3 q4 q5 q6 q7 q8 F ++ ([kOut cJ n4 rs5])))) ++ (kRows cI lr rs5)) → va_S A s.heap H locs → lv_has ls 3 [(2, .int a12), (0, .ref ot), (1, .int v2)] → l_X3_clear_19 v2 Hb F x3 L xs lr k n a12 F13 = some res → W p l e (headSpec (ws_ yX3_clear cX3_clear 3 (some .boolean)) rm_X3_clear).room s m ([.ref ot].toArray) below meth c H locs 2 29 (MQ below (va_Qi (fun (r : Int32) (u : Nat × RS) => r = res.1 ∧ u.2.map Prod.snd = res.2.2.2) (sbEnd (dC, dI) (fun (u : Nat × RS) => (wTD cI cF cJ ot oh b ou od ow oa ob u.1 os res.2.1 ++ (wHB cI cF cJ oh fa tr rw Hb ++ (wFR cI cF cJ q0 q1 q2 q3 q4 q5 q6 q7 q8 res.2.2.1 ++ ([kOut cJ u.1 u.2])))) ++ (kRows cI lr u.2)) (A)) (A)) ([.ref ot].toArray) s 2 29 A) (F0 m 19 ls []) := by
    intro k hk n
    induction n with
    | zero =>
      intro a14 F15 H locs ls hP hD hS hl hf
      rw [l_X3_clear_19] at hf
      cases hf
    | succ n ih =>
      intro a14 F15 H locs ls hP hD hS hl hf
      rw [l_X3_clear_19] at hf
      refine lv_iload_n hx hb dX3_clear_19 rfl (lv_at hl 0 rfl) ?_
      refine lv_if_lt (tgt := 35) hx hb dX3_clear_20 (by decide) (fun c16 => ?_) (fun c16 => ?_)
      · have hf := ite_t hf c16
        exact hk a14 F15 _ _ _ hP hD hS (lv_sub hl [1, 2] rfl) hf
      · have hf := ite_f hf c16
        refine lv_aload_n hx hb dX3_clear_23 rfl (lv_at hl 1 rfl) ?_
        refine lv_iload_n hx hb dX3_clear_24 rfl (lv_at hl 0 rfl) ?_
        refine lv_iconst (v := 0) hx hb dX3_clear_25 (by decide) ?_
        obtain ⟨x17, hx17, hf⟩ := obd_e hf
        refine sbT_Vv (As := [.int a14, .int 0]) (rest := []) ⟨hx, hb, hml, hown, hts⟩ (fun sz => c_X3_set l dC dI cI cF cJ cD ot oh b ou od ow oa ob n4 os F15 a14 0  x17 hx17 sz) (cwV 2 hts (g_V q394 q395 q396 q352 q393) rfl rfl rfl pc_X3_set ⟨Nat.le_of_ble_eq_true rfl, Nat.le_of_ble_eq_true rfl⟩) 0 3 rfl rfl hK hP hD hS hA [0, 1, 2, 3, 4, 5, 6] [7, 8, 9, 10, 11, 12, 13, 14, 15, 16, 17, 18] rfl rfl (by decide) (by decide) (by decide) (fun _ _ _ _ h => h) (fun _ _ _ => trivial) rfl rfl hl.1 (Nat.le_of_ble_eq_true rfl) dX3_clear_26 ⟨Nat.le_of_ble_eq_true rfl, Nat.le_of_ble_eq_true rfl⟩ (fun u H locs hr9 hP hD hS => ?_)
        have hP : va_P (dC, dI) vwCl ((wTD cI cF cJ ot oh b ou od ow oa ob n4 os x17 ++ (wHB cI cF cJ oh fa tr rw Hb ++ (wFR cI cF cJ q0 q1 q2 q3 q4 q5 q6 q7 q8 F ++ ([kOut cJ n4 rs5])))) ++ (kRows cI lr rs5)) H := va_P.part hP [12, 13, 14, 15, 16, 17, 18, 0, 1, 2, 3, 4, 5, 6, 7, 8, 9, 10, 11] rfl
        have hD : va_D A ((wTD cI cF cJ ot oh b ou od ow oa ob n4 os x17 ++ (wHB cI cF cJ oh fa tr rw Hb ++ (wFR cI cF cJ q0 q1 q2 q3 q4 q5 q6 q7 q8 F ++ ([kOut cJ n4 rs5])))) ++ (kRows cI lr rs5)) := va_D.part hD [12, 13, 14, 15, 16, 17, 18, 0, 1, 2, 3, 4, 5, 6, 7, 8, 9, 10, 11] (by decide) rfl
        obtain ⟨v18, ev18⟩ : ∃ y : Int32, y = a14 + (-1) := ⟨_, rfl⟩
        have hf := bnd_all hf v18 ev18
        refine lv_iinc (v := v18) (lv' := [(2, .int v18), (0, .ref ot), (1, .int v2)]) hx hb dX3_clear_29 hl (k := 0) rfl (by rw [ev18]; rfl) (by decide) rfl (fun ls hl => ?_)
        refine lv_goto (tgt := 19) hx hb dX3_clear_32 (by decide) ?_
        exact ih v18 x17 _ _ _ hP hD hS (lv_sub hl [0, 1, 2] rfl) hf
  refine L19 _ (fun a19 F20 H locs ls hP hD hS hl hf => ?_) 16 v6 T _ _ _ hP hD hS (lv_sub hl [0, 2, 1] rfl) hf
  refine lv_aload_n hx hb dX3_clear_35 rfl (lv_at hl 0 rfl) ?_
  refine va_get (D := (dC, dI)) (ci := 3) (v := .ref oh) (C := RX3) (T := TX3) (N := 12) hx hb hts iX3 hown hK hP 0 rfl rfl 0 (by decide) (hts _ q332) (fun _ h9 => h9) rfl dX3_clear_36 ?_
  refine lv_aload_n hx hb dX3_clear_39 rfl (lv_at hl 0 rfl) ?_
  refine va_get (D := (dC, dI)) (ci := 3) (v := .int (tNu F20)) (C := RX3) (T := TX3) (N := 12) hx hb hts iX3 hown hK hP 0 rfl rfl 3 (by decide) (hts _ q343) (fun _ h9 => h9) rfl dX3_clear_40 ?_
  obtain ⟨g21, hf⟩ := gd_e hf
  refine sb_topv (v' := .int (tNu T)) (congrArg Value.int (gdec_e g21)) ?_
  obtain ⟨x22, hx22, hf⟩ := obd_e hf
  refine sbT_Vi (As := [.int (tNu T)]) (rest := []) ⟨hx, hb, hml, hown, hts⟩ (fun sz => c_X2_clear l dC dI cI cF cJ cD oh fa tr q0 q1 q2 q3 q4 q5 q6 q7 q8 rw Hb F (tNu T) hq x22 hx22 sz) (cwV 1 hts (g_V q446 q447 q448 q172 q242) rfl rfl rfl pc_X2_clear ⟨Nat.le_of_ble_eq_true rfl, Nat.le_of_ble_eq_true rfl⟩) 0 2 rfl rfl hK hP hD hS hA [7, 8, 9, 10, 11, 12, 13, 14, 15, 16, 17] [0, 1, 2, 3, 4, 5, 6, 18] rfl rfl (by decide) (by decide) (by decide) (fun _ _ _ _ h => h) (fun _ _ _ => trivial) rfl rfl hl.1 (Nat.le_of_ble_eq_true rfl) dX3_clear_43 ⟨Nat.le_of_ble_eq_true rfl, Nat.le_of_ble_eq_true rfl⟩ (fun r9 u H locs hr9 hP hD hS => ?_)
  have hr9 := Eq.symm hr9
  subst hr9
  have hP : va_P (dC, dI) vwCl ((wTD cI cF cJ ot oh b ou od ow oa ob n4 os F20 ++ (wHB cI cF cJ oh fa tr rw Hb ++ (wFR cI cF cJ q0 q1 q2 q3 q4 q5 q6 q7 q8 x22.2 ++ ([kOut cJ n4 rs5])))) ++ (kRows cI lr rs5)) H := va_P.part hP [0, 1, 2, 3, 4, 5, 6, 8, 9, 10, 11, 12, 13, 14, 15, 16, 17, 18, 7] rfl
  have hD : va_D A ((wTD cI cF cJ ot oh b ou od ow oa ob n4 os F20 ++ (wHB cI cF cJ oh fa tr rw Hb ++ (wFR cI cF cJ q0 q1 q2 q3 q4 q5 q6 q7 q8 x22.2 ++ ([kOut cJ n4 rs5])))) ++ (kRows cI lr rs5)) := va_D.part hD [0, 1, 2, 3, 4, 5, 6, 8, 9, 10, 11, 12, 13, 14, 15, 16, 17, 18, 7] (by decide) rfl
  refine lv_aload_n hx hb dX3_clear_46 rfl (lv_at hl 0 rfl) ?_
  refine va_get (D := (dC, dI)) (ci := 3) (v := .ref os) (C := RX3) (T := TX3) (N := 12) hx hb hts iX3 hown hK hP 0 rfl rfl 9 (by decide) (hts _ q331) (fun _ h9 => h9) rfl dX3_clear_47 ?_
  refine lv_iconst (v := 0) hx hb dX3_clear_50 (by decide) ?_
  obtain ⟨g23, hf⟩ := gd_e hf
  refine va_iald hx hb hK hP 6 0 rfl rfl (gin_in g23) dX3_clear_51 ?_
  refine lv_topi (fun v24 ev24 => ?_)
  have hf := bnd_all hf v24 ev24
  refine lv_iload_n hx hb dX3_clear_52 rfl (lv_at hl 1 rfl) ?_
  refine lv_isub hx hb dX3_clear_53 ?_
  refine lv_topi (fun v25 ev25 => ?_)
  have hf := bnd_all hf v25 ev25
  refine lv_icmp_ne (tgt := 61) hx hb dX3_clear_54 (by decide) (fun c26 => ?_) (fun c26 => ?_)
  · have hf := ite_f hf c26
    refine lv_iconst (v := 0) hx hb dX3_clear_61 (by decide) ?_
    obtain rfl := Option.some.inj hf
    exact W.zret (v := 0) hx hb hr (by rfl) (fun t ht hW => ⟨⟨_, (n4, rs5), rfl, ⟨rfl, hrs5⟩, by rw [ht]; exact hP, hD⟩, hS.F ht⟩) hS.2.2 dX3_clear_62
  · have hf := ite_t hf c26
    refine lv_iconst (v := 1) hx hb dX3_clear_57 (by decide) ?_
    refine lv_goto (tgt := 62) hx hb dX3_clear_58 (by decide) ?_
    obtain rfl := Option.some.inj hf
    exact W.zret (v := 1) hx hb hr (by rfl) (fun t ht hW => ⟨⟨_, (n4, rs5), rfl, ⟨rfl, hrs5⟩, by rw [ht]; exact hP, hD⟩, hS.F ht⟩) hS.2.2 dX3_clear_62
