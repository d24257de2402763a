-- laid by wip/p30/specs.py
noncomputable def f_X3_push (L : Nat) (xs : Nat → Int32) (lr : Nat) (T : TD) (Hb : HB) (F : FR) (K : KO) : Option (Int32 × TD × FR × KO) := obd (f_X3_draw L xs T (nI (tN T))) fun x1 => obd (f_X3_ups x1.2) fun x2 => if x2 ≤ 0 then (gd (gin x1.1 (tN x1.2)) <| bnd ((tDn x1.2) (Int32.toNatClampNeg x1.1)) fun (v5 : Int32) => obd (f_X3_downs x1.2) fun x6 => bnd (x6 + 1) fun (v7 : Int32) => obd (f_X3_draw L xs x1.2 v7) fun x8 => if x8.1 = v5 then (some (1, x8.2, F, K)) else (obd (f_X3_keep lr x8.2 K) fun x10 => bnd (x8.1 - v5) fun (v13 : Int32) => obd (f_X3_moveB x8.2 x1.1 v13) fun x14 => gd (gdec ((tNu x14) = (tNu T))) <| bnd (x8.1 - v5) fun (v16 : Int32) => obd (f_X2_push Hb F (tNu T) x1.1 0 v16) fun x17 => obd (f_X3_value x14 x1.1) fun x18 => if x17.1 = x18 then (some (1, x14, x17.2, x10)) else (some (0, x14, x17.2, x10)))) else (obd (f_X3_draw L xs x1.2 2) fun x20 => if x20.1 = 0 then (gd (gin x1.1 (tN x20.2)) <| bnd ((tUp x20.2) (Int32.toNatClampNeg x1.1)) fun (v39 : Int32) => obd (f_X3_ups x20.2) fun x40 => bnd (x40 + 1) fun (v41 : Int32) => obd (f_X3_draw L xs x20.2 v41) fun x42 => if x42.1 = v39 then (some (1, x42.2, F, K)) else (obd (f_X3_keep lr x42.2 K) fun x44 => bnd (x42.1 - v39) fun (v47 : Int32) => obd (f_X3_move x42.2 x1.1 v47) fun x48 => gd (gdec ((tNu x48) = (tNu T))) <| bnd (x42.1 - v39) fun (v50 : Int32) => obd (f_X2_push Hb F (tNu T) x1.1 1 v50) fun x51 => obd (f_X3_value x48 x1.1) fun x52 => if x51.1 = x52 then (some (1, x48, x51.2, x44)) else (some (0, x48, x51.2, x44)))) else (gd (gin x1.1 (tN x20.2)) <| bnd ((tDn x20.2) (Int32.toNatClampNeg x1.1)) fun (v23 : Int32) => obd (f_X3_downs x20.2) fun x24 => bnd (x24 + 1) fun (v25 : Int32) => obd (f_X3_draw L xs x20.2 v25) fun x26 => if x26.1 = v23 then (some (1, x26.2, F, K)) else (obd (f_X3_keep lr x26.2 K) fun x28 => bnd (x26.1 - v23) fun (v31 : Int32) => obd (f_X3_moveB x26.2 x1.1 v31) fun x32 => gd (gdec ((tNu x32) = (tNu T))) <| bnd (x26.1 - v23) fun (v34 : Int32) => obd (f_X2_push Hb F (tNu T) x1.1 0 v34) fun x35 => obd (f_X3_value x32 x1.1) fun x36 => if x35.1 = x36 then (some (1, x32, x35.2, x28)) else (some (0, x32, x35.2, x28)))))
theorem pc_X3_push : yX3_push.cls = RX3 ∧ yX3_push.cls ≠ "java/lang/invoke/MethodHandle" ∧ yX3_push.cls ≠ "java/lang/invoke/VarHandle" ∧ (parseMethodDescriptor yX3_push.desc).map (fun d => d.parameters.length) = some 0 := by decide +kernel
abbrev rm_X3_push : Room := { frames := 5, cells := 2, slots := 29, locals := 113 }
set_option maxHeartbeats 4000000 in
set_option maxRecDepth 100000 in
theorem c_X3_push (l : Launch) (dC : Nat → ClassId) (dI : Nat → Nat → Nat) (cI cF cJ cD : ClassId) (b L : Nat) (xs : Nat → Int32) (tA tB : Nat) (lr : Nat) (ot oh ou od ow oa ob ok os fa tr q0 q1 q2 q3 q4 q5 q6 q7 q8 : Nat) (rw : Nat → Option Nat) (rs : RS) (T : TD) (Hb : HB) (F : FR) (K : KO) (hq : f_X2_frameAt rw (tNu T) = some (some q0)) (hrs : rs.map Prod.snd = K) (res : (Int32 × TD × FR × KO)) (hf : f_X3_push L xs lr T Hb F K = some res) (sz : Nat) : Met l yX3_push (ws_ yX3_push cX3_push 5 (some .boolean)) rm_X3_push (sbPre (dC, dI) (TY cI cF cJ cD) ((wTD cI cF cJ ot oh b ou od ow oa ob ok os T ++ (wHB cI cF cJ oh fa tr rw Hb ++ (wFR cI cF cJ q0 q1 q2 q3 q4 q5 q6 q7 q8 F ++ ([kOut cJ ok rs])))) ++ (kRows cI lr rs)) (fun sz U => EX b L xs tA tB (va_A ((wTD cI cF cJ ot oh b ou od ow oa ob ok os T ++ (wHB cI cF cJ oh fa tr rw Hb ++ (wFR cI cF cJ q0 q1 q2 q3 q4 q5 q6 q7 q8 F ++ ([kOut cJ ok rs])))) ++ (kRows cI lr rs)) sz) U) sz [.ref ot]) (va_Qi (fun (r : Int32) (u : Nat × RS) => r = res.1 ∧ u.2.map Prod.snd = res.2.2.2) (sbEnd (dC, dI) (fun (u : Nat × RS) => (wTD cI cF cJ ot oh b ou od ow oa ob u.1 os res.2.1 ++ (wHB cI cF cJ oh fa tr rw Hb ++ (wFR cI cF cJ q0 q1 q2 q3 q4 q5 q6 q7 q8 res.2.2.1 ++ ([kOut cJ u.1 u.2])))) ++ (kRows cI lr u.2)) (va_A ((wTD cI cF cJ ot oh b ou od ow oa ob ok os T ++ (wHB cI cF cJ oh fa tr rw Hb ++ (wFR cI cF cJ q0 q1 q2 q3 q4 q5 q6 q7 q8 F ++ ([kOut cJ ok rs])))) ++ (kRows cI lr rs)) sz)) (va_A ((wTD cI cF cJ ot oh b ou od ow oa ob ok os T ++ (wHB cI cF cJ oh fa tr rw Hb ++ (wFR cI cF cJ q0 q1 q2 q3 q4 q5 q6 q7 q8 F ++ ([kOut cJ ok rs])))) ++ (kRows cI lr rs)) sz)) 2 29 (va_A ((wTD cI cF cJ ot oh b ou od ow oa ob ok os T ++ (wHB cI cF cJ oh fa tr rw Hb ++ (wFR cI cF cJ q0 q1 q2 q3 q4 q5 q6 q7 q8 F ++ ([kOut cJ ok rs])))) ++ (kRows cI lr rs)) sz) := by
  refine Met.ofW (cc := cX3_push) (maxL := 5) (ret := (some .boolean)) (by decide) rfl ?_
  intro p e s m args below meth c s₁ B hml hv
  obtain ⟨rfl, hsz, hP, hK, hD0, hE⟩ := hv
  have hx := B.exec
  have hb := B.bytes
  have hr := B.returns
  have hts0 := atoms_spec (ws := ws_ yX3_push cX3_push 5 (some .boolean)) B.pre
  have hts := fun (w : Cond) (h : w ∈ LW) => hts0 w (List.mem_cons_of_mem _ h)
  have hown : s.vm.findClass RX3 = some m.cls := findClass_of_methodNamed B.named
  have hlocks := B.notSynchronized
  subst hsz
  have hD := hD0.self (sz := s.heap.size)
  have hE : EX b L xs tA tB (va_A ((wTD cI cF cJ ot oh b ou od ow oa ob ok os T ++ (wHB cI cF cJ oh fa tr rw Hb ++ (wFR cI cF cJ q0 q1 q2 q3 q4 q5 q6 q7 q8 F ++ ([kOut cJ ok rs])))) ++ (kRows cI lr rs)) s.heap.size) s := hE
  generalize hAe : va_A ((wTD cI cF cJ ot oh b ou od ow oa ob ok os T ++ (wHB cI cF cJ oh fa tr rw Hb ++ (wFR cI cF cJ q0 q1 q2 q3 q4 q5 q6 q7 q8 F ++ ([kOut cJ ok rs])))) ++ (kRows cI lr rs)) s.heap.size = A at hD hE ⊢
  have hA : ∀ q : Nat, s.heap.size ≤ q → A q := fun q h => by rw [← hAe]; exact Or.inr h
  have hS : va_S A s.heap s.heap [] := va_S.rf
  have hkc := Nat.zero_le rm_X3_push.cells
  have hks := Nat.zero_le rm_X3_push.slots
  have hl := lv_entry ([.ref ot]) (n := 5) (Nat.le_of_ble_eq_true rfl)
  rw [lg_entry_eq]
  generalize (lg_sl ([.ref ot]) ++ List.replicate (5 - (lg_sl ([.ref ot])).length) Slot.unset).toArray = ls at hl ⊢
  have hl : lv_has ls 5 [(0, .ref ot)] := hl
  rw [f_X3_push] at hf
  refine lv_aload_n hx hb dX3_push_0 rfl (lv_at hl 0 rfl) ?_
  refine lv_aload_n hx hb dX3_push_1 rfl (lv_at hl 0 rfl) ?_
  refine va_get (D := (dC, dI)) (ci := 3) (v := .ref ou) (C := RX3) (T := TX3) (N := 12) hx hb hts iX3 hown hK hP 0 rfl rfl 5 (by decide) (hts _ q345) (fun _ h9 => h9) rfl dX3_push_2 ?_
  refine va_alen (v := (nI (tN T))) hx hb hK hP 1 0 rfl rfl rfl dX3_push_5 ?_
  obtain ⟨x1, hx1, hf⟩ := obd_e hf
  refine sbT_Vi (As := [.int (nI (tN T))]) (rest := []) ⟨hx, hb, hml, hown, hts⟩ (fun sz => c_X3_draw l dC dI cI cF cJ cD b L xs tA tB ot oh ou od ow oa ob ok os T (nI (tN T))  x1 hx1 sz) (cwV 1 hts (g_V q349 q350 q351 q352 q339) rfl rfl rfl pc_X3_draw ⟨Nat.le_of_ble_eq_true rfl, Nat.le_of_ble_eq_true rfl⟩) 0 3 rfl rfl hK hP hD hS hA [0, 1, 2, 3, 4, 5, 6] [7, 8, 9, 10, 11, 12, 13, 14, 15, 16, 17, 18] rfl rfl (by decide) (by decide) (by decide) EX_blind (fun U hU hW => EX_pass hE hS (va_free hD.left hS hA [0, 1, 2, 3, 4, 5, 6] rfl) hU hW) rfl rfl hl.1 (Nat.le_of_ble_eq_true rfl) dX3_push_6 ⟨hkc, hks⟩ (fun r9 u H locs hr9 hP hD hS => ?_)
  have hr9 := Eq.symm hr9
  subst hr9
  have hP : va_P (dC, dI) vwCl ((wTD cI cF cJ ot oh b ou od ow oa ob ok os x1.2 ++ (wHB cI cF cJ oh fa tr rw Hb ++ (wFR cI cF cJ q0 q1 q2 q3 q4 q5 q6 q7 q8 F ++ ([kOut cJ ok rs])))) ++ (kRows cI lr rs)) H := va_P.part hP [12, 13, 14, 15, 16, 17, 18, 0, 1, 2, 3, 4, 5, 6, 7, 8, 9, 10, 11] rfl
  have hD : va_D A ((wTD cI cF cJ ot oh b ou od ow oa ob ok os x1.2 ++ (wHB cI cF cJ oh fa tr rw Hb ++ (wFR cI cF cJ q0 q1 q2 q3 q4 q5 q6 q7 q8 F ++ ([kOut cJ ok rs])))) ++ (kRows cI lr rs)) := va_D.part hD [12, 13, 14, 15, 16, 17, 18, 0, 1, 2, 3, 4, 5, 6, 7, 8, 9, 10, 11] (by decide) rfl
  refine lv_istore_n (lv' := [(1, .int x1.1), (0, .ref ot)]) hx hb dX3_push_9 rfl hl (by decide) rfl (fun ls hl => ?_)
  refine lv_aload_n hx hb dX3_push_10 rfl (lv_at hl 1 rfl) ?_
  obtain ⟨x2, hx2, hf⟩ := obd_e hf
  refine sbT_Vi (As := []) (rest := []) ⟨hx, hb, hml, hown, hts⟩ (fun sz => c_X3_ups l dC dI cI cF cJ cD ot oh b ou od ow oa ob ok os x1.2  x2 hx2 sz) (cwV 0 hts (g_V q360 q361 q362 q352 q357) rfl rfl rfl pc_X3_ups ⟨Nat.le_of_ble_eq_true rfl, Nat.le_of_ble_eq_true rfl⟩) 0 3 rfl rfl hK hP hD hS hA [0, 1, 2, 3, 4, 5, 6] [7, 8, 9, 10, 11, 12, 13, 14, 15, 16, 17, 18] rfl rfl (by decide) (by decide) (by decide) (fun _ _ _ _ h => h) (fun _ _ _ => trivial) rfl rfl hl.1 (Nat.le_of_ble_eq_true rfl) dX3_push_11 ⟨hkc, hks⟩ (fun r9 u H locs hr9 hP hD hS => ?_)
  have hr9 := Eq.symm hr9
  subst hr9
  have hP : va_P (dC, dI) vwCl ((wTD cI cF cJ ot oh b ou od ow oa ob ok os x1.2 ++ (wHB cI cF cJ oh fa tr rw Hb ++ (wFR cI cF cJ q0 q1 q2 q3 q4 q5 q6 q7 q8 F ++ ([kOut cJ ok rs])))) ++ (kRows cI lr rs)) H := va_P.part hP [12, 13, 14, 15, 16, 17, 18, 0, 1, 2, 3, 4, 5, 6, 7, 8, 9, 10, 11] rfl
  have hD : va_D A ((wTD cI cF cJ ot oh b ou od ow oa ob ok os x1.2 ++ (wHB cI cF cJ oh fa tr rw Hb ++ (wFR cI cF cJ q0 q1 q2 q3 q4 q5 q6 q7 q8 F ++ ([kOut cJ ok rs])))) ++ (kRows cI lr rs)) := va_D.part hD [12, 13, 14, 15, 16, 17, 18, 0, 1, 2, 3, 4, 5, 6, 7, 8, 9, 10, 11] (by decide) rfl
  refine lv_if_le (tgt := 29) hx hb dX3_push_14 (by decide) (fun c3 => ?_) (fun c3 => ?_)
  · have hf := ite_t hf c3
    refine lv_iconst (v := 0) hx hb dX3_push_29 (by decide) ?_
    refine lv_istore_n (lv' := [(2, .int 0), (1, .int x1.1), (0, .ref ot)]) hx hb dX3_push_30 rfl hl (by decide) rfl (fun ls hl => ?_)
    refine lv_iload_n hx hb dX3_push_31 rfl (lv_at hl 0 rfl) ?_
    refine lv_if_eq (tgt := 44) hx hb dX3_push_32 (by decide) (fun _ => ?_) (fun c9 => absurd (by decide) c9)
    refine lv_aload_n hx hb dX3_push_44 rfl (lv_at hl 2 rfl) ?_
    refine va_get (D := (dC, dI)) (ci := 3) (v := .ref od) (C := RX3) (T := TX3) (N := 12) hx hb hts iX3 hown hK hP 0 rfl rfl 6 (by decide) (hts _ q346) (fun _ h9 => h9) rfl dX3_push_45 ?_
    refine lv_iload_n hx hb dX3_push_48 rfl (lv_at hl 1 rfl) ?_
    obtain ⟨g4, hf⟩ := gd_e hf
    refine va_iald hx hb hK hP 2 0 rfl rfl (gin_in g4) dX3_push_49 ?_
    refine lv_topi (fun v5 ev5 => ?_)
    have hf := bnd_all hf v5 ev5
    refine lv_istore_n (lv' := [(3, .int v5), (2, .int 0), (1, .int x1.1), (0, .ref ot)]) hx hb dX3_push_50 rfl hl (by decide) rfl (fun ls hl => ?_)
    refine lv_aload_n hx hb dX3_push_51 rfl (lv_at hl 3 rfl) ?_
    refine lv_iload_n hx hb dX3_push_52 rfl (lv_at hl 1 rfl) ?_
    refine lv_if_eq (tgt := 63) hx hb dX3_push_53 (by decide) (fun _ => ?_) (fun c9 => absurd (by decide) c9)
    refine lv_aload_n hx hb dX3_push_63 rfl (lv_at hl 3 rfl) ?_
    obtain ⟨x6, hx6, hf⟩ := obd_e hf
    refine sbT_Vi (As := []) (rest := [.ref ot]) ⟨hx, hb, hml, hown, hts⟩ (fun sz => c_X3_downs l dC dI cI cF cJ cD ot oh b ou od ow oa ob ok os x1.2  x6 hx6 sz) (cwV 0 hts (g_V q363 q364 q365 q352 q358) rfl rfl rfl pc_X3_downs ⟨Nat.le_of_ble_eq_true rfl, Nat.le_of_ble_eq_true rfl⟩) 0 3 rfl rfl hK hP hD hS hA [0, 1, 2, 3, 4, 5, 6] [7, 8, 9, 10, 11, 12, 13, 14, 15, 16, 17, 18] rfl rfl (by decide) (by decide) (by decide) (fun _ _ _ _ h => h) (fun _ _ _ => trivial) rfl rfl hl.1 (Nat.le_of_ble_eq_true rfl) dX3_push_64 ⟨hkc, hks⟩ (fun r9 u H locs hr9 hP hD hS => ?_)
    have hr9 := Eq.symm hr9
    subst hr9
    have hP : va_P (dC, dI) vwCl ((wTD cI cF cJ ot oh b ou od ow oa ob ok os x1.2 ++ (wHB cI cF cJ oh fa tr rw Hb ++ (wFR cI cF cJ q0 q1 q2 q3 q4 q5 q6 q7 q8 F ++ ([kOut cJ ok rs])))) ++ (kRows cI lr rs)) H := va_P.part hP [12, 13, 14, 15, 16, 17, 18, 0, 1, 2, 3, 4, 5, 6, 7, 8, 9, 10, 11] rfl
    have hD : va_D A ((wTD cI cF cJ ot oh b ou od ow oa ob ok os x1.2 ++ (wHB cI cF cJ oh fa tr rw Hb ++ (wFR cI cF cJ q0 q1 q2 q3 q4 q5 q6 q7 q8 F ++ ([kOut cJ ok rs])))) ++ (kRows cI lr rs)) := va_D.part hD [12, 13, 14, 15, 16, 17, 18, 0, 1, 2, 3, 4, 5, 6, 7, 8, 9, 10, 11] (by decide) rfl
    refine lv_iconst (v := 1) hx hb dX3_push_67 (by decide) ?_
    refine lv_iadd hx hb dX3_push_68 ?_
    refine lv_topi (fun v7 ev7 => ?_)
    have hf := bnd_all hf v7 ev7
    obtain ⟨x8, hx8, hf⟩ := obd_e hf
    refine sbT_Vi (As := [.int v7]) (rest := []) ⟨hx, hb, hml, hown, hts⟩ (fun sz => c_X3_draw l dC dI cI cF cJ cD b L xs tA tB ot oh ou od ow oa ob ok os x1.2 v7  x8 hx8 sz) (cwV 1 hts (g_V q349 q350 q351 q352 q339) rfl rfl rfl pc_X3_draw ⟨Nat.le_of_ble_eq_true rfl, Nat.le_of_ble_eq_true rfl⟩) 0 3 rfl rfl hK hP hD hS hA [0, 1, 2, 3, 4, 5, 6] [7, 8, 9, 10, 11, 12, 13, 14, 15, 16, 17, 18] rfl rfl (by decide) (by decide) (by decide) EX_blind (fun U hU hW => EX_pass hE hS (va_free hD.left hS hA [0, 1, 2, 3, 4, 5, 6] rfl) hU hW) rfl rfl hl.1 (Nat.le_of_ble_eq_true rfl) dX3_push_69 ⟨hkc, hks⟩ (fun r9 u H locs hr9 hP hD hS => ?_)
    have hr9 := Eq.symm hr9
    subst hr9
    have hP : va_P (dC, dI) vwCl ((wTD cI cF cJ ot oh b ou od ow oa ob ok os x8.2 ++ (wHB cI cF cJ oh fa tr rw Hb ++ (wFR cI cF cJ q0 q1 q2 q3 q4 q5 q6 q7 q8 F ++ ([kOut cJ ok rs])))) ++ (kRows cI lr rs)) H := va_P.part hP [12, 13, 14, 15, 16, 17, 18, 0, 1, 2, 3, 4, 5, 6, 7, 8, 9, 10, 11] rfl
    have hD : va_D A ((wTD cI cF cJ ot oh b ou od ow oa ob ok os x8.2 ++ (wHB cI cF cJ oh fa tr rw Hb ++ (wFR cI cF cJ q0 q1 q2 q3 q4 q5 q6 q7 q8 F ++ ([kOut cJ ok rs])))) ++ (kRows cI lr rs)) := va_D.part hD [12, 13, 14, 15, 16, 17, 18, 0, 1, 2, 3, 4, 5, 6, 7, 8, 9, 10, 11] (by decide) rfl
    refine lv_istore (lv' := [(4, .int x8.1), (3, .int v5), (2, .int 0), (1, .int x1.1), (0, .ref ot)]) hx hb dX3_push_72 hl (by decide) rfl (fun ls hl => ?_)
    refine lv_iload hx hb dX3_push_74 (lv_at hl 0 rfl) ?_
    refine lv_iload_n hx hb dX3_push_76 rfl (lv_at hl 1 rfl) ?_
    refine lv_icmp_ne (tgt := 82) hx hb dX3_push_77 (by decide) (fun c9 => ?_) (fun c9 => ?_)
    · have hf := ite_f hf c9
      refine lv_aload_n hx hb dX3_push_82 rfl (lv_at hl 4 rfl) ?_
      obtain ⟨x10, hx10, hf⟩ := obd_e hf
      refine sbP_Vv (As := []) (rest := []) ⟨hx, hb, hml, hown, hts⟩ (fun sz => c_X3_keep l dC dI cI cF cJ cD b L xs tA tB lr ot oh ou od ow oa ob ok os rs x8.2 K hrs x10 hx10 sz) (cwV 0 hts (g_V q409 q410 q411 q352 q373) rfl rfl rfl pc_X3_keep ⟨Nat.le_of_ble_eq_true rfl, Nat.le_of_ble_eq_true rfl⟩) 0 3 rfl rfl hK hP hD hS hA [0, 1, 2, 3, 4, 5, 6, 18] [7, 8, 9, 10, 11, 12, 13, 14, 15, 16, 17] rfl rfl (by decide) (by decide) (by decide) EX_blind (fun U hU hW => EX_pass hE hS (va_freeP hD hS hA [0, 1, 2, 3, 4, 5, 6, 18] rfl) hU hW) rfl rfl hl.1 (Nat.le_of_ble_eq_true rfl) dX3_push_83 ⟨Nat.le_of_ble_eq_true rfl, Nat.le_of_ble_eq_true rfl⟩ (fun u H locs hr9 hP hD hS => ?_)
      refine W.widen (k := 2) (n := 29) (Nat.le_refl _) (Nat.le_refl _) ?_
      have hrs12 := hr9
      obtain ⟨n11, rs12⟩ := u
      have hP : va_P (dC, dI) vwCl ((wTD cI cF cJ ot oh b ou od ow oa ob n11 os x8.2 ++ (wHB cI cF cJ oh fa tr rw Hb ++ (wFR cI cF cJ q0 q1 q2 q3 q4 q5 q6 q7 q8 F ++ ([kOut cJ n11 rs12])))) ++ (kRows cI lr rs12)) H := va_P.part hP [11, 12, 13, 14, 15, 16, 17, 0, 1, 2, 3, 4, 5, 6, 7, 8, 9, 10, 18] rfl
      have hD : va_D A ((wTD cI cF cJ ot oh b ou od ow oa ob n11 os x8.2 ++ (wHB cI cF cJ oh fa tr rw Hb ++ (wFR cI cF cJ q0 q1 q2 q3 q4 q5 q6 q7 q8 F ++ ([kOut cJ n11 rs12])))) ++ (kRows cI lr rs12)) := va_D.part hD [11, 12, 13, 14, 15, 16, 17, 0, 1, 2, 3, 4, 5, 6, 7, 8, 9, 10, 18] (by decide) rfl
      refine lv_aload_n hx hb dX3_push_86 rfl (lv_at hl 4 rfl) ?_
      refine lv_iload_n hx hb dX3_push_87 rfl (lv_at hl 3 rfl) ?_
      refine lv_iload_n hx hb dX3_push_88 rfl (lv_at hl 2 rfl) ?_
      refine lv_if_eq (tgt := 96) hx hb dX3_push_89 (by decide) (fun _ => ?_) (fun c9 => absurd (by decide) c9)
      refine lv_iconst (v := 1) hx hb dX3_push_96 (by decide) ?_
      refine lv_iload hx hb dX3_push_97 (lv_at hl 0 rfl) ?_
      refine lv_iload_n hx hb dX3_push_99 rfl (lv_at hl 1 rfl) ?_
      refine lv_isub hx hb dX3_push_100 ?_
      refine lv_topi (fun v13 ev13 => ?_)
      have hf := bnd_all hf v13 ev13
      obtain ⟨x14, hx14, hf⟩ := obd_e hf
      refine sbT_Vv (As := [.int x1.1, .int 1, .int v13]) (rest := []) ⟨hx, hb, hml, hown, hts⟩ (fun sz => c_X3_moveB l dC dI cI cF cJ cD ot oh b ou od ow oa ob n11 os x8.2 x1.1 v13  x14 hx14 sz) (cwV 3 hts (g_V q390 q391 q392 q352 q378) rfl rfl rfl pc_X3_move ⟨Nat.le_of_ble_eq_true rfl, Nat.le_of_ble_eq_true rfl⟩) 0 3 rfl rfl hK hP hD hS hA [0, 1, 2, 3, 4, 5, 6] [7, 8, 9, 10, 11, 12, 13, 14, 15, 16, 17, 18] rfl rfl (by decide) (by decide) (by decide) (fun _ _ _ _ h => h) (fun _ _ _ => trivial) rfl rfl hl.1 (Nat.le_of_ble_eq_true rfl) dX3_push_101 ⟨Nat.le_of_ble_eq_true rfl, Nat.le_of_ble_eq_true rfl⟩ (fun u H locs hr9 hP hD hS => ?_)
      have hP : va_P (dC, dI) vwCl ((wTD cI cF cJ ot oh b ou od ow oa ob n11 os x14 ++ (wHB cI cF cJ oh fa tr rw Hb ++ (wFR cI cF cJ q0 q1 q2 q3 q4 q5 q6 q7 q8 F ++ ([kOut cJ n11 rs12])))) ++ (kRows cI lr rs12)) H := va_P.part hP [12, 13, 14, 15, 16, 17, 18, 0, 1, 2, 3, 4, 5, 6, 7, 8, 9, 10, 11] rfl
      have hD : va_D A ((wTD cI cF cJ ot oh b ou od ow oa ob n11 os x14 ++ (wHB cI cF cJ oh fa tr rw Hb ++ (wFR cI cF cJ q0 q1 q2 q3 q4 q5 q6 q7 q8 F ++ ([kOut cJ n11 rs12])))) ++ (kRows cI lr rs12)) := va_D.part hD [12, 13, 14, 15, 16, 17, 18, 0, 1, 2, 3, 4, 5, 6, 7, 8, 9, 10, 11] (by decide) rfl
      refine lv_aload_n hx hb dX3_push_104 rfl (lv_at hl 4 rfl) ?_
      refine va_get (D := (dC, dI)) (ci := 3) (v := .ref oh) (C := RX3) (T := TX3) (N := 12) hx hb hts iX3 hown hK hP 0 rfl rfl 0 (by decide) (hts _ q332) (fun _ h9 => h9) rfl dX3_push_105 ?_
      refine lv_aload_n hx hb dX3_push_108 rfl (lv_at hl 4 rfl) ?_
      refine va_get (D := (dC, dI)) (ci := 3) (v := .int (tNu x14)) (C := RX3) (T := TX3) (N := 12) hx hb hts iX3 hown hK hP 0 rfl rfl 3 (by decide) (hts _ q343) (fun _ h9 => h9) rfl dX3_push_109 ?_
      obtain ⟨g15, hf⟩ := gd_e hf
      refine sb_topv (v' := .int (tNu T)) (congrArg Value.int (gdec_e g15)) ?_
      refine lv_iload_n hx hb dX3_push_112 rfl (lv_at hl 3 rfl) ?_
      refine lv_iload_n hx hb dX3_push_113 rfl (lv_at hl 2 rfl) ?_
      refine lv_iload hx hb dX3_push_114 (lv_at hl 0 rfl) ?_
      refine lv_iload_n hx hb dX3_push_116 rfl (lv_at hl 1 rfl) ?_
      refine lv_isub hx hb dX3_push_117 ?_
      refine lv_topi (fun v16 ev16 => ?_)
      have hf := bnd_all hf v16 ev16
      obtain ⟨x17, hx17, hf⟩ := obd_e hf
      refine sbT_Vi (As := [.int (tNu T), .int x1.1, .int 0, .int v16]) (rest := []) ⟨hx, hb, hml, hown, hts⟩ (fun sz => c_X2_push l dC dI cI cF cJ cD oh fa tr q0 q1 q2 q3 q4 q5 q6 q7 q8 rw Hb F (tNu T) x1.1 0 v16 hq x17 hx17 sz) (cwV 4 hts (g_V q457 q458 q459 q172 q194) rfl rfl rfl pc_X2_push ⟨Nat.le_of_ble_eq_true rfl, Nat.le_of_ble_eq_true rfl⟩) 0 2 rfl rfl hK hP hD hS hA [7, 8, 9, 10, 11, 12, 13, 14, 15, 16, 17] [0, 1, 2, 3, 4, 5, 6, 18] rfl rfl (by decide) (by decide) (by decide) (fun _ _ _ _ h => h) (fun _ _ _ => trivial) rfl rfl hl.1 (Nat.le_of_ble_eq_true rfl) dX3_push_118 ⟨Nat.le_of_ble_eq_true rfl, Nat.le_of_ble_eq_true rfl⟩ (fun r9 u H locs hr9 hP hD hS => ?_)
      have hr9 := Eq.symm hr9
      subst hr9
      have hP : va_P (dC, dI) vwCl ((wTD cI cF cJ ot oh b ou od ow oa ob n11 os x14 ++ (wHB cI cF cJ oh fa tr rw Hb ++ (wFR cI cF cJ q0 q1 q2 q3 q4 q5 q6 q7 q8 x17.2 ++ ([kOut cJ n11 rs12])))) ++ (kRows cI lr rs12)) H := va_P.part hP [0, 1, 2, 3, 4, 5, 6, 8, 9, 10, 11, 12, 13, 14, 15, 16, 17, 18, 7] rfl
      have hD : va_D A ((wTD cI cF cJ ot oh b ou od ow oa ob n11 os x14 ++ (wHB cI cF cJ oh fa tr rw Hb ++ (wFR cI cF cJ q0 q1 q2 q3 q4 q5 q6 q7 q8 x17.2 ++ ([kOut cJ n11 rs12])))) ++ (kRows cI lr rs12)) := va_D.part hD [0, 1, 2, 3, 4, 5, 6, 8, 9, 10, 11, 12, 13, 14, 15, 16, 17, 18, 7] (by decide) rfl
      refine lv_aload_n hx hb dX3_push_121 rfl (lv_at hl 4 rfl) ?_
      refine lv_iload_n hx hb dX3_push_122 rfl (lv_at hl 3 rfl) ?_
      obtain ⟨x18, hx18, hf⟩ := obd_e hf
      refine sbT_Vi (As := [.int x1.1]) (rest := [.int x17.1]) ⟨hx, hb, hml, hown, hts⟩ (fun sz => c_X3_value l dC dI cI cF cJ cD ot oh b ou od ow oa ob n11 os x14 x1.1  x18 hx18 sz) (cwV 1 hts (g_V q369 q370 q371 q352 q366) rfl rfl rfl pc_X3_value ⟨Nat.le_of_ble_eq_true rfl, Nat.le_of_ble_eq_true rfl⟩) 0 3 rfl rfl hK hP hD hS hA [0, 1, 2, 3, 4, 5, 6] [7, 8, 9, 10, 11, 12, 13, 14, 15, 16, 17, 18] rfl rfl (by decide) (by decide) (by decide) (fun _ _ _ _ h => h) (fun _ _ _ => trivial) rfl rfl hl.1 (Nat.le_of_ble_eq_true rfl) dX3_push_123 ⟨Nat.le_of_ble_eq_true rfl, Nat.le_of_ble_eq_true rfl⟩ (fun r9 u H locs hr9 hP hD hS => ?_)
      have hr9 := Eq.symm hr9
      subst hr9
      have hP : va_P (dC, dI) vwCl ((wTD cI cF cJ ot oh b ou od ow oa ob n11 os x14 ++ (wHB cI cF cJ oh fa tr rw Hb ++ (wFR cI cF cJ q0 q1 q2 q3 q4 q5 q6 q7 q8 x17.2 ++ ([kOut cJ n11 rs12])))) ++ (kRows cI lr rs12)) H := va_P.part hP [12, 13, 14, 15, 16, 17, 18, 0, 1, 2, 3, 4, 5, 6, 7, 8, 9, 10, 11] rfl
      have hD : va_D A ((wTD cI cF cJ ot oh b ou od ow oa ob n11 os x14 ++ (wHB cI cF cJ oh fa tr rw Hb ++ (wFR cI cF cJ q0 q1 q2 q3 q4 q5 q6 q7 q8 x17.2 ++ ([kOut cJ n11 rs12])))) ++ (kRows cI lr rs12)) := va_D.part hD [12, 13, 14, 15, 16, 17, 18, 0, 1, 2, 3, 4, 5, 6, 7, 8, 9, 10, 11] (by decide) rfl
      refine lv_icmp_ne (tgt := 133) hx hb dX3_push_126 (by decide) (fun c19 => ?_) (fun c19 => ?_)
      · have hf := ite_f hf c19
        refine lv_iconst (v := 0) hx hb dX3_push_133 (by decide) ?_
        obtain rfl := Option.some.inj hf
        exact W.zret (v := 0) hx hb hr (by rfl) (fun t ht hW => ⟨⟨_, (n11, rs12), rfl, ⟨rfl, hrs12⟩, by rw [ht]; exact hP, hD⟩, hS.F ht⟩) hS.2.2 dX3_push_134
      · have hf := ite_t hf c19
        refine lv_iconst (v := 1) hx hb dX3_push_129 (by decide) ?_
        refine lv_goto (tgt := 134) hx hb dX3_push_130 (by decide) ?_
        obtain rfl := Option.some.inj hf
        exact W.zret (v := 1) hx hb hr (by rfl) (fun t ht hW => ⟨⟨_, (n11, rs12), rfl, ⟨rfl, hrs12⟩, by rw [ht]; exact hP, hD⟩, hS.F ht⟩) hS.2.2 dX3_push_134
    · have hf := ite_t hf c9
      refine lv_iconst (v := 1) hx hb dX3_push_80 (by decide) ?_
      refine W.widen (k := 2) (n := 29) (Nat.le_of_ble_eq_true rfl) (Nat.le_of_ble_eq_true rfl) ?_
      obtain rfl := Option.some.inj hf
      exact W.zret (v := 1) hx hb hr (by rfl) (fun t ht hW => ⟨⟨_, (ok, rs), rfl, ⟨rfl, hrs⟩, by rw [ht]; exact hP, hD⟩, hS.F ht⟩) hS.2.2 dX3_push_81
  · have hf := ite_f hf c3
    refine lv_aload_n hx hb dX3_push_17 rfl (lv_at hl 1 rfl) ?_
    refine lv_iconst (v := 2) hx hb dX3_push_18 (by decide) ?_
    obtain ⟨x20, hx20, hf⟩ := obd_e hf
    refine sbT_Vi (As := [.int 2]) (rest := []) ⟨hx, hb, hml, hown, hts⟩ (fun sz => c_X3_draw l dC dI cI cF cJ cD b L xs tA tB ot oh ou od ow oa ob ok os x1.2 2  x20 hx20 sz) (cwV 1 hts (g_V q349 q350 q351 q352 q339) rfl rfl rfl pc_X3_draw ⟨Nat.le_of_ble_eq_true rfl, Nat.le_of_ble_eq_true rfl⟩) 0 3 rfl rfl hK hP hD hS hA [0, 1, 2, 3, 4, 5, 6] [7, 8, 9, 10, 11, 12, 13, 14, 15, 16, 17, 18] rfl rfl (by decide) (by decide) (by decide) EX_blind (fun U hU hW => EX_pass hE hS (va_free hD.left hS hA [0, 1, 2, 3, 4, 5, 6] rfl) hU hW) rfl rfl hl.1 (Nat.le_of_ble_eq_true rfl) dX3_push_19 ⟨hkc, hks⟩ (fun r9 u H locs hr9 hP hD hS => ?_)
    have hr9 := Eq.symm hr9
    subst hr9
    have hP : va_P (dC, dI) vwCl ((wTD cI cF cJ ot oh b ou od ow oa ob ok os x20.2 ++ (wHB cI cF cJ oh fa tr rw Hb ++ (wFR cI cF cJ q0 q1 q2 q3 q4 q5 q6 q7 q8 F ++ ([kOut cJ ok rs])))) ++ (kRows cI lr rs)) H := va_P.part hP [12, 13, 14, 15, 16, 17, 18, 0, 1, 2, 3, 4, 5, 6, 7, 8, 9, 10, 11] rfl
    have hD : va_D A ((wTD cI cF cJ ot oh b ou od ow oa ob ok os x20.2 ++ (wHB cI cF cJ oh fa tr rw Hb ++ (wFR cI cF cJ q0 q1 q2 q3 q4 q5 q6 q7 q8 F ++ ([kOut cJ ok rs])))) ++ (kRows cI lr rs)) := va_D.part hD [12, 13, 14, 15, 16, 17, 18, 0, 1, 2, 3, 4, 5, 6, 7, 8, 9, 10, 11] (by decide) rfl
    refine lv_if_ne (tgt := 29) hx hb dX3_push_22 (by decide) (fun c21 => ?_) (fun c21 => ?_)
    · have hf := ite_f hf c21
      refine lv_iconst (v := 0) hx hb dX3_push_29 (by decide) ?_
      refine lv_istore_n (lv' := [(2, .int 0), (1, .int x1.1), (0, .ref ot)]) hx hb dX3_push_30 rfl hl (by decide) rfl (fun ls hl => ?_)
      refine lv_iload_n hx hb dX3_push_31 rfl (lv_at hl 0 rfl) ?_
      refine lv_if_eq (tgt := 44) hx hb dX3_push_32 (by decide) (fun _ => ?_) (fun c9 => absurd (by decide) c9)
      refine lv_aload_n hx hb dX3_push_44 rfl (lv_at hl 2 rfl) ?_
      refine va_get (D := (dC, dI)) (ci := 3) (v := .ref od) (C := RX3) (T := TX3) (N := 12) hx hb hts iX3 hown hK hP 0 rfl rfl 6 (by decide) (hts _ q346) (fun _ h9 => h9) rfl dX3_push_45 ?_
      refine lv_iload_n hx hb dX3_push_48 rfl (lv_at hl 1 rfl) ?_
      obtain ⟨g22, hf⟩ := gd_e hf
      refine va_iald hx hb hK hP 2 0 rfl rfl (gin_in g22) dX3_push_49 ?_
      refine lv_topi (fun v23 ev23 => ?_)
      have hf := bnd_all hf v23 ev23
      refine lv_istore_n (lv' := [(3, .int v23), (2, .int 0), (1, .int x1.1), (0, .ref ot)]) hx hb dX3_push_50 rfl hl (by decide) rfl (fun ls hl => ?_)
      refine lv_aload_n hx hb dX3_push_51 rfl (lv_at hl 3 rfl) ?_
      refine lv_iload_n hx hb dX3_push_52 rfl (lv_at hl 1 rfl) ?_
      refine lv_if_eq (tgt := 63) hx hb dX3_push_53 (by decide) (fun _ => ?_) (fun c9 => absurd (by decide) c9)
      refine lv_aload_n hx hb dX3_push_63 rfl (lv_at hl 3 rfl) ?_
      obtain ⟨x24, hx24, hf⟩ := obd_e hf
      refine sbT_Vi (As := []) (rest := [.ref ot]) ⟨hx, hb, hml, hown, hts⟩ (fun sz => c_X3_downs l dC dI cI cF cJ cD ot oh b ou od ow oa ob ok os x20.2  x24 hx24 sz) (cwV 0 hts (g_V q363 q364 q365 q352 q358) rfl rfl rfl pc_X3_downs ⟨Nat.le_of_ble_eq_true rfl, Nat.le_of_ble_eq_true rfl⟩) 0 3 rfl rfl hK hP hD hS hA [0, 1, 2, 3, 4, 5, 6] [7, 8, 9, 10, 11, 12, 13, 14, 15, 16, 17, 18] rfl rfl (by decide) (by decide) (by decide) (fun _ _ _ _ h => h) (fun _ _ _ => trivial) rfl rfl hl.1 (Nat.le_of_ble_eq_true rfl) dX3_push_64 ⟨hkc, hks⟩ (fun r9 u H locs hr9 hP hD hS => ?_)
      have hr9 := Eq.symm hr9
      subst hr9
      have hP : va_P (dC, dI) vwCl ((wTD cI cF cJ ot oh b ou od ow oa ob ok os x20.2 ++ (wHB cI cF cJ oh fa tr rw Hb ++ (wFR cI cF cJ q0 q1 q2 q3 q4 q5 q6 q7 q8 F ++ ([kOut cJ ok rs])))) ++ (kRows cI lr rs)) H := va_P.part hP [12, 13, 14, 15, 16, 17, 18, 0, 1, 2, 3, 4, 5, 6, 7, 8, 9, 10, 11] rfl
      have hD : va_D A ((wTD cI cF cJ ot oh b ou od ow oa ob ok os x20.2 ++ (wHB cI cF cJ oh fa tr rw Hb ++ (wFR cI cF cJ q0 q1 q2 q3 q4 q5 q6 q7 q8 F ++ ([kOut cJ ok rs])))) ++ (kRows cI lr rs)) := va_D.part hD [12, 13, 14, 15, 16, 17, 18, 0, 1, 2, 3, 4, 5, 6, 7, 8, 9, 10, 11] (by decide) rfl
      refine lv_iconst (v := 1) hx hb dX3_push_67 (by decide) ?_
      refine lv_iadd hx hb dX3_push_68 ?_
      refine lv_topi (fun v25 ev25 => ?_)
      have hf := bnd_all hf v25 ev25
      obtain ⟨x26, hx26, hf⟩ := obd_e hf
      refine sbT_Vi (As := [.int v25]) (rest := []) ⟨hx, hb, hml, hown, hts⟩ (fun sz => c_X3_draw l dC dI cI cF cJ cD b L xs tA tB ot oh ou od ow oa ob ok os x20.2 v25  x26 hx26 sz) (cwV 1 hts (g_V q349 q350 q351 q352 q339) rfl rfl rfl pc_X3_draw ⟨Nat.le_of_ble_eq_true rfl, Nat.le_of_ble_eq_true rfl⟩) 0 3 rfl rfl hK hP hD hS hA [0, 1, 2, 3, 4, 5, 6] [7, 8, 9, 10, 11, 12, 13, 14, 15, 16, 17, 18] rfl rfl (by decide) (by decide) (by decide) EX_blind (fun U hU hW => EX_pass hE hS (va_free hD.left hS hA [0, 1, 2, 3, 4, 5, 6] rfl) hU hW) rfl rfl hl.1 (Nat.le_of_ble_eq_true rfl) dX3_push_69 ⟨hkc, hks⟩ (fun r9 u H locs hr9 hP hD hS => ?_)
      have hr9 := Eq.symm hr9
      subst hr9
      have hP : va_P (dC, dI) vwCl ((wTD cI cF cJ ot oh b ou od ow oa ob ok os x26.2 ++ (wHB cI cF cJ oh fa tr rw Hb ++ (wFR cI cF cJ q0 q1 q2 q3 q4 q5 q6 q7 q8 F ++ ([kOut cJ ok rs])))) ++ (kRows cI lr rs)) H := va_P.part hP [12, 13, 14, 15, 16, 17, 18, 0, 1, 2, 3, 4, 5, 6, 7, 8, 9, 10, 11] rfl
      have hD : va_D A ((wTD cI cF cJ ot oh b ou od ow oa ob ok os x26.2 ++ (wHB cI cF cJ oh fa tr rw Hb ++ (wFR cI cF cJ q0 q1 q2 q3 q4 q5 q6 q7 q8 F ++ ([kOut cJ ok rs])))) ++ (kRows cI lr rs)) := va_D.part hD [12, 13, 14, 15, 16, 17, 18, 0, 1, 2, 3, 4, 5, 6, 7, 8, 9, 10, 11] (by decide) rfl
      refine lv_istore (lv' := [(4, .int x26.1), (3, .int v23), (2, .int 0), (1, .int x1.1), (0, .ref ot)]) hx hb dX3_push_72 hl (by decide) rfl (fun ls hl => ?_)
      refine lv_iload hx hb dX3_push_74 (lv_at hl 0 rfl) ?_
      refine lv_iload_n hx hb dX3_push_76 rfl (lv_at hl 1 rfl) ?_
      refine lv_icmp_ne (tgt := 82) hx hb dX3_push_77 (by decide) (fun c27 => ?_) (fun c27 => ?_)
      · have hf := ite_f hf c27
        refine lv_aload_n hx hb dX3_push_82 rfl (lv_at hl 4 rfl) ?_
        obtain ⟨x28, hx28, hf⟩ := obd_e hf
        refine sbP_Vv (As := []) (rest := []) ⟨hx, hb, hml, hown, hts⟩ (fun sz => c_X3_keep l dC dI cI cF cJ cD b L xs tA tB lr ot oh ou od ow oa ob ok os rs x26.2 K hrs x28 hx28 sz) (cwV 0 hts (g_V q409 q410 q411 q352 q373) rfl rfl rfl pc_X3_keep ⟨Nat.le_of_ble_eq_true rfl, Nat.le_of_ble_eq_true rfl⟩) 0 3 rfl rfl hK hP hD hS hA [0, 1, 2, 3, 4, 5, 6, 18] [7, 8, 9, 10, 11, 12, 13, 14, 15, 16, 17] rfl rfl (by decide) (by decide) (by decide) EX_blind (fun U hU hW => EX_pass hE hS (va_freeP hD hS hA [0, 1, 2, 3, 4, 5, 6, 18] rfl) hU hW) rfl rfl hl.1 (Nat.le_of_ble_eq_true rfl) dX3_push_83 ⟨Nat.le_of_ble_eq_true rfl, Nat.le_of_ble_eq_true rfl⟩ (fun u H locs hr9 hP hD hS => ?_)
        refine W.widen (k := 2) (n := 29) (Nat.le_refl _) (Nat.le_refl _) ?_
        have hrs30 := hr9
        obtain ⟨n29, rs30⟩ := u
        have hP : va_P (dC, dI) vwCl ((wTD cI cF cJ ot oh b ou od ow oa ob n29 os x26.2 ++ (wHB cI cF cJ oh fa tr rw Hb ++ (wFR cI cF cJ q0 q1 q2 q3 q4 q5 q6 q7 q8 F ++ ([kOut cJ n29 rs30])))) ++ (kRows cI lr rs30)) H := va_P.part hP [11, 12, 13, 14, 15, 16, 17, 0, 1, 2, 3, 4, 5, 6, 7, 8, 9, 10, 18] rfl
        have hD : va_D A ((wTD cI cF cJ ot oh b ou od ow oa ob n29 os x26.2 ++ (wHB cI cF cJ oh fa tr rw Hb ++ (wFR cI cF cJ q0 q1 q2 q3 q4 q5 q6 q7 q8 F ++ ([kOut cJ n29 rs30])))) ++ (kRows cI lr rs30)) := va_D.part hD [11, 12, 13, 14, 15, 16, 17, 0, 1, 2, 3, 4, 5, 6, 7, 8, 9, 10, 18] (by decide) rfl
        refine lv_aload_n hx hb dX3_push_86 rfl (lv_at hl 4 rfl) ?_
        refine lv_iload_n hx hb dX3_push_87 rfl (lv_at hl 3 rfl) ?_
        refine lv_iload_n hx hb dX3_push_88 rfl (lv_at hl 2 rfl) ?_
        refine lv_if_eq (tgt := 96) hx hb dX3_push_89 (by decide) (fun _ => ?_) (fun c9 => absurd (by decide) c9)
        refine lv_iconst (v := 1) hx hb dX3_push_96 (by decide) ?_
        refine lv_iload hx hb dX3_push_97 (lv_at hl 0 rfl) ?_
        refine lv_iload_n hx hb dX3_push_99 rfl (lv_at hl 1 rfl) ?_
        refine lv_isub hx hb dX3_push_100 ?_
        refine lv_topi (fun v31 ev31 => ?_)
        have hf := bnd_all hf v31 ev31
        obtain ⟨x32, hx32, hf⟩ := obd_e hf
        refine sbT_Vv (As := [.int x1.1, .int 1, .int v31]) (rest := []) ⟨hx, hb, hml, hown, hts⟩ (fun sz => c_X3_moveB l dC dI cI cF cJ cD ot oh b ou od ow oa ob n29 os x26.2 x1.1 v31  x32 hx32 sz) (cwV 3 hts (g_V q390 q391 q392 q352 q378) rfl rfl rfl pc_X3_move ⟨Nat.le_of_ble_eq_true rfl, Nat.le_of_ble_eq_true rfl⟩) 0 3 rfl rfl hK hP hD hS hA [0, 1, 2, 3, 4, 5, 6] [7, 8, 9, 10, 11, 12, 13, 14, 15, 16, 17, 18] rfl rfl (by decide) (by decide) (by decide) (fun _ _ _ _ h => h) (fun _ _ _ => trivial) rfl rfl hl.1 (Nat.le_of_ble_eq_true rfl) dX3_push_101 ⟨Nat.le_of_ble_eq_true rfl, Nat.le_of_ble_eq_true rfl⟩ (fun u H locs hr9 hP hD hS => ?_)
        have hP : va_P (dC, dI) vwCl ((wTD cI cF cJ ot oh b ou od ow oa ob n29 os x32 ++ (wHB cI cF cJ oh fa tr rw Hb ++ (wFR cI cF cJ q0 q1 q2 q3 q4 q5 q6 q7 q8 F ++ ([kOut cJ n29 rs30])))) ++ (kRows cI lr rs30)) H := va_P.part hP [12, 13, 14, 15, 16, 17, 18, 0, 1, 2, 3, 4, 5, 6, 7, 8, 9, 10, 11] rfl
        have hD : va_D A ((wTD cI cF cJ ot oh b ou od ow oa ob n29 os x32 ++ (wHB cI cF cJ oh fa tr rw Hb ++ (wFR cI cF cJ q0 q1 q2 q3 q4 q5 q6 q7 q8 F ++ ([kOut cJ n29 rs30])))) ++ (kRows cI lr rs30)) := va_D.part hD [12, 13, 14, 15, 16, 17, 18, 0, 1, 2, 3, 4, 5, 6, 7, 8, 9, 10, 11] (by decide) rfl
        refine lv_aload_n hx hb dX3_push_104 rfl (lv_at hl 4 rfl) ?_
        refine va_get (D := (dC, dI)) (ci := 3) (v := .ref oh) (C := RX3) (T := TX3) (N := 12) hx hb hts iX3 hown hK hP 0 rfl rfl 0 (by decide) (hts _ q332) (fun _ h9 => h9) rfl dX3_push_105 ?_
        refine lv_aload_n hx hb dX3_push_108 rfl (lv_at hl 4 rfl) ?_
        refine va_get (D := (dC, dI)) (ci := 3) (v := .int (tNu x32)) (C := RX3) (T := TX3) (N := 12) hx hb hts iX3 hown hK hP 0 rfl rfl 3 (by decide) (hts _ q343) (fun _ h9 => h9) rfl dX3_push_109 ?_
        obtain ⟨g33, hf⟩ := gd_e hf
        refine sb_topv (v' := .int (tNu T)) (congrArg Value.int (gdec_e g33)) ?_
        refine lv_iload_n hx hb dX3_push_112 rfl (lv_at hl 3 rfl) ?_
        refine lv_iload_n hx hb dX3_push_113 rfl (lv_at hl 2 rfl) ?_
        refine lv_iload hx hb dX3_push_114 (lv_at hl 0 rfl) ?_
        refine lv_iload_n hx hb dX3_push_116 rfl (lv_at hl 1 rfl) ?_
        refine lv_isub hx hb dX3_push_117 ?_
        refine lv_topi (fun v34 ev34 => ?_)
        have hf := bnd_all hf v34 ev34
        obtain ⟨x35, hx35, hf⟩ := obd_e hf
        refine sbT_Vi (As := [.int (tNu T), .int x1.1, .int 0, .int v34]) (rest := []) ⟨hx, hb, hml, hown, hts⟩ (fun sz => c_X2_push l dC dI cI cF cJ cD oh fa tr q0 q1 q2 q3 q4 q5 q6 q7 q8 rw Hb F (tNu T) x1.1 0 v34 hq x35 hx35 sz) (cwV 4 hts (g_V q457 q458 q459 q172 q194) rfl rfl rfl pc_X2_push ⟨Nat.le_of_ble_eq_true rfl, Nat.le_of_ble_eq_true rfl⟩) 0 2 rfl rfl hK hP hD hS hA [7, 8, 9, 10, 11, 12, 13, 14, 15, 16, 17] [0, 1, 2, 3, 4, 5, 6, 18] rfl rfl (by decide) (by decide) (by decide) (fun _ _ _ _ h => h) (fun _ _ _ => trivial) rfl rfl hl.1 (Nat.le_of_ble_eq_true rfl) dX3_push_118 ⟨Nat.le_of_ble_eq_true rfl, Nat.le_of_ble_eq_true rfl⟩ (fun r9 u H locs hr9 hP hD hS => ?_)
        have hr9 := Eq.symm hr9
        subst hr9
        have hP : va_P (dC, dI) vwCl ((wTD cI cF cJ ot oh b ou od ow oa ob n29 os x32 ++ (wHB cI cF cJ oh fa tr rw Hb ++ (wFR cI cF cJ q0 q1 q2 q3 q4 q5 q6 q7 q8 x35.2 ++ ([kOut cJ n29 rs30])))) ++ (kRows cI lr rs30)) H := va_P.part hP [0, 1, 2, 3, 4, 5, 6, 8, 9, 10, 11, 12, 13, 14, 15, 16, 17, 18, 7] rfl
        have hD : va_D A ((wTD cI cF cJ ot oh b ou od ow oa ob n29 os x32 ++ (wHB cI cF cJ oh fa tr rw Hb ++ (wFR cI cF cJ q0 q1 q2 q3 q4 q5 q6 q7 q8 x35.2 ++ ([kOut cJ n29 rs30])))) ++ (kRows cI lr rs30)) := va_D.part hD [0, 1, 2, 3, 4, 5, 6, 8, 9, 10, 11, 12, 13, 14, 15, 16, 17, 18, 7] (by decide) rfl
        refine lv_aload_n hx hb dX3_push_121 rfl (lv_at hl 4 rfl) ?_
        refine lv_iload_n hx hb dX3_push_122 rfl (lv_at hl 3 rfl) ?_
        obtain ⟨x36, hx36, hf⟩ := obd_e hf
        refine sbT_Vi (As := [.int x1.1]) (rest := [.int x35.1]) ⟨hx, hb, hml, hown, hts⟩ (fun sz => c_X3_value l dC dI cI cF cJ cD ot oh b ou od ow oa ob n29 os x32 x1.1  x36 hx36 sz) (cwV 1 hts (g_V q369 q370 q371 q352 q366) rfl rfl rfl pc_X3_value ⟨Nat.le_of_ble_eq_true rfl, Nat.le_of_ble_eq_true rfl⟩) 0 3 rfl rfl hK hP hD hS hA [0, 1, 2, 3, 4, 5, 6] [7, 8, 9, 10, 11, 12, 13, 14, 15, 16, 17, 18] rfl rfl (by decide) (by decide) (by decide) (fun _ _ _ _ h => h) (fun _ _ _ => trivial) rfl rfl hl.1 (Nat.le_of_ble_eq_true rfl) dX3_push_123 ⟨Nat.le_of_ble_eq_true rfl, Nat.le_of_ble_eq_true rfl⟩ (fun r9 u H locs hr9 hP hD hS => ?_)
        have hr9 := Eq.symm hr9
        subst hr9
        have hP : va_P (dC, dI) vwCl ((wTD cI cF cJ ot oh b ou od ow oa ob n29 os x32 ++ (wHB cI cF cJ oh fa tr rw Hb ++ (wFR cI cF cJ q0 q1 q2 q3 q4 q5 q6 q7 q8 x35.2 ++ ([kOut cJ n29 rs30])))) ++ (kRows cI lr rs30)) H := va_P.part hP [12, 13, 14, 15, 16, 17, 18, 0, 1, 2, 3, 4, 5, 6, 7, 8, 9, 10, 11] rfl
        have hD : va_D A ((wTD cI cF cJ ot oh b ou od ow oa ob n29 os x32 ++ (wHB cI cF cJ oh fa tr rw Hb ++ (wFR cI cF cJ q0 q1 q2 q3 q4 q5 q6 q7 q8 x35.2 ++ ([kOut cJ n29 rs30])))) ++ (kRows cI lr rs30)) := va_D.part hD [12, 13, 14, 15, 16, 17, 18, 0, 1, 2, 3, 4, 5, 6, 7, 8, 9, 10, 11] (by decide) rfl
        refine lv_icmp_ne (tgt := 133) hx hb dX3_push_126 (by decide) (fun c37 => ?_) (fun c37 => ?_)
        · have hf := ite_f hf c37
          refine lv_iconst (v := 0) hx hb dX3_push_133 (by decide) ?_
          obtain rfl := Option.some.inj hf
          exact W.zret (v := 0) hx hb hr (by rfl) (fun t ht hW => ⟨⟨_, (n29, rs30), rfl, ⟨rfl, hrs30⟩, by rw [ht]; exact hP, hD⟩, hS.F ht⟩) hS.2.2 dX3_push_134
        · have hf := ite_t hf c37
          refine lv_iconst (v := 1) hx hb dX3_push_129 (by decide) ?_
          refine lv_goto (tgt := 134) hx hb dX3_push_130 (by decide) ?_
          obtain rfl := Option.some.inj hf
          exact W.zret (v := 1) hx hb hr (by rfl) (fun t ht hW => ⟨⟨_, (n29, rs30), rfl, ⟨rfl, hrs30⟩, by rw [ht]; exact hP, hD⟩, hS.F ht⟩) hS.2.2 dX3_push_134
      · have hf := ite_t hf c27
        refine lv_iconst (v := 1) hx hb dX3_push_80 (by decide) ?_
        refine W.widen (k := 2) (n := 29) (Nat.le_of_ble_eq_true rfl) (Nat.le_of_ble_eq_true rfl) ?_
        obtain rfl := Option.some.inj hf
        exact W.zret (v := 1) hx hb hr (by rfl) (fun t ht hW => ⟨⟨_, (ok, rs), rfl, ⟨rfl, hrs⟩, by rw [ht]; exact hP, hD⟩, hS.F ht⟩) hS.2.2 dX3_push_81
    · have hf := ite_t hf c21
      refine lv_iconst (v := 1) hx hb dX3_push_25 (by decide) ?_
      refine lv_goto (tgt := 30) hx hb dX3_push_26 (by decide) ?_
      refine lv_istore_n (lv' := [(2, .int 1), (1, .int x1.1), (0, .ref ot)]) hx hb dX3_push_30 rfl hl (by decide) rfl (fun ls hl => ?_)
      refine lv_iload_n hx hb dX3_push_31 rfl (lv_at hl 0 rfl) ?_
      refine lv_if_eq (tgt := 44) hx hb dX3_push_32 (by decide) (fun c9 => absurd c9 (by decide)) (fun _ => ?_)
      refine lv_aload_n hx hb dX3_push_35 rfl (lv_at hl 2 rfl) ?_
      refine va_get (D := (dC, dI)) (ci := 3) (v := .ref ou) (C := RX3) (T := TX3) (N := 12) hx hb hts iX3 hown hK hP 0 rfl rfl 5 (by decide) (hts _ q345) (fun _ h9 => h9) rfl dX3_push_36 ?_
      refine lv_iload_n hx hb dX3_push_39 rfl (lv_at hl 1 rfl) ?_
      obtain ⟨g38, hf⟩ := gd_e hf
      refine va_iald hx hb hK hP 1 0 rfl rfl (gin_in g38) dX3_push_40 ?_
      refine lv_topi (fun v39 ev39 => ?_)
      have hf := bnd_all hf v39 ev39
      refine lv_goto (tgt := 50) hx hb dX3_push_41 (by decide) ?_
      refine lv_istore_n (lv' := [(3, .int v39), (2, .int 1), (1, .int x1.1), (0, .ref ot)]) hx hb dX3_push_50 rfl hl (by decide) rfl (fun ls hl => ?_)
      refine lv_aload_n hx hb dX3_push_51 rfl (lv_at hl 3 rfl) ?_
      refine lv_iload_n hx hb dX3_push_52 rfl (lv_at hl 1 rfl) ?_
      refine lv_if_eq (tgt := 63) hx hb dX3_push_53 (by decide) (fun c9 => absurd c9 (by decide)) (fun _ => ?_)
      refine lv_aload_n hx hb dX3_push_56 rfl (lv_at hl 3 rfl) ?_
      obtain ⟨x40, hx40, hf⟩ := obd_e hf
      refine sbT_Vi (As := []) (rest := [.ref ot]) ⟨hx, hb, hml, hown, hts⟩ (fun sz => c_X3_ups l dC dI cI cF cJ cD ot oh b ou od ow oa ob ok os x20.2  x40 hx40 sz) (cwV 0 hts (g_V q360 q361 q362 q352 q357) rfl rfl rfl pc_X3_ups ⟨Nat.le_of_ble_eq_true rfl, Nat.le_of_ble_eq_true rfl⟩) 0 3 rfl rfl hK hP hD hS hA [0, 1, 2, 3, 4, 5, 6] [7, 8, 9, 10, 11, 12, 13, 14, 15, 16, 17, 18] rfl rfl (by decide) (by decide) (by decide) (fun _ _ _ _ h => h) (fun _ _ _ => trivial) rfl rfl hl.1 (Nat.le_of_ble_eq_true rfl) dX3_push_57 ⟨hkc, hks⟩ (fun r9 u H locs hr9 hP hD hS => ?_)
      have hr9 := Eq.symm hr9
      subst hr9
      have hP : va_P (dC, dI) vwCl ((wTD cI cF cJ ot oh b ou od ow oa ob ok os x20.2 ++ (wHB cI cF cJ oh fa tr rw Hb ++ (wFR cI cF cJ q0 q1 q2 q3 q4 q5 q6 q7 q8 F ++ ([kOut cJ ok rs])))) ++ (kRows cI lr rs)) H := va_P.part hP [12, 13, 14, 15, 16, 17, 18, 0, 1, 2, 3, 4, 5, 6, 7, 8, 9, 10, 11] rfl
      have hD : va_D A ((wTD cI cF cJ ot oh b ou od ow oa ob ok os x20.2 ++ (wHB cI cF cJ oh fa tr rw Hb ++ (wFR cI cF cJ q0 q1 q2 q3 q4 q5 q6 q7 q8 F ++ ([kOut cJ ok rs])))) ++ (kRows cI lr rs)) := va_D.part hD [12, 13, 14, 15, 16, 17, 18, 0, 1, 2, 3, 4, 5, 6, 7, 8, 9, 10, 11] (by decide) rfl
      refine lv_goto (tgt := 67) hx hb dX3_push_60 (by decide) ?_
      refine lv_iconst (v := 1) hx hb dX3_push_67 (by decide) ?_
      refine lv_iadd hx hb dX3_push_68 ?_
      refine lv_topi (fun v41 ev41 => ?_)
      have hf := bnd_all hf v41 ev41
      obtain ⟨x42, hx42, hf⟩ := obd_e hf
      refine sbT_Vi (As := [.int v41]) (rest := []) ⟨hx, hb, hml, hown, hts⟩ (fun sz => c_X3_draw l dC dI cI cF cJ cD b L xs tA tB ot oh ou od ow oa ob ok os x20.2 v41  x42 hx42 sz) (cwV 1 hts (g_V q349 q350 q351 q352 q339) rfl rfl rfl pc_X3_draw ⟨Nat.le_of_ble_eq_true rfl, Nat.le_of_ble_eq_true rfl⟩) 0 3 rfl rfl hK hP hD hS hA [0, 1, 2, 3, 4, 5, 6] [7, 8, 9, 10, 11, 12, 13, 14, 15, 16, 17, 18] rfl rfl (by decide) (by decide) (by decide) EX_blind (fun U hU hW => EX_pass hE hS (va_free hD.left hS hA [0, 1, 2, 3, 4, 5, 6] rfl) hU hW) rfl rfl hl.1 (Nat.le_of_ble_eq_true rfl) dX3_push_69 ⟨hkc, hks⟩ (fun r9 u H locs hr9 hP hD hS => ?_)
      have hr9 := Eq.symm hr9
      subst hr9
      have hP : va_P (dC, dI) vwCl ((wTD cI cF cJ ot oh b ou od ow oa ob ok os x42.2 ++ (wHB cI cF cJ oh fa tr rw Hb ++ (wFR cI cF cJ q0 q1 q2 q3 q4 q5 q6 q7 q8 F ++ ([kOut cJ ok rs])))) ++ (kRows cI lr rs)) H := va_P.part hP [12, 13, 14, 15, 16, 17, 18, 0, 1, 2, 3, 4, 5, 6, 7, 8, 9, 10, 11] rfl
      have hD : va_D A ((wTD cI cF cJ ot oh b ou od ow oa ob ok os x42.2 ++ (wHB cI cF cJ oh fa tr rw Hb ++ (wFR cI cF cJ q0 q1 q2 q3 q4 q5 q6 q7 q8 F ++ ([kOut cJ ok rs])))) ++ (kRows cI lr rs)) := va_D.part hD [12, 13, 14, 15, 16, 17, 18, 0, 1, 2, 3, 4, 5, 6, 7, 8, 9, 10, 11] (by decide) rfl
      refine lv_istore (lv' := [(4, .int x42.1), (3, .int v39), (2, .int 1), (1, .int x1.1), (0, .ref ot)]) hx hb dX3_push_72 hl (by decide) rfl (fun ls hl => ?_)
      refine lv_iload hx hb dX3_push_74 (lv_at hl 0 rfl) ?_
      refine lv_iload_n hx hb dX3_push_76 rfl (lv_at hl 1 rfl) ?_
      refine lv_icmp_ne (tgt := 82) hx hb dX3_push_77 (by decide) (fun c43 => ?_) (fun c43 => ?_)
      · have hf := ite_f hf c43
        refine lv_aload_n hx hb dX3_push_82 rfl (lv_at hl 4 rfl) ?_
        obtain ⟨x44, hx44, hf⟩ := obd_e hf
        refine sbP_Vv (As := []) (rest := []) ⟨hx, hb, hml, hown, hts⟩ (fun sz => c_X3_keep l dC dI cI cF cJ cD b L xs tA tB lr ot oh ou od ow oa ob ok os rs x42.2 K hrs x44 hx44 sz) (cwV 0 hts (g_V q409 q410 q411 q352 q373) rfl rfl rfl pc_X3_keep ⟨Nat.le_of_ble_eq_true rfl, Nat.le_of_ble_eq_true rfl⟩) 0 3 rfl rfl hK hP hD hS hA [0, 1, 2, 3, 4, 5, 6, 18] [7, 8, 9, 10, 11, 12, 13, 14, 15, 16, 17] rfl rfl (by decide) (by decide) (by decide) EX_blind (fun U hU hW => EX_pass hE hS (va_freeP hD hS hA [0, 1, 2, 3, 4, 5, 6, 18] rfl) hU hW) rfl rfl hl.1 (Nat.le_of_ble_eq_true rfl) dX3_push_83 ⟨Nat.le_of_ble_eq_true rfl, Nat.le_of_ble_eq_true rfl⟩ (fun u H locs hr9 hP hD hS => ?_)
        refine W.widen (k := 2) (n := 29) (Nat.le_refl _) (Nat.le_refl _) ?_
        have hrs46 := hr9
        obtain ⟨n45, rs46⟩ := u
        have hP : va_P (dC, dI) vwCl ((wTD cI cF cJ ot oh b ou od ow oa ob n45 os x42.2 ++ (wHB cI cF cJ oh fa tr rw Hb ++ (wFR cI cF cJ q0 q1 q2 q3 q4 q5 q6 q7 q8 F ++ ([kOut cJ n45 rs46])))) ++ (kRows cI lr rs46)) H := va_P.part hP [11, 12, 13, 14, 15, 16, 17, 0, 1, 2, 3, 4, 5, 6, 7, 8, 9, 10, 18] rfl
        have hD : va_D A ((wTD cI cF cJ ot oh b ou od ow oa ob n45 os x42.2 ++ (wHB cI cF cJ oh fa tr rw Hb ++ (wFR cI cF cJ q0 q1 q2 q3 q4 q5 q6 q7 q8 F ++ ([kOut cJ n45 rs46])))) ++ (kRows cI lr rs46)) := va_D.part hD [11, 12, 13, 14, 15, 16, 17, 0, 1, 2, 3, 4, 5, 6, 7, 8, 9, 10, 18] (by decide) rfl
        refine lv_aload_n hx hb dX3_push_86 rfl (lv_at hl 4 rfl) ?_
        refine lv_iload_n hx hb dX3_push_87 rfl (lv_at hl 3 rfl) ?_
        refine lv_iload_n hx hb dX3_push_88 rfl (lv_at hl 2 rfl) ?_
        refine lv_if_eq (tgt := 96) hx hb dX3_push_89 (by decide) (fun c9 => absurd c9 (by decide)) (fun _ => ?_)
        refine lv_iconst (v := 0) hx hb dX3_push_92 (by decide) ?_
        refine lv_goto (tgt := 97) hx hb dX3_push_93 (by decide) ?_
        refine lv_iload hx hb dX3_push_97 (lv_at hl 0 rfl) ?_
        refine lv_iload_n hx hb dX3_push_99 rfl (lv_at hl 1 rfl) ?_
        refine lv_isub hx hb dX3_push_100 ?_
        refine lv_topi (fun v47 ev47 => ?_)
        have hf := bnd_all hf v47 ev47
        obtain ⟨x48, hx48, hf⟩ := obd_e hf
        refine sbT_Vv (As := [.int x1.1, .int 0, .int v47]) (rest := []) ⟨hx, hb, hml, hown, hts⟩ (fun sz => c_X3_move l dC dI cI cF cJ cD ot oh b ou od ow oa ob n45 os x42.2 x1.1 v47  x48 hx48 sz) (cwV 3 hts (g_V q390 q391 q392 q352 q378) rfl rfl rfl pc_X3_move ⟨Nat.le_of_ble_eq_true rfl, Nat.le_of_ble_eq_true rfl⟩) 0 3 rfl rfl hK hP hD hS hA [0, 1, 2, 3, 4, 5, 6] [7, 8, 9, 10, 11, 12, 13, 14, 15, 16, 17, 18] rfl rfl (by decide) (by decide) (by decide) (fun _ _ _ _ h => h) (fun _ _ _ => trivial) rfl rfl hl.1 (Nat.le_of_ble_eq_true rfl) dX3_push_101 ⟨Nat.le_of_ble_eq_true rfl, Nat.le_of_ble_eq_true rfl⟩ (fun u H locs hr9 hP hD hS => ?_)
        have hP : va_P (dC, dI) vwCl ((wTD cI cF cJ ot oh b ou od ow oa ob n45 os x48 ++ (wHB cI cF cJ oh fa tr rw Hb ++ (wFR cI cF cJ q0 q1 q2 q3 q4 q5 q6 q7 q8 F ++ ([kOut cJ n45 rs46])))) ++ (kRows cI lr rs46)) H := va_P.part hP [12, 13, 14, 15, 16, 17, 18, 0, 1, 2, 3, 4, 5, 6, 7, 8, 9, 10, 11] rfl
        have hD : va_D A ((wTD cI cF cJ ot oh b ou od ow oa ob n45 os x48 ++ (wHB cI cF cJ oh fa tr rw Hb ++ (wFR cI cF cJ q0 q1 q2 q3 q4 q5 q6 q7 q8 F ++ ([kOut cJ n45 rs46])))) ++ (kRows cI lr rs46)) := va_D.part hD [12, 13, 14, 15, 16, 17, 18, 0, 1, 2, 3, 4, 5, 6, 7, 8, 9, 10, 11] (by decide) rfl
        refine lv_aload_n hx hb dX3_push_104 rfl (lv_at hl 4 rfl) ?_
        refine va_get (D := (dC, dI)) (ci := 3) (v := .ref oh) (C := RX3) (T := TX3) (N := 12) hx hb hts iX3 hown hK hP 0 rfl rfl 0 (by decide) (hts _ q332) (fun _ h9 => h9) rfl dX3_push_105 ?_
        refine lv_aload_n hx hb dX3_push_108 rfl (lv_at hl 4 rfl) ?_
        refine va_get (D := (dC, dI)) (ci := 3) (v := .int (tNu x48)) (C := RX3) (T := TX3) (N := 12) hx hb hts iX3 hown hK hP 0 rfl rfl 3 (by decide) (hts _ q343) (fun _ h9 => h9) rfl dX3_push_109 ?_
        obtain ⟨g49, hf⟩ := gd_e hf
        refine sb_topv (v' := .int (tNu T)) (congrArg Value.int (gdec_e g49)) ?_
        refine lv_iload_n hx hb dX3_push_112 rfl (lv_at hl 3 rfl) ?_
        refine lv_iload_n hx hb dX3_push_113 rfl (lv_at hl 2 rfl) ?_
        refine lv_iload hx hb dX3_push_114 (lv_at hl 0 rfl) ?_
        refine lv_iload_n hx hb dX3_push_116 rfl (lv_at hl 1 rfl) ?_
        refine lv_isub hx hb dX3_push_117 ?_
        refine lv_topi (fun v50 ev50 => ?_)
        have hf := bnd_all hf v50 ev50
        obtain ⟨x51, hx51, hf⟩ := obd_e hf
        refine sbT_Vi (As := [.int (tNu T), .int x1.1, .int 1, .int v50]) (rest := []) ⟨hx, hb, hml, hown, hts⟩ (fun sz => c_X2_push l dC dI cI cF cJ cD oh fa tr q0 q1 q2 q3 q4 q5 q6 q7 q8 rw Hb F (tNu T) x1.1 1 v50 hq x51 hx51 sz) (cwV 4 hts (g_V q457 q458 q459 q172 q194) rfl rfl rfl pc_X2_push ⟨Nat.le_of_ble_eq_true rfl, Nat.le_of_ble_eq_true rfl⟩) 0 2 rfl rfl hK hP hD hS hA [7, 8, 9, 10, 11, 12, 13, 14, 15, 16, 17] [0, 1, 2, 3, 4, 5, 6, 18] rfl rfl (by decide) (by decide) (by decide) (fun _ _ _ _ h => h) (fun _ _ _ => trivial) rfl rfl hl.1 (Nat.le_of_ble_eq_true rfl) dX3_push_118 ⟨Nat.le_of_ble_eq_true rfl, Nat.le_of_ble_eq_true rfl⟩ (fun r9 u H locs hr9 hP hD hS => ?_)
        have hr9 := Eq.symm hr9
        subst hr9
        have hP : va_P (dC, dI) vwCl ((wTD cI cF cJ ot oh b ou od ow oa ob n45 os x48 ++ (wHB cI cF cJ oh fa tr rw Hb ++ (wFR cI cF cJ q0 q1 q2 q3 q4 q5 q6 q7 q8 x51.2 ++ ([kOut cJ n45 rs46])))) ++ (kRows cI lr rs46)) H := va_P.part hP [0, 1, 2, 3, 4, 5, 6, 8, 9, 10, 11, 12, 13, 14, 15, 16, 17, 18, 7] rfl
        have hD : va_D A ((wTD cI cF cJ ot oh b ou od ow oa ob n45 os x48 ++ (wHB cI cF cJ oh fa tr rw Hb ++ (wFR cI cF cJ q0 q1 q2 q3 q4 q5 q6 q7 q8 x51.2 ++ ([kOut cJ n45 rs46])))) ++ (kRows cI lr rs46)) := va_D.part hD [0, 1, 2, 3, 4, 5, 6, 8, 9, 10, 11, 12, 13, 14, 15, 16, 17, 18, 7] (by decide) rfl
        refine lv_aload_n hx hb dX3_push_121 rfl (lv_at hl 4 rfl) ?_
        refine lv_iload_n hx hb dX3_push_122 rfl (lv_at hl 3 rfl) ?_
        obtain ⟨x52, hx52, hf⟩ := obd_e hf
        refine sbT_Vi (As := [.int x1.1]) (rest := [.int x51.1]) ⟨hx, hb, hml, hown, hts⟩ (fun sz => c_X3_value l dC dI cI cF cJ cD ot oh b ou od ow oa ob n45 os x48 x1.1  x52 hx52 sz) (cwV 1 hts (g_V q369 q370 q371 q352 q366) rfl rfl rfl pc_X3_value ⟨Nat.le_of_ble_eq_true rfl, Nat.le_of_ble_eq_true rfl⟩) 0 3 rfl rfl hK hP hD hS hA [0, 1, 2, 3, 4, 5, 6] [7, 8, 9, 10, 11, 12, 13, 14, 15, 16, 17, 18] rfl rfl (by decide) (by decide) (by decide) (fun _ _ _ _ h => h) (fun _ _ _ => trivial) rfl rfl hl.1 (Nat.le_of_ble_eq_true rfl) dX3_push_123 ⟨Nat.le_of_ble_eq_true rfl, Nat.le_of_ble_eq_true rfl⟩ (fun r9 u H locs hr9 hP hD hS => ?_)
        have hr9 := Eq.symm hr9
        subst hr9
        have hP : va_P (dC, dI) vwCl ((wTD cI cF cJ ot oh b ou od ow oa ob n45 os x48 ++ (wHB cI cF cJ oh fa tr rw Hb ++ (wFR cI cF cJ q0 q1 q2 q3 q4 q5 q6 q7 q8 x51.2 ++ ([kOut cJ n45 rs46])))) ++ (kRows cI lr rs46)) H := va_P.part hP [12, 13, 14, 15, 16, 17, 18, 0, 1, 2, 3, 4, 5, 6, 7, 8, 9, 10, 11] rfl
        have hD : va_D A ((wTD cI cF cJ ot oh b ou od ow oa ob n45 os x48 ++ (wHB cI cF cJ oh fa tr rw Hb ++ (wFR cI cF cJ q0 q1 q2 q3 q4 q5 q6 q7 q8 x51.2 ++ ([kOut cJ n45 rs46])))) ++ (kRows cI lr rs46)) := va_D.part hD [12, 13, 14, 15, 16, 17, 18, 0, 1, 2, 3, 4, 5, 6, 7, 8, 9, 10, 11] (by decide) rfl
        refine lv_icmp_ne (tgt := 133) hx hb dX3_push_126 (by decide) (fun c53 => ?_) (fun c53 => ?_)
        · have hf := ite_f hf c53
          refine lv_iconst (v := 0) hx hb dX3_push_133 (by decide) ?_
          obtain rfl := Option.some.inj hf
          exact W.zret (v := 0) hx hb hr (by rfl) (fun t ht hW => ⟨⟨_, (n45, rs46), rfl, ⟨rfl, hrs46⟩, by rw [ht]; exact hP, hD⟩, hS.F ht⟩) hS.2.2 dX3_push_134
        · have hf := ite_t hf c53
          refine lv_iconst (v := 1) hx hb dX3_push_129 (by decide) ?_
          refine lv_goto (tgt := 134) hx hb dX3_push_130 (by decide) ?_
          obtain rfl := Option.some.inj hf
          exact W.zret (v := 1) hx hb hr (by rfl) (fun t ht hW => ⟨⟨_, (n45, rs46), rfl, ⟨rfl, hrs46⟩, by rw [ht]; exact hP, hD⟩, hS.F ht⟩) hS.2.2 dX3_push_134
      · have hf := ite_t hf c43
        refine lv_iconst (v := 1) hx hb dX3_push_80 (by decide) ?_
        refine W.widen (k := 2) (n := 29) (Nat.le_of_ble_eq_true rfl) (Nat.le_of_ble_eq_true rfl) ?_
        obtain rfl := Option.some.inj hf
        exact W.zret (v := 1) hx hb hr (by rfl) (fun t ht hW => ⟨⟨_, (ok, rs), rfl, ⟨rfl, hrs⟩, by rw [ht]; exact hP, hD⟩, hS.F ht⟩) hS.2.2 dX3_push_81
