-- laid by wip/p30/specs.py
noncomputable def f_X3_act (L : Nat) (xs : Nat → Int32) (lr : Nat) (T : TD) (Hb : HB) (F : FR) (K : KO) : Option (Int32 × TD × FR × KO) := obd (f_X3_draw L xs T 17) fun x1 => if x1.1 = 0 then (gd (gdec ((tNu x1.2) = (tNu T))) <| obd (f_X3_add L xs lr x1.2 Hb F K) fun x4 => gd (nbool x4.1) <| some (x4.1, x4.2.1, x4.2.2.1, x4.2.2.2)) else (if x1.1 = 1 then (gd (gdec ((tNu x1.2) = (tNu T))) <| obd (f_X3_add L xs lr x1.2 Hb F K) fun x10 => gd (nbool x10.1) <| some (x10.1, x10.2.1, x10.2.2.1, x10.2.2.2)) else (if x1.1 = 2 then (gd (gdec ((tNu x1.2) = (tNu T))) <| obd (f_X3_add L xs lr x1.2 Hb F K) fun x16 => gd (nbool x16.1) <| some (x16.1, x16.2.1, x16.2.2.1, x16.2.2.2)) else (if x1.1 = 3 then (gd (gdec ((tNu x1.2) = (tNu T))) <| obd (f_X3_add L xs lr x1.2 Hb F K) fun x22 => gd (nbool x22.1) <| some (x22.1, x22.2.1, x22.2.2.1, x22.2.2.2)) else (if x1.1 = 4 then (gd (gdec ((tNu x1.2) = (tNu T))) <| obd (f_X3_off L xs lr x1.2 Hb F K) fun x28 => gd (nbool x28.1) <| some (x28.1, x28.2.1, x28.2.2.1, x28.2.2.2)) else (if x1.1 = 5 then (gd (gdec ((tNu x1.2) = (tNu T))) <| obd (f_X3_off L xs lr x1.2 Hb F K) fun x34 => gd (nbool x34.1) <| some (x34.1, x34.2.1, x34.2.2.1, x34.2.2.2)) else (if x1.1 = 6 then (gd (gdec ((tNu x1.2) = (tNu T))) <| obd (f_X3_times L xs lr x1.2 Hb F K) fun x40 => gd (nbool x40.1) <| some (x40.1, x40.2.1, x40.2.2.1, x40.2.2.2)) else (if x1.1 = 7 then (gd (gdec ((tNu x1.2) = (tNu T))) <| obd (f_X3_divide L xs lr x1.2 Hb F K) fun x46 => gd (nbool x46.1) <| some (x46.1, x46.2.1, x46.2.2.1, x46.2.2.2)) else (if x1.1 = 8 then (gd (gdec ((tNu x1.2) = (tNu T))) <| obd (f_X3_shift L xs lr x1.2 Hb F K) fun x52 => gd (nbool x52.1) <| some (x52.1, x52.2.1, x52.2.2.1, x52.2.2.2)) else (if x1.1 = 9 then (gd (gdec ((tNu x1.2) = (tNu T))) <| obd (f_X3_tidy L xs lr x1.2 Hb F K) fun x58 => gd (nbool x58.1) <| some (x58.1, x58.2.1, x58.2.2.1, x58.2.2.2)) else (if x1.1 = 10 then (obd (f_X3_draw L xs x1.2 3) fun x63 => if (0 : Int32) < x63.1 then (some (1, x63.2, F, K)) else (gd (gdec ((tNu x63.2) = (tNu T))) <| obd (f_X3_clear L xs lr x63.2 Hb F K) fun x66 => if x66.1 = 0 then (some (0, x66.2.1, x66.2.2.1, x66.2.2.2)) else (some (1, x66.2.1, x66.2.2.1, x66.2.2.2)))) else (if x1.1 = 11 then (gd (gdec ((tNu x1.2) = (tNu T))) <| obd (f_X3_sets L xs lr x1.2 Hb F K) fun x72 => gd (nbool x72.1) <| some (x72.1, x72.2.1, x72.2.2.1, x72.2.2.2)) else (if x1.1 = 12 then (gd (gdec ((tNu x1.2) = (tNu T))) <| obd (f_X3_sets L xs lr x1.2 Hb F K) fun x78 => gd (nbool x78.1) <| some (x78.1, x78.2.1, x78.2.2.1, x78.2.2.2)) else (if x1.1 = 13 then (gd (gdec ((tNu x1.2) = (tNu T))) <| obd (f_X3_push L xs lr x1.2 Hb F K) fun x84 => gd (nbool x84.1) <| some (x84.1, x84.2.1, x84.2.2.1, x84.2.2.2)) else (if x1.1 = 14 then (gd (gdec ((tNu x1.2) = (tNu T))) <| obd (f_X3_push L xs lr x1.2 Hb F K) fun x90 => gd (nbool x90.1) <| some (x90.1, x90.2.1, x90.2.2.1, x90.2.2.2)) else (if x1.1 = 15 then (gd (gdec ((tNu x1.2) = (tNu T))) <| obd (f_X3_back lr x1.2 Hb F K) fun x96 => gd (nbool x96.1) <| some (x96.1, x96.2.1, x96.2.2.1, x96.2.2.2)) else (obd (f_X3_draw L xs x1.2 2) fun x100 => if x100.1 = 0 then (some (1, x100.2, F, K)) else (gd (gdec ((tNu x100.2) = (tNu T))) <| obd (f_X3_grease L xs x100.2 Hb F) fun x103 => if x103.1 = 0 then (some (0, x103.2.1, x103.2.2, K)) else (some (1, x103.2.1, x103.2.2, K)))))))))))))))))))
theorem pc_X3_act : yX3_act.cls = RX3 ∧ yX3_act.cls ≠ "java/lang/invoke/MethodHandle" ∧ yX3_act.cls ≠ "java/lang/invoke/VarHandle" ∧ (parseMethodDescriptor yX3_act.desc).map (fun d => d.parameters.length) = some 0 := by decide +kernel
abbrev rm_X3_act : Room := { frames := 7, cells := 18, slots := 189, locals := 179 }
set_option maxHeartbeats 4000000 in
set_option maxRecDepth 100000 in
theorem c_X3_act (l : Launch) (dC : Nat → ClassId) (dI : Nat → Nat → Nat) (cI cF cJ cD : ClassId) (b L : Nat) (xs : Nat → Int32) (tA tB : Nat) (lr : Nat) (ot oh ou od ow oa ob ok os fa tr q0 q1 q2 q3 q4 q5 q6 q7 q8 : Nat) (rw : Nat → Option Nat) (rs : RS) (T : TD) (Hb : HB) (F : FR) (K : KO) (hq : f_X2_frameAt rw (tNu T) = some (some q0)) (hrs : rs.map Prod.snd = K) (res : (Int32 × TD × FR × KO)) (hf : f_X3_act L xs lr T Hb F K = some res) (sz : Nat) : Met l yX3_act (ws_ yX3_act cX3_act 1 (some .boolean)) rm_X3_act (sbPre (dC, dI) (TY cI cF cJ cD) ((wTD cI cF cJ ot oh b ou od ow oa ob ok os T ++ (wHB cI cF cJ oh fa tr rw Hb ++ (wFR cI cF cJ q0 q1 q2 q3 q4 q5 q6 q7 q8 F ++ ([kOut cJ ok rs])))) ++ (kRows cI lr rs)) (fun sz U => EX b L xs tA tB (va_A ((wTD cI cF cJ ot oh b ou od ow oa ob ok os T ++ (wHB cI cF cJ oh fa tr rw Hb ++ (wFR cI cF cJ q0 q1 q2 q3 q4 q5 q6 q7 q8 F ++ ([kOut cJ ok rs])))) ++ (kRows cI lr rs)) sz) U) sz [.ref ot]) (va_Qi (fun (r : Int32) (u : Nat × RS) => r = res.1 ∧ u.2.map Prod.snd = res.2.2.2) (sbEnd (dC, dI) (fun (u : Nat × RS) => (wTD cI cF cJ ot oh b ou od ow oa ob u.1 os res.2.1 ++ (wHB cI cF cJ oh fa tr rw Hb ++ (wFR cI cF cJ q0 q1 q2 q3 q4 q5 q6 q7 q8 res.2.2.1 ++ ([kOut cJ u.1 u.2])))) ++ (kRows cI lr u.2)) (va_A ((wTD cI cF cJ ot oh b ou od ow oa ob ok os T ++ (wHB cI cF cJ oh fa tr rw Hb ++ (wFR cI cF cJ q0 q1 q2 q3 q4 q5 q6 q7 q8 F ++ ([kOut cJ ok rs])))) ++ (kRows cI lr rs)) sz)) (va_A ((wTD cI cF cJ ot oh b ou od ow oa ob ok os T ++ (wHB cI cF cJ oh fa tr rw Hb ++ (wFR cI cF cJ q0 q1 q2 q3 q4 q5 q6 q7 q8 F ++ ([kOut cJ ok rs])))) ++ (kRows cI lr rs)) sz)) 18 189 (va_A ((wTD cI cF cJ ot oh b ou od ow oa ob ok os T ++ (wHB cI cF cJ oh fa tr rw Hb ++ (wFR cI cF cJ q0 q1 q2 q3 q4 q5 q6 q7 q8 F ++ ([kOut cJ ok rs])))) ++ (kRows cI lr rs)) sz) := by
  refine Met.ofW (cc := cX3_act) (maxL := 1) (ret := (some .boolean)) (by decide) rfl ?_
  intro p e s m args below meth c s₁ B hml hv
  obtain ⟨rfl, hsz, hP, hK, hD0, hE⟩ := hv
  have hx := B.exec
  have hb := B.bytes
  have hr := B.returns
  have hts0 := atoms_spec (ws := ws_ yX3_act cX3_act 1 (some .boolean)) B.pre
  have hts := fun (w : Cond) (h : w ∈ LW) => hts0 w (List.mem_cons_of_mem _ h)
  have hown : s.vm.findClass RX3 = some m.cls := findClass_of_methodNamed B.named
  have hlocks := B.notSynchronized
  subst hsz
  have hD := hD0.self (sz := s.heap.size)
  have hE : EX b L xs tA tB (va_A ((wTD cI cF cJ ot oh b ou od ow oa ob ok os T ++ (wHB cI cF cJ oh fa tr rw Hb ++ (wFR cI cF cJ q0 q1 q2 q3 q4 q5 q6 q7 q8 F ++ ([kOut cJ ok rs])))) ++ (kRows cI lr rs)) s.heap.size) s := hE
  generalize hAe : va_A ((wTD cI cF cJ ot oh b ou od ow oa ob ok os T ++ (wHB cI cF cJ oh fa tr rw Hb ++ (wFR cI cF cJ q0 q1 q2 q3 q4 q5 q6 q7 q8 F ++ ([kOut cJ ok rs])))) ++ (kRows cI lr rs)) s.heap.size = A at hD hE ⊢
  have hA : ∀ q : Nat, s.heap.size ≤ q → A q := fun q h => by rw [← hAe]; exact Or.inr h
  have hS : va_S A s.heap s.heap [] := va_S.rf
  have hkc := Nat.zero_le rm_X3_act.cells
  have hks := Nat.zero_le rm_X3_act.slots
  have hl := lv_entry ([.ref ot]) (n := 1) (Nat.le_of_ble_eq_true rfl)
  rw [lg_entry_eq]
  generalize (lg_sl ([.ref ot]) ++ List.replicate (1 - (lg_sl ([.ref ot])).length) Slot.unset).toArray = ls at hl ⊢
  have hl : lv_has ls 1 [(0, .ref ot)] := hl
  rw [f_X3_act] at hf
  refine lv_aload_n hx hb dX3_act_0 rfl (lv_at hl 0 rfl) ?_
  refine lv_bipush (v := 17) hx hb dX3_act_1 (by decide) ?_
  obtain ⟨x1, hx1, hf⟩ := obd_e hf
  refine sbT_Vi (As := [.int 17]) (rest := []) ⟨hx, hb, hml, hown, hts⟩ (fun sz => c_X3_draw l dC dI cI cF cJ cD b L xs tA tB ot oh ou od ow oa ob ok os T 17  x1 hx1 sz) (cwV 1 hts (g_V q349 q350 q351 q352 q339) rfl rfl rfl pc_X3_draw ⟨Nat.le_of_ble_eq_true rfl, Nat.le_of_ble_eq_true rfl⟩) 0 3 rfl rfl hK hP hD hS hA [0, 1, 2, 3, 4, 5, 6] [7, 8, 9, 10, 11, 12, 13, 14, 15, 16, 17, 18] rfl rfl (by decide) (by decide) (by decide) EX_blind (fun U hU hW => EX_pass hE hS (va_free hD.left hS hA [0, 1, 2, 3, 4, 5, 6] rfl) hU hW) rfl rfl hl.1 (Nat.le_of_ble_eq_true rfl) dX3_act_3 ⟨hkc, hks⟩ (fun r9 u H locs hr9 hP hD hS => ?_)
  have hr9 := Eq.symm hr9
  subst hr9
  have hP : va_P (dC, dI) vwCl ((wTD cI cF cJ ot oh b ou od ow oa ob ok os x1.2 ++ (wHB cI cF cJ oh fa tr rw Hb ++ (wFR cI cF cJ q0 q1 q2 q3 q4 q5 q6 q7 q8 F ++ ([kOut cJ ok rs])))) ++ (kRows cI lr rs)) H := va_P.part hP [12, 13, 14, 15, 16, 17, 18, 0, 1, 2, 3, 4, 5, 6, 7, 8, 9, 10, 11] rfl
  have hD : va_D A ((wTD cI cF cJ ot oh b ou od ow oa ob ok os x1.2 ++ (wHB cI cF cJ oh fa tr rw Hb ++ (wFR cI cF cJ q0 q1 q2 q3 q4 q5 q6 q7 q8 F ++ ([kOut cJ ok rs])))) ++ (kRows cI lr rs)) := va_D.part hD [12, 13, 14, 15, 16, 17, 18, 0, 1, 2, 3, 4, 5, 6, 7, 8, 9, 10, 11] (by decide) rfl
  by_cases c2 : x1.1 = 0
  · have hf := ite_t hf c2
    refine lv_tableIn (off := 78) (tgt := 84) hx hb dX3_act_6 (by rw [c2]; decide) (by rw [c2]; decide) (by rw [c2]; rfl) (by decide) ?_
    refine lv_aload_n hx hb dX3_act_84 rfl (lv_at hl 0 rfl) ?_
    obtain ⟨g3, hf⟩ := gd_e hf
    obtain ⟨x4, hx4, hf⟩ := obd_e hf
    refine sbP_Vi (As := []) (rest := []) ⟨hx, hb, hml, hown, hts⟩ (fun sz => c_X3_add l dC dI cI cF cJ cD b L xs tA tB lr ot oh ou od ow oa ob ok os fa tr q0 q1 q2 q3 q4 q5 q6 q7 q8 rw rs x1.2 Hb F K (by rw [gdec_e g3]; exact hq) hrs x4 hx4 sz) (cwV 0 hts (g_V q470 q471 q472 q352 q418) rfl rfl rfl pc_X3_add ⟨Nat.le_of_ble_eq_true rfl, Nat.le_of_ble_eq_true rfl⟩) 0 3 rfl rfl hK hP hD hS hA [0, 1, 2, 3, 4, 5, 6, 7, 8, 9, 10, 11, 12, 13, 14, 15, 16, 17, 18] [] rfl rfl (by decide) (by decide) (by decide) EX_blind (fun U hU hW => EX_pass hE hS (va_freeP hD hS hA [0, 1, 2, 3, 4, 5, 6, 7, 8, 9, 10, 11, 12, 13, 14, 15, 16, 17, 18] rfl) hU hW) rfl rfl hl.1 (Nat.le_of_ble_eq_true rfl) dX3_act_85 ⟨Nat.le_of_ble_eq_true rfl, Nat.le_of_ble_eq_true rfl⟩ (fun r9 u H locs hr9 hP hD hS => ?_)
    refine W.widen (k := 3) (n := 39) (Nat.le_refl _) (Nat.le_refl _) ?_
    obtain ⟨hr9, hrs6⟩ := hr9
    have hr9 := Eq.symm hr9
    subst hr9
    obtain ⟨n5, rs6⟩ := u
    have hP : va_P (dC, dI) vwCl ((wTD cI cF cJ ot oh b ou od ow oa ob n5 os x4.2.1 ++ (wHB cI cF cJ oh fa tr rw Hb ++ (wFR cI cF cJ q0 q1 q2 q3 q4 q5 q6 q7 q8 x4.2.2.1 ++ ([kOut cJ n5 rs6])))) ++ (kRows cI lr rs6)) H := hP
    have hD : va_D A ((wTD cI cF cJ ot oh b ou od ow oa ob n5 os x4.2.1 ++ (wHB cI cF cJ oh fa tr rw Hb ++ (wFR cI cF cJ q0 q1 q2 q3 q4 q5 q6 q7 q8 x4.2.2.1 ++ ([kOut cJ n5 rs6])))) ++ (kRows cI lr rs6)) := hD
    refine W.widen (k := 18) (n := 189) (Nat.le_of_ble_eq_true rfl) (Nat.le_of_ble_eq_true rfl) ?_
    obtain ⟨g7, hf⟩ := gd_e hf
    obtain rfl := Option.some.inj hf
    exact W.zret (v := x4.1) hx hb hr (nbool_n g7) (fun t ht hW => ⟨⟨_, (n5, rs6), rfl, ⟨rfl, hrs6⟩, by rw [ht]; exact hP, hD⟩, hS.F ht⟩) hS.2.2 dX3_act_88
  have hf := ite_f hf c2
  by_cases c8 : x1.1 = 1
  · have hf := ite_t hf c8
    refine lv_tableIn (off := 78) (tgt := 84) hx hb dX3_act_6 (by rw [c8]; decide) (by rw [c8]; decide) (by rw [c8]; rfl) (by decide) ?_
    refine lv_aload_n hx hb dX3_act_84 rfl (lv_at hl 0 rfl) ?_
    obtain ⟨g9, hf⟩ := gd_e hf
    obtain ⟨x10, hx10, hf⟩ := obd_e hf
    refine sbP_Vi (As := []) (rest := []) ⟨hx, hb, hml, hown, hts⟩ (fun sz => c_X3_add l dC dI cI cF cJ cD b L xs tA tB lr ot oh ou od ow oa ob ok os fa tr q0 q1 q2 q3 q4 q5 q6 q7 q8 rw rs x1.2 Hb F K (by rw [gdec_e g9]; exact hq) hrs x10 hx10 sz) (cwV 0 hts (g_V q470 q471 q472 q352 q418) rfl rfl rfl pc_X3_add ⟨Nat.le_of_ble_eq_true rfl, Nat.le_of_ble_eq_true rfl⟩) 0 3 rfl rfl hK hP hD hS hA [0, 1, 2, 3, 4, 5, 6, 7, 8, 9, 10, 11, 12, 13, 14, 15, 16, 17, 18] [] rfl rfl (by decide) (by decide) (by decide) EX_blind (fun U hU hW => EX_pass hE hS (va_freeP hD hS hA [0, 1, 2, 3, 4, 5, 6, 7, 8, 9, 10, 11, 12, 13, 14, 15, 16, 17, 18] rfl) hU hW) rfl rfl hl.1 (Nat.le_of_ble_eq_true rfl) dX3_act_85 ⟨Nat.le_of_ble_eq_true rfl, Nat.le_of_ble_eq_true rfl⟩ (fun r9 u H locs hr9 hP hD hS => ?_)
    refine W.widen (k := 3) (n := 39) (Nat.le_refl _) (Nat.le_refl _) ?_
    obtain ⟨hr9, hrs12⟩ := hr9
    have hr9 := Eq.symm hr9
    subst hr9
    obtain ⟨n11, rs12⟩ := u
    have hP : va_P (dC, dI) vwCl ((wTD cI cF cJ ot oh b ou od ow oa ob n11 os x10.2.1 ++ (wHB cI cF cJ oh fa tr rw Hb ++ (wFR cI cF cJ q0 q1 q2 q3 q4 q5 q6 q7 q8 x10.2.2.1 ++ ([kOut cJ n11 rs12])))) ++ (kRows cI lr rs12)) H := hP
    have hD : va_D A ((wTD cI cF cJ ot oh b ou od ow oa ob n11 os x10.2.1 ++ (wHB cI cF cJ oh fa tr rw Hb ++ (wFR cI cF cJ q0 q1 q2 q3 q4 q5 q6 q7 q8 x10.2.2.1 ++ ([kOut cJ n11 rs12])))) ++ (kRows cI lr rs12)) := hD
    refine W.widen (k := 18) (n := 189) (Nat.le_of_ble_eq_true rfl) (Nat.le_of_ble_eq_true rfl) ?_
    obtain ⟨g13, hf⟩ := gd_e hf
    obtain rfl := Option.some.inj hf
    exact W.zret (v := x10.1) hx hb hr (nbool_n g13) (fun t ht hW => ⟨⟨_, (n11, rs12), rfl, ⟨rfl, hrs12⟩, by rw [ht]; exact hP, hD⟩, hS.F ht⟩) hS.2.2 dX3_act_88
  have hf := ite_f hf c8
  by_cases c14 : x1.1 = 2
  · have hf := ite_t hf c14
    refine lv_tableIn (off := 78) (tgt := 84) hx hb dX3_act_6 (by rw [c14]; decide) (by rw [c14]; decide) (by rw [c14]; rfl) (by decide) ?_
    refine lv_aload_n hx hb dX3_act_84 rfl (lv_at hl 0 rfl) ?_
    obtain ⟨g15, hf⟩ := gd_e hf
    obtain ⟨x16, hx16, hf⟩ := obd_e hf
    refine sbP_Vi (As := []) (rest := []) ⟨hx, hb, hml, hown, hts⟩ (fun sz => c_X3_add l dC dI cI cF cJ cD b L xs tA tB lr ot oh ou od ow oa ob ok os fa tr q0 q1 q2 q3 q4 q5 q6 q7 q8 rw rs x1.2 Hb F K (by rw [gdec_e g15]; exact hq) hrs x16 hx16 sz) (cwV 0 hts (g_V q470 q471 q472 q352 q418) rfl rfl rfl pc_X3_add ⟨Nat.le_of_ble_eq_true rfl, Nat.le_of_ble_eq_true rfl⟩) 0 3 rfl rfl hK hP hD hS hA [0, 1, 2, 3, 4, 5, 6, 7, 8, 9, 10, 11, 12, 13, 14, 15, 16, 17, 18] [] rfl rfl (by decide) (by decide) (by decide) EX_blind (fun U hU hW => EX_pass hE hS (va_freeP hD hS hA [0, 1, 2, 3, 4, 5, 6, 7, 8, 9, 10, 11, 12, 13, 14, 15, 16, 17, 18] rfl) hU hW) rfl rfl hl.1 (Nat.le_of_ble_eq_true rfl) dX3_act_85 ⟨Nat.le_of_ble_eq_true rfl, Nat.le_of_ble_eq_true rfl⟩ (fun r9 u H locs hr9 hP hD hS => ?_)
    refine W.widen (k := 3) (n := 39) (Nat.le_refl _) (Nat.le_refl _) ?_
    obtain ⟨hr9, hrs18⟩ := hr9
    have hr9 := Eq.symm hr9
    subst hr9
    obtain ⟨n17, rs18⟩ := u
    have hP : va_P (dC, dI) vwCl ((wTD cI cF cJ ot oh b ou od ow oa ob n17 os x16.2.1 ++ (wHB cI cF cJ oh fa tr rw Hb ++ (wFR cI cF cJ q0 q1 q2 q3 q4 q5 q6 q7 q8 x16.2.2.1 ++ ([kOut cJ n17 rs18])))) ++ (kRows cI lr rs18)) H := hP
    have hD : va_D A ((wTD cI cF cJ ot oh b ou od ow oa ob n17 os x16.2.1 ++ (wHB cI cF cJ oh fa tr rw Hb ++ (wFR cI cF cJ q0 q1 q2 q3 q4 q5 q6 q7 q8 x16.2.2.1 ++ ([kOut cJ n17 rs18])))) ++ (kRows cI lr rs18)) := hD
    refine W.widen (k := 18) (n := 189) (Nat.le_of_ble_eq_true rfl) (Nat.le_of_ble_eq_true rfl) ?_
    obtain ⟨g19, hf⟩ := gd_e hf
    obtain rfl := Option.some.inj hf
    exact W.zret (v := x16.1) hx hb hr (nbool_n g19) (fun t ht hW => ⟨⟨_, (n17, rs18), rfl, ⟨rfl, hrs18⟩, by rw [ht]; exact hP, hD⟩, hS.F ht⟩) hS.2.2 dX3_act_88
  have hf := ite_f hf c14
  by_cases c20 : x1.1 = 3
  · have hf := ite_t hf c20
    refine lv_tableIn (off := 78) (tgt := 84) hx hb dX3_act_6 (by rw [c20]; decide) (by rw [c20]; decide) (by rw [c20]; rfl) (by decide) ?_
    refine lv_aload_n hx hb dX3_act_84 rfl (lv_at hl 0 rfl) ?_
    obtain ⟨g21, hf⟩ := gd_e hf
    obtain ⟨x22, hx22, hf⟩ := obd_e hf
    refine sbP_Vi (As := []) (rest := []) ⟨hx, hb, hml, hown, hts⟩ (fun sz => c_X3_add l dC dI cI cF cJ cD b L xs tA tB lr ot oh ou od ow oa ob ok os fa tr q0 q1 q2 q3 q4 q5 q6 q7 q8 rw rs x1.2 Hb F K (by rw [gdec_e g21]; exact hq) hrs x22 hx22 sz) (cwV 0 hts (g_V q470 q471 q472 q352 q418) rfl rfl rfl pc_X3_add ⟨Nat.le_of_ble_eq_true rfl, Nat.le_of_ble_eq_true rfl⟩) 0 3 rfl rfl hK hP hD hS hA [0, 1, 2, 3, 4, 5, 6, 7, 8, 9, 10, 11, 12, 13, 14, 15, 16, 17, 18] [] rfl rfl (by decide) (by decide) (by decide) EX_blind (fun U hU hW => EX_pass hE hS (va_freeP hD hS hA [0, 1, 2, 3, 4, 5, 6, 7, 8, 9, 10, 11, 12, 13, 14, 15, 16, 17, 18] rfl) hU hW) rfl rfl hl.1 (Nat.le_of_ble_eq_true rfl) dX3_act_85 ⟨Nat.le_of_ble_eq_true rfl, Nat.le_of_ble_eq_true rfl⟩ (fun r9 u H locs hr9 hP hD hS => ?_)
    refine W.widen (k := 3) (n := 39) (Nat.le_refl _) (Nat.le_refl _) ?_
    obtain ⟨hr9, hrs24⟩ := hr9
    have hr9 := Eq.symm hr9
    subst hr9
    obtain ⟨n23, rs24⟩ := u
    have hP : va_P (dC, dI) vwCl ((wTD cI cF cJ ot oh b ou od ow oa ob n23 os x22.2.1 ++ (wHB cI cF cJ oh fa tr rw Hb ++ (wFR cI cF cJ q0 q1 q2 q3 q4 q5 q6 q7 q8 x22.2.2.1 ++ ([kOut cJ n23 rs24])))) ++ (kRows cI lr rs24)) H := hP
    have hD : va_D A ((wTD cI cF cJ ot oh b ou od ow oa ob n23 os x22.2.1 ++ (wHB cI cF cJ oh fa tr rw Hb ++ (wFR cI cF cJ q0 q1 q2 q3 q4 q5 q6 q7 q8 x22.2.2.1 ++ ([kOut cJ n23 rs24])))) ++ (kRows cI lr rs24)) := hD
    refine W.widen (k := 18) (n := 189) (Nat.le_of_ble_eq_true rfl) (Nat.le_of_ble_eq_true rfl) ?_
    obtain ⟨g25, hf⟩ := gd_e hf
    obtain rfl := Option.some.inj hf
    exact W.zret (v := x22.1) hx hb hr (nbool_n g25) (fun t ht hW => ⟨⟨_, (n23, rs24), rfl, ⟨rfl, hrs24⟩, by rw [ht]; exact hP, hD⟩, hS.F ht⟩) hS.2.2 dX3_act_88
  have hf := ite_f hf c20
  by_cases c26 : x1.1 = 4
  · have hf := ite_t hf c26
    refine lv_tableIn (off := 83) (tgt := 89) hx hb dX3_act_6 (by rw [c26]; decide) (by rw [c26]; decide) (by rw [c26]; rfl) (by decide) ?_
    refine lv_aload_n hx hb dX3_act_89 rfl (lv_at hl 0 rfl) ?_
    obtain ⟨g27, hf⟩ := gd_e hf
    obtain ⟨x28, hx28, hf⟩ := obd_e hf
    refine sbP_Vi (As := []) (rest := []) ⟨hx, hb, hml, hown, hts⟩ (fun sz => c_X3_off l dC dI cI cF cJ cD b L xs tA tB lr ot oh ou od ow oa ob ok os fa tr q0 q1 q2 q3 q4 q5 q6 q7 q8 rw rs x1.2 Hb F K (by rw [gdec_e g27]; exact hq) hrs x28 hx28 sz) (cwV 0 hts (g_V q473 q474 q475 q352 q429) rfl rfl rfl pc_X3_off ⟨Nat.le_of_ble_eq_true rfl, Nat.le_of_ble_eq_true rfl⟩) 0 3 rfl rfl hK hP hD hS hA [0, 1, 2, 3, 4, 5, 6, 7, 8, 9, 10, 11, 12, 13, 14, 15, 16, 17, 18] [] rfl rfl (by decide) (by decide) (by decide) EX_blind (fun U hU hW => EX_pass hE hS (va_freeP hD hS hA [0, 1, 2, 3, 4, 5, 6, 7, 8, 9, 10, 11, 12, 13, 14, 15, 16, 17, 18] rfl) hU hW) rfl rfl hl.1 (Nat.le_of_ble_eq_true rfl) dX3_act_90 ⟨Nat.le_of_ble_eq_true rfl, Nat.le_of_ble_eq_true rfl⟩ (fun r9 u H locs hr9 hP hD hS => ?_)
    refine W.widen (k := 4) (n := 49) (Nat.le_refl _) (Nat.le_refl _) ?_
    obtain ⟨hr9, hrs30⟩ := hr9
    have hr9 := Eq.symm hr9
    subst hr9
    obtain ⟨n29, rs30⟩ := u
    have hP : va_P (dC, dI) vwCl ((wTD cI cF cJ ot oh b ou od ow oa ob n29 os x28.2.1 ++ (wHB cI cF cJ oh fa tr rw Hb ++ (wFR cI cF cJ q0 q1 q2 q3 q4 q5 q6 q7 q8 x28.2.2.1 ++ ([kOut cJ n29 rs30])))) ++ (kRows cI lr rs30)) H := hP
    have hD : va_D A ((wTD cI cF cJ ot oh b ou od ow oa ob n29 os x28.2.1 ++ (wHB cI cF cJ oh fa tr rw Hb ++ (wFR cI cF cJ q0 q1 q2 q3 q4 q5 q6 q7 q8 x28.2.2.1 ++ ([kOut cJ n29 rs30])))) ++ (kRows cI lr rs30)) := hD
    refine W.widen (k := 18) (n := 189) (Nat.le_of_ble_eq_true rfl) (Nat.le_of_ble_eq_true rfl) ?_
    obtain ⟨g31, hf⟩ := gd_e hf
    obtain rfl := Option.some.inj hf
    exact W.zret (v := x28.1) hx hb hr (nbool_n g31) (fun t ht hW => ⟨⟨_, (n29, rs30), rfl, ⟨rfl, hrs30⟩, by rw [ht]; exact hP, hD⟩, hS.F ht⟩) hS.2.2 dX3_act_93
  have hf := ite_f hf c26
  by_cases c32 : x1.1 = 5
  · have hf := ite_t hf c32
    refine lv_tableIn (off := 83) (tgt := 89) hx hb dX3_act_6 (by rw [c32]; decide) (by rw [c32]; decide) (by rw [c32]; rfl) (by decide) ?_
    refine lv_aload_n hx hb dX3_act_89 rfl (lv_at hl 0 rfl) ?_
    obtain ⟨g33, hf⟩ := gd_e hf
    obtain ⟨x34, hx34, hf⟩ := obd_e hf
    refine sbP_Vi (As := []) (rest := []) ⟨hx, hb, hml, hown, hts⟩ (fun sz => c_X3_off l dC dI cI cF cJ cD b L xs tA tB lr ot oh ou od ow oa ob ok os fa tr q0 q1 q2 q3 q4 q5 q6 q7 q8 rw rs x1.2 Hb F K (by rw [gdec_e g33]; exact hq) hrs x34 hx34 sz) (cwV 0 hts (g_V q473 q474 q475 q352 q429) rfl rfl rfl pc_X3_off ⟨Nat.le_of_ble_eq_true rfl, Nat.le_of_ble_eq_true rfl⟩) 0 3 rfl rfl hK hP hD hS hA [0, 1, 2, 3, 4, 5, 6, 7, 8, 9, 10, 11, 12, 13, 14, 15, 16, 17, 18] [] rfl rfl (by decide) (by decide) (by decide) EX_blind (fun U hU hW => EX_pass hE hS (va_freeP hD hS hA [0, 1, 2, 3, 4, 5, 6, 7, 8, 9, 10, 11, 12, 13, 14, 15, 16, 17, 18] rfl) hU hW) rfl rfl hl.1 (Nat.le_of_ble_eq_true rfl) dX3_act_90 ⟨Nat.le_of_ble_eq_true rfl, Nat.le_of_ble_eq_true rfl⟩ (fun r9 u H locs hr9 hP hD hS => ?_)
    refine W.widen (k := 4) (n := 49) (Nat.le_refl _) (Nat.le_refl _) ?_
    obtain ⟨hr9, hrs36⟩ := hr9
    have hr9 := Eq.symm hr9
    subst hr9
    obtain ⟨n35, rs36⟩ := u
    have hP : va_P (dC, dI) vwCl ((wTD cI cF cJ ot oh b ou od ow oa ob n35 os x34.2.1 ++ (wHB cI cF cJ oh fa tr rw Hb ++ (wFR cI cF cJ q0 q1 q2 q3 q4 q5 q6 q7 q8 x34.2.2.1 ++ ([kOut cJ n35 rs36])))) ++ (kRows cI lr rs36)) H := hP
    have hD : va_D A ((wTD cI cF cJ ot oh b ou od ow oa ob n35 os x34.2.1 ++ (wHB cI cF cJ oh fa tr rw Hb ++ (wFR cI cF cJ q0 q1 q2 q3 q4 q5 q6 q7 q8 x34.2.2.1 ++ ([kOut cJ n35 rs36])))) ++ (kRows cI lr rs36)) := hD
    refine W.widen (k := 18) (n := 189) (Nat.le_of_ble_eq_true rfl) (Nat.le_of_ble_eq_true rfl) ?_
    obtain ⟨g37, hf⟩ := gd_e hf
    obtain rfl := Option.some.inj hf
    exact W.zret (v := x34.1) hx hb hr (nbool_n g37) (fun t ht hW => ⟨⟨_, (n35, rs36), rfl, ⟨rfl, hrs36⟩, by rw [ht]; exact hP, hD⟩, hS.F ht⟩) hS.2.2 dX3_act_93
  have hf := ite_f hf c32
  by_cases c38 : x1.1 = 6
  · have hf := ite_t hf c38
    refine lv_tableIn (off := 88) (tgt := 94) hx hb dX3_act_6 (by rw [c38]; decide) (by rw [c38]; decide) (by rw [c38]; rfl) (by decide) ?_
    refine lv_aload_n hx hb dX3_act_94 rfl (lv_at hl 0 rfl) ?_
    obtain ⟨g39, hf⟩ := gd_e hf
    obtain ⟨x40, hx40, hf⟩ := obd_e hf
    refine sbP_Vi (As := []) (rest := []) ⟨hx, hb, hml, hown, hts⟩ (fun sz => c_X3_times l dC dI cI cF cJ cD b L xs tA tB lr ot oh ou od ow oa ob ok os fa tr q0 q1 q2 q3 q4 q5 q6 q7 q8 rw rs x1.2 Hb F K (by rw [gdec_e g39]; exact hq) hrs x40 hx40 sz) (cwV 0 hts (g_V q476 q477 q478 q352 q433) rfl rfl rfl pc_X3_times ⟨Nat.le_of_ble_eq_true rfl, Nat.le_of_ble_eq_true rfl⟩) 0 3 rfl rfl hK hP hD hS hA [0, 1, 2, 3, 4, 5, 6, 7, 8, 9, 10, 11, 12, 13, 14, 15, 16, 17, 18] [] rfl rfl (by decide) (by decide) (by decide) EX_blind (fun U hU hW => EX_pass hE hS (va_freeP hD hS hA [0, 1, 2, 3, 4, 5, 6, 7, 8, 9, 10, 11, 12, 13, 14, 15, 16, 17, 18] rfl) hU hW) rfl rfl hl.1 (Nat.le_of_ble_eq_true rfl) dX3_act_95 ⟨Nat.le_of_ble_eq_true rfl, Nat.le_of_ble_eq_true rfl⟩ (fun r9 u H locs hr9 hP hD hS => ?_)
    refine W.widen (k := 18) (n := 189) (Nat.le_refl _) (Nat.le_refl _) ?_
    obtain ⟨hr9, hrs42⟩ := hr9
    have hr9 := Eq.symm hr9
    subst hr9
    obtain ⟨n41, rs42⟩ := u
    have hP : va_P (dC, dI) vwCl ((wTD cI cF cJ ot oh b ou od ow oa ob n41 os x40.2.1 ++ (wHB cI cF cJ oh fa tr rw Hb ++ (wFR cI cF cJ q0 q1 q2 q3 q4 q5 q6 q7 q8 x40.2.2.1 ++ ([kOut cJ n41 rs42])))) ++ (kRows cI lr rs42)) H := hP
    have hD : va_D A ((wTD cI cF cJ ot oh b ou od ow oa ob n41 os x40.2.1 ++ (wHB cI cF cJ oh fa tr rw Hb ++ (wFR cI cF cJ q0 q1 q2 q3 q4 q5 q6 q7 q8 x40.2.2.1 ++ ([kOut cJ n41 rs42])))) ++ (kRows cI lr rs42)) := hD
    obtain ⟨g43, hf⟩ := gd_e hf
    obtain rfl := Option.some.inj hf
    exact W.zret (v := x40.1) hx hb hr (nbool_n g43) (fun t ht hW => ⟨⟨_, (n41, rs42), rfl, ⟨rfl, hrs42⟩, by rw [ht]; exact hP, hD⟩, hS.F ht⟩) hS.2.2 dX3_act_98
  have hf := ite_f hf c38
  by_cases c44 : x1.1 = 7
  · have hf := ite_t hf c44
    refine lv_tableIn (off := 93) (tgt := 99) hx hb dX3_act_6 (by rw [c44]; decide) (by rw [c44]; decide) (by rw [c44]; rfl) (by decide) ?_
    refine lv_aload_n hx hb dX3_act_99 rfl (lv_at hl 0 rfl) ?_
    obtain ⟨g45, hf⟩ := gd_e hf
    obtain ⟨x46, hx46, hf⟩ := obd_e hf
    refine sbP_Vi (As := []) (rest := []) ⟨hx, hb, hml, hown, hts⟩ (fun sz => c_X3_divide l dC dI cI cF cJ cD b L xs tA tB lr ot oh ou od ow oa ob ok os fa tr q0 q1 q2 q3 q4 q5 q6 q7 q8 rw rs x1.2 Hb F K (by rw [gdec_e g45]; exact hq) hrs x46 hx46 sz) (cwV 0 hts (g_V q479 q480 q481 q352 q437) rfl rfl rfl pc_X3_divide ⟨Nat.le_of_ble_eq_true rfl, Nat.le_of_ble_eq_true rfl⟩) 0 3 rfl rfl hK hP hD hS hA [0, 1, 2, 3, 4, 5, 6, 7, 8, 9, 10, 11, 12, 13, 14, 15, 16, 17, 18] [] rfl rfl (by decide) (by decide) (by decide) EX_blind (fun U hU hW => EX_pass hE hS (va_freeP hD hS hA [0, 1, 2, 3, 4, 5, 6, 7, 8, 9, 10, 11, 12, 13, 14, 15, 16, 17, 18] rfl) hU hW) rfl rfl hl.1 (Nat.le_of_ble_eq_true rfl) dX3_act_100 ⟨Nat.le_of_ble_eq_true rfl, Nat.le_of_ble_eq_true rfl⟩ (fun r9 u H locs hr9 hP hD hS => ?_)
    refine W.widen (k := 2) (n := 29) (Nat.le_refl _) (Nat.le_refl _) ?_
    obtain ⟨hr9, hrs48⟩ := hr9
    have hr9 := Eq.symm hr9
    subst hr9
    obtain ⟨n47, rs48⟩ := u
    have hP : va_P (dC, dI) vwCl ((wTD cI cF cJ ot oh b ou od ow oa ob n47 os x46.2.1 ++ (wHB cI cF cJ oh fa tr rw Hb ++ (wFR cI cF cJ q0 q1 q2 q3 q4 q5 q6 q7 q8 x46.2.2.1 ++ ([kOut cJ n47 rs48])))) ++ (kRows cI lr rs48)) H := hP
    have hD : va_D A ((wTD cI cF cJ ot oh b ou od ow oa ob n47 os x46.2.1 ++ (wHB cI cF cJ oh fa tr rw Hb ++ (wFR cI cF cJ q0 q1 q2 q3 q4 q5 q6 q7 q8 x46.2.2.1 ++ ([kOut cJ n47 rs48])))) ++ (kRows cI lr rs48)) := hD
    refine W.widen (k := 18) (n := 189) (Nat.le_of_ble_eq_true rfl) (Nat.le_of_ble_eq_true rfl) ?_
    obtain ⟨g49, hf⟩ := gd_e hf
    obtain rfl := Option.some.inj hf
    exact W.zret (v := x46.1) hx hb hr (nbool_n g49) (fun t ht hW => ⟨⟨_, (n47, rs48), rfl, ⟨rfl, hrs48⟩, by rw [ht]; exact hP, hD⟩, hS.F ht⟩) hS.2.2 dX3_act_103
  have hf := ite_f hf c44
  by_cases c50 : x1.1 = 8
  · have hf := ite_t hf c50
    refine lv_tableIn (off := 98) (tgt := 104) hx hb dX3_act_6 (by rw [c50]; decide) (by rw [c50]; decide) (by rw [c50]; rfl) (by decide) ?_
    refine lv_aload_n hx hb dX3_act_104 rfl (lv_at hl 0 rfl) ?_
    obtain ⟨g51, hf⟩ := gd_e hf
    obtain ⟨x52, hx52, hf⟩ := obd_e hf
    refine sbP_Vi (As := []) (rest := []) ⟨hx, hb, hml, hown, hts⟩ (fun sz => c_X3_shift l dC dI cI cF cJ cD b L xs tA tB lr ot oh ou od ow oa ob ok os fa tr q0 q1 q2 q3 q4 q5 q6 q7 q8 rw rs x1.2 Hb F K (by rw [gdec_e g51]; exact hq) hrs x52 hx52 sz) (cwV 0 hts (g_V q482 q483 q484 q352 q441) rfl rfl rfl pc_X3_shift ⟨Nat.le_of_ble_eq_true rfl, Nat.le_of_ble_eq_true rfl⟩) 0 3 rfl rfl hK hP hD hS hA [0, 1, 2, 3, 4, 5, 6, 7, 8, 9, 10, 11, 12, 13, 14, 15, 16, 17, 18] [] rfl rfl (by decide) (by decide) (by decide) EX_blind (fun U hU hW => EX_pass hE hS (va_freeP hD hS hA [0, 1, 2, 3, 4, 5, 6, 7, 8, 9, 10, 11, 12, 13, 14, 15, 16, 17, 18] rfl) hU hW) rfl rfl hl.1 (Nat.le_of_ble_eq_true rfl) dX3_act_105 ⟨Nat.le_of_ble_eq_true rfl, Nat.le_of_ble_eq_true rfl⟩ (fun r9 u H locs hr9 hP hD hS => ?_)
    refine W.widen (k := 3) (n := 37) (Nat.le_refl _) (Nat.le_refl _) ?_
    obtain ⟨hr9, hrs54⟩ := hr9
    have hr9 := Eq.symm hr9
    subst hr9
    obtain ⟨n53, rs54⟩ := u
    have hP : va_P (dC, dI) vwCl ((wTD cI cF cJ ot oh b ou od ow oa ob n53 os x52.2.1 ++ (wHB cI cF cJ oh fa tr rw Hb ++ (wFR cI cF cJ q0 q1 q2 q3 q4 q5 q6 q7 q8 x52.2.2.1 ++ ([kOut cJ n53 rs54])))) ++ (kRows cI lr rs54)) H := hP
    have hD : va_D A ((wTD cI cF cJ ot oh b ou od ow oa ob n53 os x52.2.1 ++ (wHB cI cF cJ oh fa tr rw Hb ++ (wFR cI cF cJ q0 q1 q2 q3 q4 q5 q6 q7 q8 x52.2.2.1 ++ ([kOut cJ n53 rs54])))) ++ (kRows cI lr rs54)) := hD
    refine W.widen (k := 18) (n := 189) (Nat.le_of_ble_eq_true rfl) (Nat.le_of_ble_eq_true rfl) ?_
    obtain ⟨g55, hf⟩ := gd_e hf
    obtain rfl := Option.some.inj hf
    exact W.zret (v := x52.1) hx hb hr (nbool_n g55) (fun t ht hW => ⟨⟨_, (n53, rs54), rfl, ⟨rfl, hrs54⟩, by rw [ht]; exact hP, hD⟩, hS.F ht⟩) hS.2.2 dX3_act_108
  have hf := ite_f hf c50
  by_cases c56 : x1.1 = 9
  · have hf := ite_t hf c56
    refine lv_tableIn (off := 103) (tgt := 109) hx hb dX3_act_6 (by rw [c56]; decide) (by rw [c56]; decide) (by rw [c56]; rfl) (by decide) ?_
    refine lv_aload_n hx hb dX3_act_109 rfl (lv_at hl 0 rfl) ?_
    obtain ⟨g57, hf⟩ := gd_e hf
    obtain ⟨x58, hx58, hf⟩ := obd_e hf
    refine sbP_Vi (As := []) (rest := []) ⟨hx, hb, hml, hown, hts⟩ (fun sz => c_X3_tidy l dC dI cI cF cJ cD b L xs tA tB lr ot oh ou od ow oa ob ok os fa tr q0 q1 q2 q3 q4 q5 q6 q7 q8 rw rs x1.2 Hb F K (by rw [gdec_e g57]; exact hq) hrs x58 hx58 sz) (cwV 0 hts (g_V q485 q486 q487 q352 q445) rfl rfl rfl pc_X3_tidy ⟨Nat.le_of_ble_eq_true rfl, Nat.le_of_ble_eq_true rfl⟩) 0 3 rfl rfl hK hP hD hS hA [0, 1, 2, 3, 4, 5, 6, 7, 8, 9, 10, 11, 12, 13, 14, 15, 16, 17, 18] [] rfl rfl (by decide) (by decide) (by decide) EX_blind (fun U hU hW => EX_pass hE hS (va_freeP hD hS hA [0, 1, 2, 3, 4, 5, 6, 7, 8, 9, 10, 11, 12, 13, 14, 15, 16, 17, 18] rfl) hU hW) rfl rfl hl.1 (Nat.le_of_ble_eq_true rfl) dX3_act_110 ⟨Nat.le_of_ble_eq_true rfl, Nat.le_of_ble_eq_true rfl⟩ (fun r9 u H locs hr9 hP hD hS => ?_)
    refine W.widen (k := 2) (n := 29) (Nat.le_refl _) (Nat.le_refl _) ?_
    obtain ⟨hr9, hrs60⟩ := hr9
    have hr9 := Eq.symm hr9
    subst hr9
    obtain ⟨n59, rs60⟩ := u
    have hP : va_P (dC, dI) vwCl ((wTD cI cF cJ ot oh b ou od ow oa ob n59 os x58.2.1 ++ (wHB cI cF cJ oh fa tr rw Hb ++ (wFR cI cF cJ q0 q1 q2 q3 q4 q5 q6 q7 q8 x58.2.2.1 ++ ([kOut cJ n59 rs60])))) ++ (kRows cI lr rs60)) H := hP
    have hD : va_D A ((wTD cI cF cJ ot oh b ou od ow oa ob n59 os x58.2.1 ++ (wHB cI cF cJ oh fa tr rw Hb ++ (wFR cI cF cJ q0 q1 q2 q3 q4 q5 q6 q7 q8 x58.2.2.1 ++ ([kOut cJ n59 rs60])))) ++ (kRows cI lr rs60)) := hD
    refine W.widen (k := 18) (n := 189) (Nat.le_of_ble_eq_true rfl) (Nat.le_of_ble_eq_true rfl) ?_
    obtain ⟨g61, hf⟩ := gd_e hf
    obtain rfl := Option.some.inj hf
    exact W.zret (v := x58.1) hx hb hr (nbool_n g61) (fun t ht hW => ⟨⟨_, (n59, rs60), rfl, ⟨rfl, hrs60⟩, by rw [ht]; exact hP, hD⟩, hS.F ht⟩) hS.2.2 dX3_act_113
  have hf := ite_f hf c56
  by_cases c62 : x1.1 = 10
  · have hf := ite_t hf c62
    refine lv_tableIn (off := 108) (tgt := 114) hx hb dX3_act_6 (by rw [c62]; decide) (by rw [c62]; decide) (by rw [c62]; rfl) (by decide) ?_
    refine lv_aload_n hx hb dX3_act_114 rfl (lv_at hl 0 rfl) ?_
    refine lv_iconst (v := 3) hx hb dX3_act_115 (by decide) ?_
    obtain ⟨x63, hx63, hf⟩ := obd_e hf
    refine sbT_Vi (As := [.int 3]) (rest := []) ⟨hx, hb, hml, hown, hts⟩ (fun sz => c_X3_draw l dC dI cI cF cJ cD b L xs tA tB ot oh ou od ow oa ob ok os x1.2 3  x63 hx63 sz) (cwV 1 hts (g_V q349 q350 q351 q352 q339) rfl rfl rfl pc_X3_draw ⟨Nat.le_of_ble_eq_true rfl, Nat.le_of_ble_eq_true rfl⟩) 0 3 rfl rfl hK hP hD hS hA [0, 1, 2, 3, 4, 5, 6] [7, 8, 9, 10, 11, 12, 13, 14, 15, 16, 17, 18] rfl rfl (by decide) (by decide) (by decide) EX_blind (fun U hU hW => EX_pass hE hS (va_free hD.left hS hA [0, 1, 2, 3, 4, 5, 6] rfl) hU hW) rfl rfl hl.1 (Nat.le_of_ble_eq_true rfl) dX3_act_116 ⟨hkc, hks⟩ (fun r9 u H locs hr9 hP hD hS => ?_)
    have hr9 := Eq.symm hr9
    subst hr9
    have hP : va_P (dC, dI) vwCl ((wTD cI cF cJ ot oh b ou od ow oa ob ok os x63.2 ++ (wHB cI cF cJ oh fa tr rw Hb ++ (wFR cI cF cJ q0 q1 q2 q3 q4 q5 q6 q7 q8 F ++ ([kOut cJ ok rs])))) ++ (kRows cI lr rs)) H := va_P.part hP [12, 13, 14, 15, 16, 17, 18, 0, 1, 2, 3, 4, 5, 6, 7, 8, 9, 10, 11] rfl
    have hD : va_D A ((wTD cI cF cJ ot oh b ou od ow oa ob ok os x63.2 ++ (wHB cI cF cJ oh fa tr rw Hb ++ (wFR cI cF cJ q0 q1 q2 q3 q4 q5 q6 q7 q8 F ++ ([kOut cJ ok rs])))) ++ (kRows cI lr rs)) := va_D.part hD [12, 13, 14, 15, 16, 17, 18, 0, 1, 2, 3, 4, 5, 6, 7, 8, 9, 10, 11] (by decide) rfl
    refine lv_if_gt (tgt := 129) hx hb dX3_act_119 (by decide) (fun c64 => ?_) (fun c64 => ?_)
    · have hf := ite_t hf c64
      refine lv_iconst (v := 1) hx hb dX3_act_129 (by decide) ?_
      refine lv_goto (tgt := 134) hx hb dX3_act_130 (by decide) ?_
      refine W.widen (k := 18) (n := 189) (Nat.le_of_ble_eq_true rfl) (Nat.le_of_ble_eq_true rfl) ?_
      obtain rfl := Option.some.inj hf
      exact W.zret (v := 1) hx hb hr (by rfl) (fun t ht hW => ⟨⟨_, (ok, rs), rfl, ⟨rfl, hrs⟩, by rw [ht]; exact hP, hD⟩, hS.F ht⟩) hS.2.2 dX3_act_134
    · have hf := ite_f hf c64
      refine lv_aload_n hx hb dX3_act_122 rfl (lv_at hl 0 rfl) ?_
      obtain ⟨g65, hf⟩ := gd_e hf
      obtain ⟨x66, hx66, hf⟩ := obd_e hf
      refine sbP_Vi (As := []) (rest := []) ⟨hx, hb, hml, hown, hts⟩ (fun sz => c_X3_clear l dC dI cI cF cJ cD b L xs tA tB lr ot oh ou od ow oa ob ok os fa tr q0 q1 q2 q3 q4 q5 q6 q7 q8 rw rs x63.2 Hb F K (by rw [gdec_e g65]; exact hq) hrs x66 hx66 sz) (cwV 0 hts (g_V q488 q489 q490 q352 q449) rfl rfl rfl pc_X3_clear ⟨Nat.le_of_ble_eq_true rfl, Nat.le_of_ble_eq_true rfl⟩) 0 3 rfl rfl hK hP hD hS hA [0, 1, 2, 3, 4, 5, 6, 7, 8, 9, 10, 11, 12, 13, 14, 15, 16, 17, 18] [] rfl rfl (by decide) (by decide) (by decide) EX_blind (fun U hU hW => EX_pass hE hS (va_freeP hD hS hA [0, 1, 2, 3, 4, 5, 6, 7, 8, 9, 10, 11, 12, 13, 14, 15, 16, 17, 18] rfl) hU hW) rfl rfl hl.1 (Nat.le_of_ble_eq_true rfl) dX3_act_123 ⟨Nat.le_of_ble_eq_true rfl, Nat.le_of_ble_eq_true rfl⟩ (fun r9 u H locs hr9 hP hD hS => ?_)
      refine W.widen (k := 2) (n := 29) (Nat.le_refl _) (Nat.le_refl _) ?_
      obtain ⟨hr9, hrs68⟩ := hr9
      have hr9 := Eq.symm hr9
      subst hr9
      obtain ⟨n67, rs68⟩ := u
      have hP : va_P (dC, dI) vwCl ((wTD cI cF cJ ot oh b ou od ow oa ob n67 os x66.2.1 ++ (wHB cI cF cJ oh fa tr rw Hb ++ (wFR cI cF cJ q0 q1 q2 q3 q4 q5 q6 q7 q8 x66.2.2.1 ++ ([kOut cJ n67 rs68])))) ++ (kRows cI lr rs68)) H := hP
      have hD : va_D A ((wTD cI cF cJ ot oh b ou od ow oa ob n67 os x66.2.1 ++ (wHB cI cF cJ oh fa tr rw Hb ++ (wFR cI cF cJ q0 q1 q2 q3 q4 q5 q6 q7 q8 x66.2.2.1 ++ ([kOut cJ n67 rs68])))) ++ (kRows cI lr rs68)) := hD
      refine lv_if_eq (tgt := 133) hx hb dX3_act_126 (by decide) (fun c69 => ?_) (fun c69 => ?_)
      · have hf := ite_t hf c69
        refine lv_iconst (v := 0) hx hb dX3_act_133 (by decide) ?_
        refine W.widen (k := 18) (n := 189) (Nat.le_of_ble_eq_true rfl) (Nat.le_of_ble_eq_true rfl) ?_
        obtain rfl := Option.some.inj hf
        exact W.zret (v := 0) hx hb hr (by rfl) (fun t ht hW => ⟨⟨_, (n67, rs68), rfl, ⟨rfl, hrs68⟩, by rw [ht]; exact hP, hD⟩, hS.F ht⟩) hS.2.2 dX3_act_134
      · have hf := ite_f hf c69
        refine lv_iconst (v := 1) hx hb dX3_act_129 (by decide) ?_
        refine lv_goto (tgt := 134) hx hb dX3_act_130 (by decide) ?_
        refine W.widen (k := 18) (n := 189) (Nat.le_of_ble_eq_true rfl) (Nat.le_of_ble_eq_true rfl) ?_
        obtain rfl := Option.some.inj hf
        exact W.zret (v := 1) hx hb hr (by rfl) (fun t ht hW => ⟨⟨_, (n67, rs68), rfl, ⟨rfl, hrs68⟩, by rw [ht]; exact hP, hD⟩, hS.F ht⟩) hS.2.2 dX3_act_134
  have hf := ite_f hf c62
  by_cases c70 : x1.1 = 11
  · have hf := ite_t hf c70
    refine lv_tableIn (off := 129) (tgt := 135) hx hb dX3_act_6 (by rw [c70]; decide) (by rw [c70]; decide) (by rw [c70]; rfl) (by decide) ?_
    refine lv_aload_n hx hb dX3_act_135 rfl (lv_at hl 0 rfl) ?_
    obtain ⟨g71, hf⟩ := gd_e hf
    obtain ⟨x72, hx72, hf⟩ := obd_e hf
    refine sbP_Vi (As := []) (rest := []) ⟨hx, hb, hml, hown, hts⟩ (fun sz => c_X3_sets l dC dI cI cF cJ cD b L xs tA tB lr ot oh ou od ow oa ob ok os fa tr q0 q1 q2 q3 q4 q5 q6 q7 q8 rw rs x1.2 Hb F K (by rw [gdec_e g71]; exact hq) hrs x72 hx72 sz) (cwV 0 hts (g_V q491 q492 q493 q352 q456) rfl rfl rfl pc_X3_sets ⟨Nat.le_of_ble_eq_true rfl, Nat.le_of_ble_eq_true rfl⟩) 0 3 rfl rfl hK hP hD hS hA [0, 1, 2, 3, 4, 5, 6, 7, 8, 9, 10, 11, 12, 13, 14, 15, 16, 17, 18] [] rfl rfl (by decide) (by decide) (by decide) EX_blind (fun U hU hW => EX_pass hE hS (va_freeP hD hS hA [0, 1, 2, 3, 4, 5, 6, 7, 8, 9, 10, 11, 12, 13, 14, 15, 16, 17, 18] rfl) hU hW) rfl rfl hl.1 (Nat.le_of_ble_eq_true rfl) dX3_act_136 ⟨Nat.le_of_ble_eq_true rfl, Nat.le_of_ble_eq_true rfl⟩ (fun r9 u H locs hr9 hP hD hS => ?_)
    refine W.widen (k := 2) (n := 29) (Nat.le_refl _) (Nat.le_refl _) ?_
    obtain ⟨hr9, hrs74⟩ := hr9
    have hr9 := Eq.symm hr9
    subst hr9
    obtain ⟨n73, rs74⟩ := u
    have hP : va_P (dC, dI) vwCl ((wTD cI cF cJ ot oh b ou od ow oa ob n73 os x72.2.1 ++ (wHB cI cF cJ oh fa tr rw Hb ++ (wFR cI cF cJ q0 q1 q2 q3 q4 q5 q6 q7 q8 x72.2.2.1 ++ ([kOut cJ n73 rs74])))) ++ (kRows cI lr rs74)) H := hP
    have hD : va_D A ((wTD cI cF cJ ot oh b ou od ow oa ob n73 os x72.2.1 ++ (wHB cI cF cJ oh fa tr rw Hb ++ (wFR cI cF cJ q0 q1 q2 q3 q4 q5 q6 q7 q8 x72.2.2.1 ++ ([kOut cJ n73 rs74])))) ++ (kRows cI lr rs74)) := hD
    refine W.widen (k := 18) (n := 189) (Nat.le_of_ble_eq_true rfl) (Nat.le_of_ble_eq_true rfl) ?_
    obtain ⟨g75, hf⟩ := gd_e hf
    obtain rfl := Option.some.inj hf
    exact W.zret (v := x72.1) hx hb hr (nbool_n g75) (fun t ht hW => ⟨⟨_, (n73, rs74), rfl, ⟨rfl, hrs74⟩, by rw [ht]; exact hP, hD⟩, hS.F ht⟩) hS.2.2 dX3_act_139
  have hf := ite_f hf c70
  by_cases c76 : x1.1 = 12
  · have hf := ite_t hf c76
    refine lv_tableIn (off := 129) (tgt := 135) hx hb dX3_act_6 (by rw [c76]; decide) (by rw [c76]; decide) (by rw [c76]; rfl) (by decide) ?_
    refine lv_aload_n hx hb dX3_act_135 rfl (lv_at hl 0 rfl) ?_
    obtain ⟨g77, hf⟩ := gd_e hf
    obtain ⟨x78, hx78, hf⟩ := obd_e hf
    refine sbP_Vi (As := []) (rest := []) ⟨hx, hb, hml, hown, hts⟩ (fun sz => c_X3_sets l dC dI cI cF cJ cD b L xs tA tB lr ot oh ou od ow oa ob ok os fa tr q0 q1 q2 q3 q4 q5 q6 q7 q8 rw rs x1.2 Hb F K (by rw [gdec_e g77]; exact hq) hrs x78 hx78 sz) (cwV 0 hts (g_V q491 q492 q493 q352 q456) rfl rfl rfl pc_X3_sets ⟨Nat.le_of_ble_eq_true rfl, Nat.le_of_ble_eq_true rfl⟩) 0 3 rfl rfl hK hP hD hS hA [0, 1, 2, 3, 4, 5, 6, 7, 8, 9, 10, 11, 12, 13, 14, 15, 16, 17, 18] [] rfl rfl (by decide) (by decide) (by decide) EX_blind (fun U hU hW => EX_pass hE hS (va_freeP hD hS hA [0, 1, 2, 3, 4, 5, 6, 7, 8, 9, 10, 11, 12, 13, 14, 15, 16, 17, 18] rfl) hU hW) rfl rfl hl.1 (Nat.le_of_ble_eq_true rfl) dX3_act_136 ⟨Nat.le_of_ble_eq_true rfl, Nat.le_of_ble_eq_true rfl⟩ (fun r9 u H locs hr9 hP hD hS => ?_)
    refine W.widen (k := 2) (n := 29) (Nat.le_refl _) (Nat.le_refl _) ?_
    obtain ⟨hr9, hrs80⟩ := hr9
    have hr9 := Eq.symm hr9
    subst hr9
    obtain ⟨n79, rs80⟩ := u
    have hP : va_P (dC, dI) vwCl ((wTD cI cF cJ ot oh b ou od ow oa ob n79 os x78.2.1 ++ (wHB cI cF cJ oh fa tr rw Hb ++ (wFR cI cF cJ q0 q1 q2 q3 q4 q5 q6 q7 q8 x78.2.2.1 ++ ([kOut cJ n79 rs80])))) ++ (kRows cI lr rs80)) H := hP
    have hD : va_D A ((wTD cI cF cJ ot oh b ou od ow oa ob n79 os x78.2.1 ++ (wHB cI cF cJ oh fa tr rw Hb ++ (wFR cI cF cJ q0 q1 q2 q3 q4 q5 q6 q7 q8 x78.2.2.1 ++ ([kOut cJ n79 rs80])))) ++ (kRows cI lr rs80)) := hD
    refine W.widen (k := 18) (n := 189) (Nat.le_of_ble_eq_true rfl) (Nat.le_of_ble_eq_true rfl) ?_
    obtain ⟨g81, hf⟩ := gd_e hf
    obtain rfl := Option.some.inj hf
    exact W.zret (v := x78.1) hx hb hr (nbool_n g81) (fun t ht hW => ⟨⟨_, (n79, rs80), rfl, ⟨rfl, hrs80⟩, by rw [ht]; exact hP, hD⟩, hS.F ht⟩) hS.2.2 dX3_act_139
  have hf := ite_f hf c76
  by_cases c82 : x1.1 = 13
  · have hf := ite_t hf c82
    refine lv_tableIn (off := 134) (tgt := 140) hx hb dX3_act_6 (by rw [c82]; decide) (by rw [c82]; decide) (by rw [c82]; rfl) (by decide) ?_
    refine lv_aload_n hx hb dX3_act_140 rfl (lv_at hl 0 rfl) ?_
    obtain ⟨g83, hf⟩ := gd_e hf
    obtain ⟨x84, hx84, hf⟩ := obd_e hf
    refine sbP_Vi (As := []) (rest := []) ⟨hx, hb, hml, hown, hts⟩ (fun sz => c_X3_push l dC dI cI cF cJ cD b L xs tA tB lr ot oh ou od ow oa ob ok os fa tr q0 q1 q2 q3 q4 q5 q6 q7 q8 rw rs x1.2 Hb F K (by rw [gdec_e g83]; exact hq) hrs x84 hx84 sz) (cwV 0 hts (g_V q494 q495 q496 q352 q460) rfl rfl rfl pc_X3_push ⟨Nat.le_of_ble_eq_true rfl, Nat.le_of_ble_eq_true rfl⟩) 0 3 rfl rfl hK hP hD hS hA [0, 1, 2, 3, 4, 5, 6, 7, 8, 9, 10, 11, 12, 13, 14, 15, 16, 17, 18] [] rfl rfl (by decide) (by decide) (by decide) EX_blind (fun U hU hW => EX_pass hE hS (va_freeP hD hS hA [0, 1, 2, 3, 4, 5, 6, 7, 8, 9, 10, 11, 12, 13, 14, 15, 16, 17, 18] rfl) hU hW) rfl rfl hl.1 (Nat.le_of_ble_eq_true rfl) dX3_act_141 ⟨Nat.le_of_ble_eq_true rfl, Nat.le_of_ble_eq_true rfl⟩ (fun r9 u H locs hr9 hP hD hS => ?_)
    refine W.widen (k := 2) (n := 29) (Nat.le_refl _) (Nat.le_refl _) ?_
    obtain ⟨hr9, hrs86⟩ := hr9
    have hr9 := Eq.symm hr9
    subst hr9
    obtain ⟨n85, rs86⟩ := u
    have hP : va_P (dC, dI) vwCl ((wTD cI cF cJ ot oh b ou od ow oa ob n85 os x84.2.1 ++ (wHB cI cF cJ oh fa tr rw Hb ++ (wFR cI cF cJ q0 q1 q2 q3 q4 q5 q6 q7 q8 x84.2.2.1 ++ ([kOut cJ n85 rs86])))) ++ (kRows cI lr rs86)) H := hP
    have hD : va_D A ((wTD cI cF cJ ot oh b ou od ow oa ob n85 os x84.2.1 ++ (wHB cI cF cJ oh fa tr rw Hb ++ (wFR cI cF cJ q0 q1 q2 q3 q4 q5 q6 q7 q8 x84.2.2.1 ++ ([kOut cJ n85 rs86])))) ++ (kRows cI lr rs86)) := hD
    refine W.widen (k := 18) (n := 189) (Nat.le_of_ble_eq_true rfl) (Nat.le_of_ble_eq_true rfl) ?_
    obtain ⟨g87, hf⟩ := gd_e hf
    obtain rfl := Option.some.inj hf
    exact W.zret (v := x84.1) hx hb hr (nbool_n g87) (fun t ht hW => ⟨⟨_, (n85, rs86), rfl, ⟨rfl, hrs86⟩, by rw [ht]; exact hP, hD⟩, hS.F ht⟩) hS.2.2 dX3_act_144
  have hf := ite_f hf c82
  by_cases c88 : x1.1 = 14
  · have hf := ite_t hf c88
    refine lv_tableIn (off := 134) (tgt := 140) hx hb dX3_act_6 (by rw [c88]; decide) (by rw [c88]; decide) (by rw [c88]; rfl) (by decide) ?_
    refine lv_aload_n hx hb dX3_act_140 rfl (lv_at hl 0 rfl) ?_
    obtain ⟨g89, hf⟩ := gd_e hf
    obtain ⟨x90, hx90, hf⟩ := obd_e hf
    refine sbP_Vi (As := []) (rest := []) ⟨hx, hb, hml, hown, hts⟩ (fun sz => c_X3_push l dC dI cI cF cJ cD b L xs tA tB lr ot oh ou od ow oa ob ok os fa tr q0 q1 q2 q3 q4 q5 q6 q7 q8 rw rs x1.2 Hb F K (by rw [gdec_e g89]; exact hq) hrs x90 hx90 sz) (cwV 0 hts (g_V q494 q495 q496 q352 q460) rfl rfl rfl pc_X3_push ⟨Nat.le_of_ble_eq_true rfl, Nat.le_of_ble_eq_true rfl⟩) 0 3 rfl rfl hK hP hD hS hA [0, 1, 2, 3, 4, 5, 6, 7, 8, 9, 10, 11, 12, 13, 14, 15, 16, 17, 18] [] rfl rfl (by decide) (by decide) (by decide) EX_blind (fun U hU hW => EX_pass hE hS (va_freeP hD hS hA [0, 1, 2, 3, 4, 5, 6, 7, 8, 9, 10, 11, 12, 13, 14, 15, 16, 17, 18] rfl) hU hW) rfl rfl hl.1 (Nat.le_of_ble_eq_true rfl) dX3_act_141 ⟨Nat.le_of_ble_eq_true rfl, Nat.le_of_ble_eq_true rfl⟩ (fun r9 u H locs hr9 hP hD hS => ?_)
    refine W.widen (k := 2) (n := 29) (Nat.le_refl _) (Nat.le_refl _) ?_
    obtain ⟨hr9, hrs92⟩ := hr9
    have hr9 := Eq.symm hr9
    subst hr9
    obtain ⟨n91, rs92⟩ := u
    have hP : va_P (dC, dI) vwCl ((wTD cI cF cJ ot oh b ou od ow oa ob n91 os x90.2.1 ++ (wHB cI cF cJ oh fa tr rw Hb ++ (wFR cI cF cJ q0 q1 q2 q3 q4 q5 q6 q7 q8 x90.2.2.1 ++ ([kOut cJ n91 rs92])))) ++ (kRows cI lr rs92)) H := hP
    have hD : va_D A ((wTD cI cF cJ ot oh b ou od ow oa ob n91 os x90.2.1 ++ (wHB cI cF cJ oh fa tr rw Hb ++ (wFR cI cF cJ q0 q1 q2 q3 q4 q5 q6 q7 q8 x90.2.2.1 ++ ([kOut cJ n91 rs92])))) ++ (kRows cI lr rs92)) := hD
    refine W.widen (k := 18) (n := 189) (Nat.le_of_ble_eq_true rfl) (Nat.le_of_ble_eq_true rfl) ?_
    obtain ⟨g93, hf⟩ := gd_e hf
    obtain rfl := Option.some.inj hf
    exact W.zret (v := x90.1) hx hb hr (nbool_n g93) (fun t ht hW => ⟨⟨_, (n91, rs92), rfl, ⟨rfl, hrs92⟩, by rw [ht]; exact hP, hD⟩, hS.F ht⟩) hS.2.2 dX3_act_144
  have hf := ite_f hf c88
  by_cases c94 : x1.1 = 15
  · have hf := ite_t hf c94
    refine lv_tableIn (off := 139) (tgt := 145) hx hb dX3_act_6 (by rw [c94]; decide) (by rw [c94]; decide) (by rw [c94]; rfl) (by decide) ?_
    refine lv_aload_n hx hb dX3_act_145 rfl (lv_at hl 0 rfl) ?_
    obtain ⟨g95, hf⟩ := gd_e hf
    obtain ⟨x96, hx96, hf⟩ := obd_e hf
    refine sbP_Vi (As := []) (rest := []) ⟨hx, hb, hml, hown, hts⟩ (fun sz => c_X3_back l dC dI cI cF cJ cD b L xs tA tB lr ot oh ou od ow oa ob ok os fa tr q0 q1 q2 q3 q4 q5 q6 q7 q8 rw rs x1.2 Hb F K (by rw [gdec_e g95]; exact hq) hrs x96 hx96 sz) (cwV 0 hts (g_V q497 q498 q499 q352 q464) rfl rfl rfl pc_X3_back ⟨Nat.le_of_ble_eq_true rfl, Nat.le_of_ble_eq_true rfl⟩) 0 3 rfl rfl hK hP hD hS hA [0, 1, 2, 3, 4, 5, 6, 7, 8, 9, 10, 11, 12, 13, 14, 15, 16, 17, 18] [] rfl rfl (by decide) (by decide) (by decide) EX_blind (fun U hU hW => EX_pass hE hS (va_freeP hD hS hA [0, 1, 2, 3, 4, 5, 6, 7, 8, 9, 10, 11, 12, 13, 14, 15, 16, 17, 18] rfl) hU hW) rfl rfl hl.1 (Nat.le_of_ble_eq_true rfl) dX3_act_146 ⟨Nat.le_of_ble_eq_true rfl, Nat.le_of_ble_eq_true rfl⟩ (fun r9 u H locs hr9 hP hD hS => ?_)
    refine W.widen (k := 1) (n := 13) (Nat.le_refl _) (Nat.le_refl _) ?_
    obtain ⟨hr9, hrs98⟩ := hr9
    have hr9 := Eq.symm hr9
    subst hr9
    obtain ⟨n97, rs98⟩ := u
    have hP : va_P (dC, dI) vwCl ((wTD cI cF cJ ot oh b ou od ow oa ob n97 os x96.2.1 ++ (wHB cI cF cJ oh fa tr rw Hb ++ (wFR cI cF cJ q0 q1 q2 q3 q4 q5 q6 q7 q8 x96.2.2.1 ++ ([kOut cJ n97 rs98])))) ++ (kRows cI lr rs98)) H := hP
    have hD : va_D A ((wTD cI cF cJ ot oh b ou od ow oa ob n97 os x96.2.1 ++ (wHB cI cF cJ oh fa tr rw Hb ++ (wFR cI cF cJ q0 q1 q2 q3 q4 q5 q6 q7 q8 x96.2.2.1 ++ ([kOut cJ n97 rs98])))) ++ (kRows cI lr rs98)) := hD
    refine W.widen (k := 18) (n := 189) (Nat.le_of_ble_eq_true rfl) (Nat.le_of_ble_eq_true rfl) ?_
    obtain ⟨g99, hf⟩ := gd_e hf
    obtain rfl := Option.some.inj hf
    exact W.zret (v := x96.1) hx hb hr (nbool_n g99) (fun t ht hW => ⟨⟨_, (n97, rs98), rfl, ⟨rfl, hrs98⟩, by rw [ht]; exact hP, hD⟩, hS.F ht⟩) hS.2.2 dX3_act_149
  have hf := ite_f hf c94
  have nc2 := lv_neT c2 (a := 0) (by decide)
  have nc8 := lv_neT c8 (a := 1) (by decide)
  have nc14 := lv_neT c14 (a := 2) (by decide)
  have nc20 := lv_neT c20 (a := 3) (by decide)
  have nc26 := lv_neT c26 (a := 4) (by decide)
  have nc32 := lv_neT c32 (a := 5) (by decide)
  have nc38 := lv_neT c38 (a := 6) (by decide)
  have nc44 := lv_neT c44 (a := 7) (by decide)
  have nc50 := lv_neT c50 (a := 8) (by decide)
  have nc56 := lv_neT c56 (a := 9) (by decide)
  have nc62 := lv_neT c62 (a := 10) (by decide)
  have nc70 := lv_neT c70 (a := 11) (by decide)
  have nc76 := lv_neT c76 (a := 12) (by decide)
  have nc82 := lv_neT c82 (a := 13) (by decide)
  have nc88 := lv_neT c88 (a := 14) (by decide)
  have nc94 := lv_neT c94 (a := 15) (by decide)
  refine lv_tableOut (tgt := 150) hx hb dX3_act_6 (by omega) (by decide) ?_
  refine lv_aload_n hx hb dX3_act_150 rfl (lv_at hl 0 rfl) ?_
  refine lv_iconst (v := 2) hx hb dX3_act_151 (by decide) ?_
  obtain ⟨x100, hx100, hf⟩ := obd_e hf
  refine sbT_Vi (As := [.int 2]) (rest := []) ⟨hx, hb, hml, hown, hts⟩ (fun sz => c_X3_draw l dC dI cI cF cJ cD b L xs tA tB ot oh ou od ow oa ob ok os x1.2 2  x100 hx100 sz) (cwV 1 hts (g_V q349 q350 q351 q352 q339) rfl rfl rfl pc_X3_draw ⟨Nat.le_of_ble_eq_true rfl, Nat.le_of_ble_eq_true rfl⟩) 0 3 rfl rfl hK hP hD hS hA [0, 1, 2, 3, 4, 5, 6] [7, 8, 9, 10, 11, 12, 13, 14, 15, 16, 17, 18] rfl rfl (by decide) (by decide) (by decide) EX_blind (fun U hU hW => EX_pass hE hS (va_free hD.left hS hA [0, 1, 2, 3, 4, 5, 6] rfl) hU hW) rfl rfl hl.1 (Nat.le_of_ble_eq_true rfl) dX3_act_152 ⟨hkc, hks⟩ (fun r9 u H locs hr9 hP hD hS => ?_)
  have hr9 := Eq.symm hr9
  subst hr9
  have hP : va_P (dC, dI) vwCl ((wTD cI cF cJ ot oh b ou od ow oa ob ok os x100.2 ++ (wHB cI cF cJ oh fa tr rw Hb ++ (wFR cI cF cJ q0 q1 q2 q3 q4 q5 q6 q7 q8 F ++ ([kOut cJ ok rs])))) ++ (kRows cI lr rs)) H := va_P.part hP [12, 13, 14, 15, 16, 17, 18, 0, 1, 2, 3, 4, 5, 6, 7, 8, 9, 10, 11] rfl
  have hD : va_D A ((wTD cI cF cJ ot oh b ou od ow oa ob ok os x100.2 ++ (wHB cI cF cJ oh fa tr rw Hb ++ (wFR cI cF cJ q0 q1 q2 q3 q4 q5 q6 q7 q8 F ++ ([kOut cJ ok rs])))) ++ (kRows cI lr rs)) := va_D.part hD [12, 13, 14, 15, 16, 17, 18, 0, 1, 2, 3, 4, 5, 6, 7, 8, 9, 10, 11] (by decide) rfl
  refine lv_if_eq (tgt := 165) hx hb dX3_act_155 (by decide) (fun c101 => ?_) (fun c101 => ?_)
  · have hf := ite_t hf c101
    refine lv_iconst (v := 1) hx hb dX3_act_165 (by decide) ?_
    refine lv_goto (tgt := 170) hx hb dX3_act_166 (by decide) ?_
    refine W.widen (k := 18) (n := 189) (Nat.le_of_ble_eq_true rfl) (Nat.le_of_ble_eq_true rfl) ?_
    obtain rfl := Option.some.inj hf
    exact W.zret (v := 1) hx hb hr (by rfl) (fun t ht hW => ⟨⟨_, (ok, rs), rfl, ⟨rfl, hrs⟩, by rw [ht]; exact hP, hD⟩, hS.F ht⟩) hS.2.2 dX3_act_170
  · have hf := ite_f hf c101
    refine lv_aload_n hx hb dX3_act_158 rfl (lv_at hl 0 rfl) ?_
    obtain ⟨g102, hf⟩ := gd_e hf
    obtain ⟨x103, hx103, hf⟩ := obd_e hf
    refine sbT_Vi (As := []) (rest := []) ⟨hx, hb, hml, hown, hts⟩ (fun sz => c_X3_grease l dC dI cI cF cJ cD b L xs tA tB ot oh ou od ow oa ob ok os fa tr q0 q1 q2 q3 q4 q5 q6 q7 q8 rw x100.2 Hb F (by rw [gdec_e g102]; exact hq) x103 hx103 sz) (cwV 0 hts (g_V q500 q501 q502 q352 q469) rfl rfl rfl pc_X3_grease ⟨Nat.le_of_ble_eq_true rfl, Nat.le_of_ble_eq_true rfl⟩) 0 3 rfl rfl hK hP hD hS hA [0, 1, 2, 3, 4, 5, 6, 7, 8, 9, 10, 11, 12, 13, 14, 15, 16, 17] [18] rfl rfl (by decide) (by decide) (by decide) EX_blind (fun U hU hW => EX_pass hE hS (va_free hD.left hS hA [0, 1, 2, 3, 4, 5, 6, 7, 8, 9, 10, 11, 12, 13, 14, 15, 16, 17] rfl) hU hW) rfl rfl hl.1 (Nat.le_of_ble_eq_true rfl) dX3_act_159 ⟨hkc, hks⟩ (fun r9 u H locs hr9 hP hD hS => ?_)
    have hr9 := Eq.symm hr9
    subst hr9
    have hP : va_P (dC, dI) vwCl ((wTD cI cF cJ ot oh b ou od ow oa ob ok os x103.2.1 ++ (wHB cI cF cJ oh fa tr rw Hb ++ (wFR cI cF cJ q0 q1 q2 q3 q4 q5 q6 q7 q8 x103.2.2 ++ ([kOut cJ ok rs])))) ++ (kRows cI lr rs)) H := va_P.part hP [1, 2, 3, 4, 5, 6, 7, 8, 9, 10, 11, 12, 13, 14, 15, 16, 17, 18, 0] rfl
    have hD : va_D A ((wTD cI cF cJ ot oh b ou od ow oa ob ok os x103.2.1 ++ (wHB cI cF cJ oh fa tr rw Hb ++ (wFR cI cF cJ q0 q1 q2 q3 q4 q5 q6 q7 q8 x103.2.2 ++ ([kOut cJ ok rs])))) ++ (kRows cI lr rs)) := va_D.part hD [1, 2, 3, 4, 5, 6, 7, 8, 9, 10, 11, 12, 13, 14, 15, 16, 17, 18, 0] (by decide) rfl
    refine lv_if_eq (tgt := 169) hx hb dX3_act_162 (by decide) (fun c104 => ?_) (fun c104 => ?_)
    · have hf := ite_t hf c104
      refine lv_iconst (v := 0) hx hb dX3_act_169 (by decide) ?_
      refine W.widen (k := 18) (n := 189) (Nat.le_of_ble_eq_true rfl) (Nat.le_of_ble_eq_true rfl) ?_
      obtain rfl := Option.some.inj hf
      exact W.zret (v := 0) hx hb hr (by rfl) (fun t ht hW => ⟨⟨_, (ok, rs), rfl, ⟨rfl, hrs⟩, by rw [ht]; exact hP, hD⟩, hS.F ht⟩) hS.2.2 dX3_act_170
    · have hf := ite_f hf c104
      refine lv_iconst (v := 1) hx hb dX3_act_165 (by decide) ?_
      refine lv_goto (tgt := 170) hx hb dX3_act_166 (by decide) ?_
      refine W.widen (k := 18) (n := 189) (Nat.le_of_ble_eq_true rfl) (Nat.le_of_ble_eq_true rfl) ?_
      obtain rfl := Option.some.inj hf
      exact W.zret (v := 1) hx hb hr (by rfl) (fun t ht hW => ⟨⟨_, (ok, rs), rfl, ⟨rfl, hrs⟩, by rw [ht]; exact hP, hD⟩, hS.F ht⟩) hS.2.2 dX3_act_170
