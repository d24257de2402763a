-- laid by wip/p30/specs.py
noncomputable def f_L_below (p0 : Int32) (p1 : Int32) : Option (Int32) := bnd (p0 &&& 2147483647) fun (v1 : Int32) => gd (nz32 p1) <| bnd (v1 - v1 / p1 * p1) fun (v3 : Int32) => some v3
theorem ps_L_below : yL_below.cls ≠ "java/lang/invoke/MethodHandle" ∧ yL_below.cls ≠ "java/lang/invoke/VarHandle" ∧ (parseMethodDescriptor yL_below.desc).map (fun d => d.parameters.length) = some 2 := by decide +kernel
abbrev rm_L_below : Room := { frames := 1, cells := 0, slots := 0, locals := 21 }
set_option maxHeartbeats 4000000 in
set_option maxRecDepth 100000 in
theorem c_L_below (l : Launch) (dC : Nat → ClassId) (dI : Nat → Nat → Nat) (cI cF cJ cD : ClassId) (p0 : Int32) (p1 : Int32) (res : (Int32)) (hf : f_L_below p0 p1 = some res) (sz : Nat) : Met l yL_below (ws_ yL_below cL_below 2 (some .int)) rm_L_below (sbPre (dC, dI) (TY cI cF cJ cD) (([] : va_W)) E0 sz [.int p0, .int p1]) (va_Qi (fun (r : Int32) (_ : Unit) => r = res) (sbEnd (dC, dI) (fun _ => ([] : va_W)) (va_A (([] : va_W)) sz)) (va_A (([] : va_W)) sz)) 0 0 (va_A (([] : va_W)) sz) := by
  refine Met.ofW (cc := cL_below) (maxL := 2) (ret := (some .int)) (by decide) rfl ?_
  intro p e s m args below meth c s₁ B hml hv
  obtain ⟨rfl, hsz, hP, hK, hD0, hE⟩ := hv
  have hx := B.exec
  have hb := B.bytes
  have hr := B.returns
  have hts0 := atoms_spec (ws := ws_ yL_below cL_below 2 (some .int)) B.pre
  have hts := fun (w : Cond) (h : w ∈ LW) => hts0 w (List.mem_cons_of_mem _ h)
  have hown : s.vm.findClass RL = some m.cls := findClass_of_methodNamed B.named
  have hlocks := B.notSynchronized
  subst hsz
  have hD := hD0.self (sz := s.heap.size)
  generalize hAe : va_A (([] : va_W)) s.heap.size = A at hD ⊢
  have hA : ∀ q : Nat, s.heap.size ≤ q → A q := fun q h => by rw [← hAe]; exact Or.inr h
  have hS : va_S A s.heap s.heap [] := va_S.rf
  have hkc := Nat.zero_le rm_L_below.cells
  have hks := Nat.zero_le rm_L_below.slots
  have hl := lv_entry ([.int p0, .int p1]) (n := 2) (Nat.le_of_ble_eq_true rfl)
  rw [lg_entry_eq]
  generalize (lg_sl ([.int p0, .int p1]) ++ List.replicate (2 - (lg_sl ([.int p0, .int p1])).length) Slot.unset).toArray = ls at hl ⊢
  have hl : lv_has ls 2 [(0, .int p0), (1, .int p1)] := hl
  rw [f_L_below] at hf
  refine lv_iload_n hx hb dL_below_0 rfl (lv_at hl 0 rfl) ?_
  refine lv_ldc hx hb hown (hts _ q338) dL_below_1 ?_
  refine lv_iand hx hb dL_below_3 ?_
  refine lv_topi (fun v1 ev1 => ?_)
  have hf := bnd_all hf v1 ev1
  refine lv_iload_n hx hb dL_below_4 rfl (lv_at hl 1 rfl) ?_
  obtain ⟨g2, hf⟩ := gd_e hf
  refine lv_irem hx hb dL_below_5 (nz32_e g2) ?_
  refine lv_topi (fun v3 ev3 => ?_)
  have hf := bnd_all hf v3 ev3
  obtain rfl := Option.some.inj hf
  exact W.iret (v := v3) hx hb hr (fun t ht hW => ⟨⟨_, (), rfl, rfl, by rw [ht]; exact hP, hD⟩, hS.F ht⟩) hS.2.2 dL_below_6
noncomputable def f_L_cell (L : Nat) (xs : Nat → Int32) (p0 : Int32) : Option (Int32) := if (Int32.ofNat L) ≤ p0 then (bnd (p0 + 3) fun (v2 : Int32) => bnd (790386105 * v2) fun (v3 : Int32) => some v3) else (gd (gin p0 L) <| bnd (xs (Int32.toNatClampNeg p0)) fun (v5 : Int32) => some v5)
theorem ps_L_cell : yL_cell.cls ≠ "java/lang/invoke/MethodHandle" ∧ yL_cell.cls ≠ "java/lang/invoke/VarHandle" ∧ (parseMethodDescriptor yL_cell.desc).map (fun d => d.parameters.length) = some 2 := by decide +kernel
abbrev rm_L_cell : Room := { frames := 1, cells := 0, slots := 0, locals := 21 }
set_option maxHeartbeats 4000000 in
set_option maxRecDepth 100000 in
theorem c_L_cell (l : Launch) (dC : Nat → ClassId) (dI : Nat → Nat → Nat) (cI cF cJ cD : ClassId) (b L : Nat) (xs : Nat → Int32) (tA tB : Nat) (p0 : Int32) (res : (Int32)) (hf : f_L_cell L xs p0 = some res) (sz : Nat) : Met l yL_cell (ws_ yL_cell cL_cell 2 (some .int)) rm_L_cell (sbPre (dC, dI) (TY cI cF cJ cD) (([] : va_W)) (fun sz U => EX b L xs tA tB (va_A (([] : va_W)) sz) U) sz [.ref b, .int p0]) (va_Qi (fun (r : Int32) (_ : Unit) => r = res) (sbEnd (dC, dI) (fun _ => ([] : va_W)) (va_A (([] : va_W)) sz)) (va_A (([] : va_W)) sz)) 0 0 (va_A (([] : va_W)) sz) := by
  refine Met.ofW (cc := cL_cell) (maxL := 2) (ret := (some .int)) (by decide) rfl ?_
  intro p e s m args below meth c s₁ B hml hv
  obtain ⟨rfl, hsz, hP, hK, hD0, hE⟩ := hv
  have hx := B.exec
  have hb := B.bytes
  have hr := B.returns
  have hts0 := atoms_spec (ws := ws_ yL_cell cL_cell 2 (some .int)) B.pre
  have hts := fun (w : Cond) (h : w ∈ LW) => hts0 w (List.mem_cons_of_mem _ h)
  have hown : s.vm.findClass RL = some m.cls := findClass_of_methodNamed B.named
  have hlocks := B.notSynchronized
  subst hsz
  have hD := hD0.self (sz := s.heap.size)
  have hE : EX b L xs tA tB (va_A (([] : va_W)) s.heap.size) s := hE
  generalize hAe : va_A (([] : va_W)) s.heap.size = A at hD hE ⊢
  have hA : ∀ q : Nat, s.heap.size ≤ q → A q := fun q h => by rw [← hAe]; exact Or.inr h
  have hS : va_S A s.heap s.heap [] := va_S.rf
  have hkc := Nat.zero_le rm_L_cell.cells
  have hks := Nat.zero_le rm_L_cell.slots
  have hl := lv_entry ([.ref b, .int p0]) (n := 2) (Nat.le_of_ble_eq_true rfl)
  rw [lg_entry_eq]
  generalize (lg_sl ([.ref b, .int p0]) ++ List.replicate (2 - (lg_sl ([.ref b, .int p0])).length) Slot.unset).toArray = ls at hl ⊢
  have hl : lv_has ls 2 [(0, .ref b), (1, .int p0)] := hl
  rw [f_L_cell] at hf
  refine lv_iload_n hx hb dL_cell_0 rfl (lv_at hl 1 rfl) ?_
  refine lv_aload_n hx hb dL_cell_1 rfl (lv_at hl 0 rfl) ?_
  refine va_slen hx hb hE.2.2.1 hE.2.2.2.1 hE.2.2.2.2 hS dL_cell_2 ?_
  refine lv_icmp_ge (tgt := 12) hx hb dL_cell_3 (by decide) (fun c1 => ?_) (fun c1 => ?_)
  · have hf := ite_t hf c1
    refine lv_ldc hx hb hown (hts _ q336) dL_cell_12 ?_
    refine lv_iload_n hx hb dL_cell_14 rfl (lv_at hl 1 rfl) ?_
    refine lv_iconst (v := 3) hx hb dL_cell_15 (by decide) ?_
    refine lv_iadd hx hb dL_cell_16 ?_
    refine lv_topi (fun v2 ev2 => ?_)
    have hf := bnd_all hf v2 ev2
    refine lv_imul hx hb dL_cell_17 ?_
    refine lv_topi (fun v3 ev3 => ?_)
    have hf := bnd_all hf v3 ev3
    obtain rfl := Option.some.inj hf
    exact W.iret (v := v3) hx hb hr (fun t ht hW => ⟨⟨_, (), rfl, rfl, by rw [ht]; exact hP, hD⟩, hS.F ht⟩) hS.2.2 dL_cell_18
  · have hf := ite_f hf c1
    refine lv_aload_n hx hb dL_cell_6 rfl (lv_at hl 0 rfl) ?_
    refine lv_iload_n hx hb dL_cell_7 rfl (lv_at hl 1 rfl) ?_
    obtain ⟨g4, hf⟩ := gd_e hf
    refine va_sld hx hb hE.2.2.1 hE.2.2.2.1 hE.2.2.2.2 hS (gin_in g4) dL_cell_8 ?_
    refine lv_topi (fun v5 ev5 => ?_)
    have hf := bnd_all hf v5 ev5
    refine lv_goto (tgt := 18) hx hb dL_cell_9 (by decide) ?_
    obtain rfl := Option.some.inj hf
    exact W.iret (v := v5) hx hb hr (fun t ht hW => ⟨⟨_, (), rfl, rfl, by rw [ht]; exact hP, hD⟩, hS.F ht⟩) hS.2.2 dL_cell_18
noncomputable def f_X3_draw (L : Nat) (xs : Nat → Int32) (T : TD) (p0 : Int32) : Option (Int32 × TD) := bnd ((tDr T) - (tDr T) / 24 * 24) fun (v2 : Int32) => obd (f_L_cell L xs v2) fun x3 => bnd ((tDr T) / 24) fun (v5 : Int32) => bnd (v5 - v5 / 8 * 8) fun (v7 : Int32) => bnd (x3 >>> (v7 &&& 31)) fun (v8 : Int32) => bnd (439 * (tDr T)) fun (v9 : Int32) => bnd (v8 + v9) fun (v10 : Int32) => obd (f_L_below v10 p0) fun x11 => bnd ((tDr T) + 1) fun (v12 : Int32) => some (x11, (stDr T v12))
theorem pc_X3_draw : yX3_draw.cls = RX3 ∧ yX3_draw.cls ≠ "java/lang/invoke/MethodHandle" ∧ yX3_draw.cls ≠ "java/lang/invoke/VarHandle" ∧ (parseMethodDescriptor yX3_draw.desc).map (fun d => d.parameters.length) = some 1 := by decide +kernel
abbrev rm_X3_draw : Room := { frames := 2, cells := 0, slots := 0, locals := 42 }
set_option maxHeartbeats 4000000 in
set_option maxRecDepth 100000 in
theorem c_X3_draw (l : Launch) (dC : Nat → ClassId) (dI : Nat → Nat → Nat) (cI cF cJ cD : ClassId) (b L : Nat) (xs : Nat → Int32) (tA tB : Nat) (ot oh ou od ow oa ob ok os : Nat) (T : TD) (p0 : Int32) (res : (Int32 × TD)) (hf : f_X3_draw L xs T p0 = some res) (sz : Nat) : Met l yX3_draw (ws_ yX3_draw cX3_draw 3 (some .int)) rm_X3_draw (sbPre (dC, dI) (TY cI cF cJ cD) (wTD cI cF cJ ot oh b ou od ow oa ob ok os T) (fun sz U => EX b L xs tA tB (va_A (wTD cI cF cJ ot oh b ou od ow oa ob ok os T) sz) U) sz [.ref ot, .int p0]) (va_Qi (fun (r : Int32) (_ : Unit) => r = res.1) (sbEnd (dC, dI) (fun _ => wTD cI cF cJ ot oh b ou od ow oa ob ok os res.2) (va_A (wTD cI cF cJ ot oh b ou od ow oa ob ok os T) sz)) (va_A (wTD cI cF cJ ot oh b ou od ow oa ob ok os T) sz)) 0 0 (va_A (wTD cI cF cJ ot oh b ou od ow oa ob ok os T) sz) := by
  refine Met.ofW (cc := cX3_draw) (maxL := 3) (ret := (some .int)) (by decide) rfl ?_
  intro p e s m args below meth c s₁ B hml hv
  obtain ⟨rfl, hsz, hP, hK, hD0, hE⟩ := hv
  have hx := B.exec
  have hb := B.bytes
  have hr := B.returns
  have hts0 := atoms_spec (ws := ws_ yX3_draw cX3_draw 3 (some .int)) B.pre
  have hts := fun (w : Cond) (h : w ∈ LW) => hts0 w (List.mem_cons_of_mem _ h)
  have hown : s.vm.findClass RX3 = some m.cls := findClass_of_methodNamed B.named
  have hlocks := B.notSynchronized
  subst hsz
  have hD := hD0.self (sz := s.heap.size)
  have hE : EX b L xs tA tB (va_A (wTD cI cF cJ ot oh b ou od ow oa ob ok os T) s.heap.size) s := hE
  generalize hAe : va_A (wTD cI cF cJ ot oh b ou od ow oa ob ok os T) s.heap.size = A at hD hE ⊢
  have hA : ∀ q : Nat, s.heap.size ≤ q → A q := fun q h => by rw [← hAe]; exact Or.inr h
  have hS : va_S A s.heap s.heap [] := va_S.rf
  have hkc := Nat.zero_le rm_X3_draw.cells
  have hks := Nat.zero_le rm_X3_draw.slots
  have hl := lv_entry ([.ref ot, .int p0]) (n := 3) (Nat.le_of_ble_eq_true rfl)
  rw [lg_entry_eq]
  generalize (lg_sl ([.ref ot, .int p0]) ++ List.replicate (3 - (lg_sl ([.ref ot, .int p0])).length) Slot.unset).toArray = ls at hl ⊢
  have hl : lv_has ls 3 [(0, .ref ot), (1, .int p0)] := hl
  rw [f_X3_draw] at hf
  refine lv_aload_n hx hb dX3_draw_0 rfl (lv_at hl 0 rfl) ?_
  refine va_get (D := (dC, dI)) (ci := 3) (v := .ref b) (C := RX3) (T := TX3) (N := 12) hx hb hts iX3 hown hK hP 0 rfl rfl 1 (by decide) (hts _ q333) (fun _ h9 => h9) rfl dX3_draw_1 ?_
  refine lv_aload_n hx hb dX3_draw_4 rfl (lv_at hl 0 rfl) ?_
  refine va_get (D := (dC, dI)) (ci := 3) (v := .int (tDr T)) (C := RX3) (T := TX3) (N := 12) hx hb hts iX3 hown hK hP 0 rfl rfl 2 (by decide) (hts _ q334) (fun _ h9 => h9) rfl dX3_draw_5 ?_
  refine lv_bipush (v := 24) hx hb dX3_draw_8 (by decide) ?_
  refine lv_irem hx hb dX3_draw_10 (by decide) ?_
  refine lv_topi (fun v2 ev2 => ?_)
  have hf := bnd_all hf v2 ev2
  obtain ⟨x3, hx3, hf⟩ := obd_e hf
  refine sb_Ni (As := [.ref b, .int v2]) (rest := []) ⟨hx, hb, hml, hown, hts⟩ (fun sz => c_L_cell l dC dI cI cF cJ cD b L xs tA tB  v2  x3 hx3 sz) ⟨va_cnB 2 hts (g_ws q335) rfl rfl rfl hE.2.1.2.2.1 (hts _ q341) ps_L_cell ⟨Nat.le_of_ble_eq_true rfl, Nat.le_of_ble_eq_true rfl⟩, hts _ q340, trivial⟩  hK hP hD hS hA [] [0, 1, 2, 3, 4, 5, 6] rfl rfl (by decide) (by decide) (by decide) EX_blind (fun U hU hW => EX_pass hE hS (va_free hD hS hA [] rfl) hU hW) rfl rfl hl.1 (Nat.le_of_ble_eq_true rfl) dX3_draw_11 ⟨hkc, hks⟩ (fun r9 u H locs hr9 hP hD hS => ?_)
  have hr9 := Eq.symm hr9
  subst hr9
  have hP : va_P (dC, dI) vwCl (wTD cI cF cJ ot oh b ou od ow oa ob ok os T) H := hP
  have hD : va_D A (wTD cI cF cJ ot oh b ou od ow oa ob ok os T) := hD
  refine lv_aload_n hx hb dX3_draw_14 rfl (lv_at hl 0 rfl) ?_
  refine va_get (D := (dC, dI)) (ci := 3) (v := .int (tDr T)) (C := RX3) (T := TX3) (N := 12) hx hb hts iX3 hown hK hP 0 rfl rfl 2 (by decide) (hts _ q334) (fun _ h9 => h9) rfl dX3_draw_15 ?_
  refine lv_bipush (v := 24) hx hb dX3_draw_18 (by decide) ?_
  refine lv_idiv hx hb dX3_draw_20 (by decide) ?_
  refine lv_topi (fun v5 ev5 => ?_)
  have hf := bnd_all hf v5 ev5
  refine lv_bipush (v := 8) hx hb dX3_draw_21 (by decide) ?_
  refine lv_irem hx hb dX3_draw_23 (by decide) ?_
  refine lv_topi (fun v7 ev7 => ?_)
  have hf := bnd_all hf v7 ev7
  refine lv_ishr hx hb dX3_draw_24 ?_
  refine lv_topi (fun v8 ev8 => ?_)
  have hf := bnd_all hf v8 ev8
  refine lv_sipush (v := 439) hx hb dX3_draw_25 (by decide) ?_
  refine lv_aload_n hx hb dX3_draw_28 rfl (lv_at hl 0 rfl) ?_
  refine va_get (D := (dC, dI)) (ci := 3) (v := .int (tDr T)) (C := RX3) (T := TX3) (N := 12) hx hb hts iX3 hown hK hP 0 rfl rfl 2 (by decide) (hts _ q334) (fun _ h9 => h9) rfl dX3_draw_29 ?_
  refine lv_imul hx hb dX3_draw_32 ?_
  refine lv_topi (fun v9 ev9 => ?_)
  have hf := bnd_all hf v9 ev9
  refine lv_iadd hx hb dX3_draw_33 ?_
  refine lv_topi (fun v10 ev10 => ?_)
  have hf := bnd_all hf v10 ev10
  refine lv_iload_n hx hb dX3_draw_34 rfl (lv_at hl 1 rfl) ?_
  obtain ⟨x11, hx11, hf⟩ := obd_e hf
  refine sb_Ni (As := [.int v10, .int p0]) (rest := []) ⟨hx, hb, hml, hown, hts⟩ (fun sz => c_L_below l dC dI cI cF cJ cD  v10 p0  x11 hx11 sz) ⟨va_cnB 2 hts (g_ws q337) rfl rfl rfl hE.2.1.2.2.2.1 (hts _ q341) ps_L_below ⟨Nat.le_of_ble_eq_true rfl, Nat.le_of_ble_eq_true rfl⟩, hts _ q342, trivial⟩  hK hP hD hS hA [] [0, 1, 2, 3, 4, 5, 6] rfl rfl (by decide) (by decide) (by decide) (fun _ _ _ _ h => h) (fun _ _ _ => trivial) rfl rfl hl.1 (Nat.le_of_ble_eq_true rfl) dX3_draw_35 ⟨hkc, hks⟩ (fun r9 u H locs hr9 hP hD hS => ?_)
  have hr9 := Eq.symm hr9
  subst hr9
  have hP : va_P (dC, dI) vwCl (wTD cI cF cJ ot oh b ou od ow oa ob ok os T) H := hP
  have hD : va_D A (wTD cI cF cJ ot oh b ou od ow oa ob ok os T) := hD
  refine lv_istore_n (lv' := [(2, .int x11), (0, .ref ot), (1, .int p0)]) hx hb dX3_draw_38 rfl hl (by decide) rfl (fun ls hl => ?_)
  refine lv_aload_n hx hb dX3_draw_39 rfl (lv_at hl 1 rfl) ?_
  refine lv_dup hx hb dX3_draw_40 rfl ?_
  refine va_get (D := (dC, dI)) (ci := 3) (v := .int (tDr T)) (C := RX3) (T := TX3) (N := 12) hx hb hts iX3 hown hK hP 0 rfl rfl 2 (by decide) (hts _ q334) (fun _ h9 => h9) rfl dX3_draw_41 ?_
  refine lv_iconst (v := 1) hx hb dX3_draw_44 (by decide) ?_
  refine lv_iadd hx hb dX3_draw_45 ?_
  refine lv_topi (fun v12 ev12 => ?_)
  have hf := bnd_all hf v12 ev12
  refine va_put (D := (dC, dI)) (ci := 3) (v := .int v12) (ty := .int) (C := RX3) (T := TX3) (N := 12) hx hb hts iX3 tyX3 tyX3_ok nmX3 hown hK hP hD hS 0 rfl rfl 2 (by decide) (hts _ q334) (fun _ h9 => h9) rfl (by decide +kernel) rfl rfl (Nat.le_of_ble_eq_true rfl) dX3_draw_46 (fun H locs hP hD hS => ?_)
  have hP : va_P (dC, dI) vwCl (wTD cI cF cJ ot oh b ou od ow oa ob ok os (stDr T v12)) H := hP
  have hD : va_D A (wTD cI cF cJ ot oh b ou od ow oa ob ok os (stDr T v12)) := hD
  refine lv_iload_n hx hb dX3_draw_49 rfl (lv_at hl 0 rfl) ?_
  obtain rfl := Option.some.inj hf
  exact W.iret (v := x11) hx hb hr (fun t ht hW => ⟨⟨_, (), rfl, rfl, by rw [ht]; exact hP, hD⟩, hS.F ht⟩) hS.2.2 dX3_draw_50
noncomputable def f_X3_ups (T : TD) : Option (Int32) := if (tKi T) = 0 then (some 1) else (if (tKi T) = 1 then (some 2) else (some 0))
theorem pc_X3_ups : yX3_ups.cls = RX3 ∧ yX3_ups.cls ≠ "java/lang/invoke/MethodHandle" ∧ yX3_ups.cls ≠ "java/lang/invoke/VarHandle" ∧ (parseMethodDescriptor yX3_ups.desc).map (fun d => d.parameters.length) = some 0 := by decide +kernel
abbrev rm_X3_ups : Room := { frames := 1, cells := 0, slots := 0, locals := 21 }
set_option maxHeartbeats 4000000 in
set_option maxRecDepth 100000 in
theorem c_X3_ups (l : Launch) (dC : Nat → ClassId) (dI : Nat → Nat → Nat) (cI cF cJ cD : ClassId) (ot oh b ou od ow oa ob ok os : Nat) (T : TD) (res : (Int32)) (hf : f_X3_ups T = some res) (sz : Nat) : Met l yX3_ups (ws_ yX3_ups cX3_ups 1 (some .int)) rm_X3_ups (sbPre (dC, dI) (TY cI cF cJ cD) (wTD cI cF cJ ot oh b ou od ow oa ob ok os T) E0 sz [.ref ot]) (va_Qi (fun (r : Int32) (_ : Unit) => r = res) (sbEnd (dC, dI) (fun _ => wTD cI cF cJ ot oh b ou od ow oa ob ok os T) (va_A (wTD cI cF cJ ot oh b ou od ow oa ob ok os T) sz)) (va_A (wTD cI cF cJ ot oh b ou od ow oa ob ok os T) sz)) 0 0 (va_A (wTD cI cF cJ ot oh b ou od ow oa ob ok os T) sz) := by
  refine Met.ofW (cc := cX3_ups) (maxL := 1) (ret := (some .int)) (by decide) rfl ?_
  intro p e s m args below meth c s₁ B hml hv
  obtain ⟨rfl, hsz, hP, hK, hD0, hE⟩ := hv
  have hx := B.exec
  have hb := B.bytes
  have hr := B.returns
  have hts0 := atoms_spec (ws := ws_ yX3_ups cX3_ups 1 (some .int)) B.pre
  have hts := fun (w : Cond) (h : w ∈ LW) => hts0 w (List.mem_cons_of_mem _ h)
  have hown : s.vm.findClass RX3 = some m.cls := findClass_of_methodNamed B.named
  have hlocks := B.notSynchronized
  subst hsz
  have hD := hD0.self (sz := s.heap.size)
  generalize hAe : va_A (wTD cI cF cJ ot oh b ou od ow oa ob ok os T) s.heap.size = A at hD ⊢
  have hA : ∀ q : Nat, s.heap.size ≤ q → A q := fun q h => by rw [← hAe]; exact Or.inr h
  have hS : va_S A s.heap s.heap [] := va_S.rf
  have hkc := Nat.zero_le rm_X3_ups.cells
  have hks := Nat.zero_le rm_X3_ups.slots
  have hl := lv_entry ([.ref ot]) (n := 1) (Nat.le_of_ble_eq_true rfl)
  rw [lg_entry_eq]
  generalize (lg_sl ([.ref ot]) ++ List.replicate (1 - (lg_sl ([.ref ot])).length) Slot.unset).toArray = ls at hl ⊢
  have hl : lv_has ls 1 [(0, .ref ot)] := hl
  rw [f_X3_ups] at hf
  refine lv_aload_n hx hb dX3_ups_0 rfl (lv_at hl 0 rfl) ?_
  refine va_get (D := (dC, dI)) (ci := 3) (v := .int (tKi T)) (C := RX3) (T := TX3) (N := 12) hx hb hts iX3 hown hK hP 0 rfl rfl 4 (by decide) (hts _ q344) (fun _ h9 => h9) rfl dX3_ups_1 ?_
  refine lv_if_ne (tgt := 11) hx hb dX3_ups_4 (by decide) (fun c1 => ?_) (fun c1 => ?_)
  · have hf := ite_f hf c1
    refine lv_aload_n hx hb dX3_ups_11 rfl (lv_at hl 0 rfl) ?_
    refine va_get (D := (dC, dI)) (ci := 3) (v := .int (tKi T)) (C := RX3) (T := TX3) (N := 12) hx hb hts iX3 hown hK hP 0 rfl rfl 4 (by decide) (hts _ q344) (fun _ h9 => h9) rfl dX3_ups_12 ?_
    refine lv_iconst (v := 1) hx hb dX3_ups_15 (by decide) ?_
    refine lv_icmp_ne (tgt := 23) hx hb dX3_ups_16 (by decide) (fun c2 => ?_) (fun c2 => ?_)
    · have hf := ite_f hf c2
      refine lv_iconst (v := 0) hx hb dX3_ups_23 (by decide) ?_
      obtain rfl := Option.some.inj hf
      exact W.iret (v := 0) hx hb hr (fun t ht hW => ⟨⟨_, (), rfl, rfl, by rw [ht]; exact hP, hD⟩, hS.F ht⟩) hS.2.2 dX3_ups_24
    · have hf := ite_t hf c2
      refine lv_iconst (v := 2) hx hb dX3_ups_19 (by decide) ?_
      refine lv_goto (tgt := 24) hx hb dX3_ups_20 (by decide) ?_
      obtain rfl := Option.some.inj hf
      exact W.iret (v := 2) hx hb hr (fun t ht hW => ⟨⟨_, (), rfl, rfl, by rw [ht]; exact hP, hD⟩, hS.F ht⟩) hS.2.2 dX3_ups_24
  · have hf := ite_t hf c1
    refine lv_iconst (v := 1) hx hb dX3_ups_7 (by decide) ?_
    refine lv_goto (tgt := 24) hx hb dX3_ups_8 (by decide) ?_
    obtain rfl := Option.some.inj hf
    exact W.iret (v := 1) hx hb hr (fun t ht hW => ⟨⟨_, (), rfl, rfl, by rw [ht]; exact hP, hD⟩, hS.F ht⟩) hS.2.2 dX3_ups_24
noncomputable def f_X3_downs (T : TD) : Option (Int32) := if (tKi T) = 0 then (some 4) else (if (tKi T) = 1 then (some 5) else (some 10))
theorem pc_X3_downs : yX3_downs.cls = RX3 ∧ yX3_downs.cls ≠ "java/lang/invoke/MethodHandle" ∧ yX3_downs.cls ≠ "java/lang/invoke/VarHandle" ∧ (parseMethodDescriptor yX3_downs.desc).map (fun d => d.parameters.length) = some 0 := by decide +kernel
abbrev rm_X3_downs : Room := { frames := 1, cells := 0, slots := 0, locals := 21 }
set_option maxHeartbeats 4000000 in
set_option maxRecDepth 100000 in
theorem c_X3_downs (l : Launch) (dC : Nat → ClassId) (dI : Nat → Nat → Nat) (cI cF cJ cD : ClassId) (ot oh b ou od ow oa ob ok os : Nat) (T : TD) (res : (Int32)) (hf : f_X3_downs T = some res) (sz : Nat) : Met l yX3_downs (ws_ yX3_downs cX3_downs 1 (some .int)) rm_X3_downs (sbPre (dC, dI) (TY cI cF cJ cD) (wTD cI cF cJ ot oh b ou od ow oa ob ok os T) E0 sz [.ref ot]) (va_Qi (fun (r : Int32) (_ : Unit) => r = res) (sbEnd (dC, dI) (fun _ => wTD cI cF cJ ot oh b ou od ow oa ob ok os T) (va_A (wTD cI cF cJ ot oh b ou od ow oa ob ok os T) sz)) (va_A (wTD cI cF cJ ot oh b ou od ow oa ob ok os T) sz)) 0 0 (va_A (wTD cI cF cJ ot oh b ou od ow oa ob ok os T) sz) := by
  refine Met.ofW (cc := cX3_downs) (maxL := 1) (ret := (some .int)) (by decide) rfl ?_
  intro p e s m args below meth c s₁ B hml hv
  obtain ⟨rfl, hsz, hP, hK, hD0, hE⟩ := hv
  have hx := B.exec
  have hb := B.bytes
  have hr := B.returns
  have hts0 := atoms_spec (ws := ws_ yX3_downs cX3_downs 1 (some .int)) B.pre
  have hts := fun (w : Cond) (h : w ∈ LW) => hts0 w (List.mem_cons_of_mem _ h)
  have hown : s.vm.findClass RX3 = some m.cls := findClass_of_methodNamed B.named
  have hlocks := B.notSynchronized
  subst hsz
  have hD := hD0.self (sz := s.heap.size)
  generalize hAe : va_A (wTD cI cF cJ ot oh b ou od ow oa ob ok os T) s.heap.size = A at hD ⊢
  have hA : ∀ q : Nat, s.heap.size ≤ q → A q := fun q h => by rw [← hAe]; exact Or.inr h
  have hS : va_S A s.heap s.heap [] := va_S.rf
  have hkc := Nat.zero_le rm_X3_downs.cells
  have hks := Nat.zero_le rm_X3_downs.slots
  have hl := lv_entry ([.ref ot]) (n := 1) (Nat.le_of_ble_eq_true rfl)
  rw [lg_entry_eq]
  generalize (lg_sl ([.ref ot]) ++ List.replicate (1 - (lg_sl ([.ref ot])).length) Slot.unset).toArray = ls at hl ⊢
  have hl : lv_has ls 1 [(0, .ref ot)] := hl
  rw [f_X3_downs] at hf
  refine lv_aload_n hx hb dX3_downs_0 rfl (lv_at hl 0 rfl) ?_
  refine va_get (D := (dC, dI)) (ci := 3) (v := .int (tKi T)) (C := RX3) (T := TX3) (N := 12) hx hb hts iX3 hown hK hP 0 rfl rfl 4 (by decide) (hts _ q344) (fun _ h9 => h9) rfl dX3_downs_1 ?_
  refine lv_if_ne (tgt := 11) hx hb dX3_downs_4 (by decide) (fun c1 => ?_) (fun c1 => ?_)
  · have hf := ite_f hf c1
    refine lv_aload_n hx hb dX3_downs_11 rfl (lv_at hl 0 rfl) ?_
    refine va_get (D := (dC, dI)) (ci := 3) (v := .int (tKi T)) (C := RX3) (T := TX3) (N := 12) hx hb hts iX3 hown hK hP 0 rfl rfl 4 (by decide) (hts _ q344) (fun _ h9 => h9) rfl dX3_downs_12 ?_
    refine lv_iconst (v := 1) hx hb dX3_downs_15 (by decide) ?_
    refine lv_icmp_ne (tgt := 23) hx hb dX3_downs_16 (by decide) (fun c2 => ?_) (fun c2 => ?_)
    · have hf := ite_f hf c2
      refine lv_bipush (v := 10) hx hb dX3_downs_23 (by decide) ?_
      obtain rfl := Option.some.inj hf
      exact W.iret (v := 10) hx hb hr (fun t ht hW => ⟨⟨_, (), rfl, rfl, by rw [ht]; exact hP, hD⟩, hS.F ht⟩) hS.2.2 dX3_downs_25
    · have hf := ite_t hf c2
      refine lv_iconst (v := 5) hx hb dX3_downs_19 (by decide) ?_
      refine lv_goto (tgt := 25) hx hb dX3_downs_20 (by decide) ?_
      obtain rfl := Option.some.inj hf
      exact W.iret (v := 5) hx hb hr (fun t ht hW => ⟨⟨_, (), rfl, rfl, by rw [ht]; exact hP, hD⟩, hS.F ht⟩) hS.2.2 dX3_downs_25
  · have hf := ite_t hf c1
    refine lv_iconst (v := 4) hx hb dX3_downs_7 (by decide) ?_
    refine lv_goto (tgt := 25) hx hb dX3_downs_8 (by decide) ?_
    obtain rfl := Option.some.inj hf
    exact W.iret (v := 4) hx hb hr (fun t ht hW => ⟨⟨_, (), rfl, rfl, by rw [ht]; exact hP, hD⟩, hS.F ht⟩) hS.2.2 dX3_downs_25
noncomputable def f_X3_most (T : TD) : Option (Int32) := obd (f_X3_ups T) fun x1 => bnd (x1 * 5) fun (v2 : Int32) => obd (f_X3_downs T) fun x3 => bnd (v2 + x3) fun (v4 : Int32) => some v4
theorem pc_X3_most : yX3_most.cls = RX3 ∧ yX3_most.cls ≠ "java/lang/invoke/MethodHandle" ∧ yX3_most.cls ≠ "java/lang/invoke/VarHandle" ∧ (parseMethodDescriptor yX3_most.desc).map (fun d => d.parameters.length) = some 0 := by decide +kernel
abbrev rm_X3_most : Room := { frames := 2, cells := 0, slots := 0, locals := 41 }
set_option maxHeartbeats 4000000 in
set_option maxRecDepth 100000 in
theorem c_X3_most (l : Launch) (dC : Nat → ClassId) (dI : Nat → Nat → Nat) (cI cF cJ cD : ClassId) (ot oh b ou od ow oa ob ok os : Nat) (T : TD) (res : (Int32)) (hf : f_X3_most T = some res) (sz : Nat) : Met l yX3_most (ws_ yX3_most cX3_most 1 (some .int)) rm_X3_most (sbPre (dC, dI) (TY cI cF cJ cD) (wTD cI cF cJ ot oh b ou od ow oa ob ok os T) E0 sz [.ref ot]) (va_Qi (fun (r : Int32) (_ : Unit) => r = res) (sbEnd (dC, dI) (fun _ => wTD cI cF cJ ot oh b ou od ow oa ob ok os T) (va_A (wTD cI cF cJ ot oh b ou od ow oa ob ok os T) sz)) (va_A (wTD cI cF cJ ot oh b ou od ow oa ob ok os T) sz)) 0 0 (va_A (wTD cI cF cJ ot oh b ou od ow oa ob ok os T) sz) := by
  refine Met.ofW (cc := cX3_most) (maxL := 1) (ret := (some .int)) (by decide) rfl ?_
  intro p e s m args below meth c s₁ B hml hv
  obtain ⟨rfl, hsz, hP, hK, hD0, hE⟩ := hv
  have hx := B.exec
  have hb := B.bytes
  have hr := B.returns
  have hts0 := atoms_spec (ws := ws_ yX3_most cX3_most 1 (some .int)) B.pre
  have hts := fun (w : Cond) (h : w ∈ LW) => hts0 w (List.mem_cons_of_mem _ h)
  have hown : s.vm.findClass RX3 = some m.cls := findClass_of_methodNamed B.named
  have hlocks := B.notSynchronized
  subst hsz
  have hD := hD0.self (sz := s.heap.size)
  generalize hAe : va_A (wTD cI cF cJ ot oh b ou od ow oa ob ok os T) s.heap.size = A at hD ⊢
  have hA : ∀ q : Nat, s.heap.size ≤ q → A q := fun q h => by rw [← hAe]; exact Or.inr h
  have hS : va_S A s.heap s.heap [] := va_S.rf
  have hkc := Nat.zero_le rm_X3_most.cells
  have hks := Nat.zero_le rm_X3_most.slots
  have hl := lv_entry ([.ref ot]) (n := 1) (Nat.le_of_ble_eq_true rfl)
  rw [lg_entry_eq]
  generalize (lg_sl ([.ref ot]) ++ List.replicate (1 - (lg_sl ([.ref ot])).length) Slot.unset).toArray = ls at hl ⊢
  have hl : lv_has ls 1 [(0, .ref ot)] := hl
  rw [f_X3_most] at hf
  refine lv_aload_n hx hb dX3_most_0 rfl (lv_at hl 0 rfl) ?_
  obtain ⟨x1, hx1, hf⟩ := obd_e hf
  refine sb_Vi (As := []) (rest := []) ⟨hx, hb, hml, hown, hts⟩ (fun sz => c_X3_ups l dC dI cI cF cJ cD ot oh b ou od ow oa ob ok os T  x1 hx1 sz) (cwV 0 hts (g_V q360 q361 q362 q352 q357) rfl rfl rfl pc_X3_ups ⟨Nat.le_of_ble_eq_true rfl, Nat.le_of_ble_eq_true rfl⟩) 0 3 rfl rfl hK hP hD hS hA [0, 1, 2, 3, 4, 5, 6] [] rfl rfl (by decide) (by decide) (by decide) (fun _ _ _ _ h => h) (fun _ _ _ => trivial) rfl rfl hl.1 (Nat.le_of_ble_eq_true rfl) dX3_most_1 ⟨hkc, hks⟩ (fun r9 u H locs hr9 hP hD hS => ?_)
  have hr9 := Eq.symm hr9
  subst hr9
  have hP : va_P (dC, dI) vwCl (wTD cI cF cJ ot oh b ou od ow oa ob ok os T) H := hP
  have hD : va_D A (wTD cI cF cJ ot oh b ou od ow oa ob ok os T) := hD
  refine lv_iconst (v := 5) hx hb dX3_most_4 (by decide) ?_
  refine lv_imul hx hb dX3_most_5 ?_
  refine lv_topi (fun v2 ev2 => ?_)
  have hf := bnd_all hf v2 ev2
  refine lv_aload_n hx hb dX3_most_6 rfl (lv_at hl 0 rfl) ?_
  obtain ⟨x3, hx3, hf⟩ := obd_e hf
  refine sb_Vi (As := []) (rest := [.int v2]) ⟨hx, hb, hml, hown, hts⟩ (fun sz => c_X3_downs l dC dI cI cF cJ cD ot oh b ou od ow oa ob ok os T  x3 hx3 sz) (cwV 0 hts (g_V q363 q364 q365 q352 q358) rfl rfl rfl pc_X3_downs ⟨Nat.le_of_ble_eq_true rfl, Nat.le_of_ble_eq_true rfl⟩) 0 3 rfl rfl hK hP hD hS hA [0, 1, 2, 3, 4, 5, 6] [] rfl rfl (by decide) (by decide) (by decide) (fun _ _ _ _ h => h) (fun _ _ _ => trivial) rfl rfl hl.1 (Nat.le_of_ble_eq_true rfl) dX3_most_7 ⟨hkc, hks⟩ (fun r9 u H locs hr9 hP hD hS => ?_)
  have hr9 := Eq.symm hr9
  subst hr9
  have hP : va_P (dC, dI) vwCl (wTD cI cF cJ ot oh b ou od ow oa ob ok os T) H := hP
  have hD : va_D A (wTD cI cF cJ ot oh b ou od ow oa ob ok os T) := hD
  refine lv_iadd hx hb dX3_most_10 ?_
  refine lv_topi (fun v4 ev4 => ?_)
  have hf := bnd_all hf v4 ev4
  obtain rfl := Option.some.inj hf
  exact W.iret (v := v4) hx hb hr (fun t ht hW => ⟨⟨_, (), rfl, rfl, by rw [ht]; exact hP, hD⟩, hS.F ht⟩) hS.2.2 dX3_most_11
noncomputable def f_X3_value (T : TD) (p0 : Int32) : Option (Int32) := gd (gin p0 (tN T)) <| bnd ((tUp T) (Int32.toNatClampNeg p0)) fun (v2 : Int32) => bnd (v2 * 5) fun (v3 : Int32) => gd (gin p0 (tN T)) <| bnd ((tDn T) (Int32.toNatClampNeg p0)) fun (v5 : Int32) => bnd (v3 + v5) fun (v6 : Int32) => some v6
theorem pc_X3_value : yX3_value.cls = RX3 ∧ yX3_value.cls ≠ "java/lang/invoke/MethodHandle" ∧ yX3_value.cls ≠ "java/lang/invoke/VarHandle" ∧ (parseMethodDescriptor yX3_value.desc).map (fun d => d.parameters.length) = some 1 := by decide +kernel
abbrev rm_X3_value : Room := { frames := 1, cells := 0, slots := 0, locals := 21 }
set_option maxHeartbeats 4000000 in
set_option maxRecDepth 100000 in
theorem c_X3_value (l : Launch) (dC : Nat → ClassId) (dI : Nat → Nat → Nat) (cI cF cJ cD : ClassId) (ot oh b ou od ow oa ob ok os : Nat) (T : TD) (p0 : Int32) (res : (Int32)) (hf : f_X3_value T p0 = some res) (sz : Nat) : Met l yX3_value (ws_ yX3_value cX3_value 2 (some .int)) rm_X3_value (sbPre (dC, dI) (TY cI cF cJ cD) (wTD cI cF cJ ot oh b ou od ow oa ob ok os T) E0 sz [.ref ot, .int p0]) (va_Qi (fun (r : Int32) (_ : Unit) => r = res) (sbEnd (dC, dI) (fun _ => wTD cI cF cJ ot oh b ou od ow oa ob ok os T) (va_A (wTD cI cF cJ ot oh b ou od ow oa ob ok os T) sz)) (va_A (wTD cI cF cJ ot oh b ou od ow oa ob ok os T) sz)) 0 0 (va_A (wTD cI cF cJ ot oh b ou od ow oa ob ok os T) sz) := by
  refine Met.ofW (cc := cX3_value) (maxL := 2) (ret := (some .int)) (by decide) rfl ?_
  intro p e s m args below meth c s₁ B hml hv
  obtain ⟨rfl, hsz, hP, hK, hD0, hE⟩ := hv
  have hx := B.exec
  have hb := B.bytes
  have hr := B.returns
  have hts0 := atoms_spec (ws := ws_ yX3_value cX3_value 2 (some .int)) B.pre
  have hts := fun (w : Cond) (h : w ∈ LW) => hts0 w (List.mem_cons_of_mem _ h)
  have hown : s.vm.findClass RX3 = some m.cls := findClass_of_methodNamed B.named
  have hlocks := B.notSynchronized
  subst hsz
  have hD := hD0.self (sz := s.heap.size)
  generalize hAe : va_A (wTD cI cF cJ ot oh b ou od ow oa ob ok os T) s.heap.size = A at hD ⊢
  have hA : ∀ q : Nat, s.heap.size ≤ q → A q := fun q h => by rw [← hAe]; exact Or.inr h
  have hS : va_S A s.heap s.heap [] := va_S.rf
  have hkc := Nat.zero_le rm_X3_value.cells
  have hks := Nat.zero_le rm_X3_value.slots
  have hl := lv_entry ([.ref ot, .int p0]) (n := 2) (Nat.le_of_ble_eq_true rfl)
  rw [lg_entry_eq]
  generalize (lg_sl ([.ref ot, .int p0]) ++ List.replicate (2 - (lg_sl ([.ref ot, .int p0])).length) Slot.unset).toArray = ls at hl ⊢
  have hl : lv_has ls 2 [(0, .ref ot), (1, .int p0)] := hl
  rw [f_X3_value] at hf
  refine lv_aload_n hx hb dX3_value_0 rfl (lv_at hl 0 rfl) ?_
  refine va_get (D := (dC, dI)) (ci := 3) (v := .ref ou) (C := RX3) (T := TX3) (N := 12) hx hb hts iX3 hown hK hP 0 rfl rfl 5 (by decide) (hts _ q345) (fun _ h9 => h9) rfl dX3_value_1 ?_
  refine lv_iload_n hx hb dX3_value_4 rfl (lv_at hl 1 rfl) ?_
  obtain ⟨g1, hf⟩ := gd_e hf
  refine va_iald hx hb hK hP 1 0 rfl rfl (gin_in g1) dX3_value_5 ?_
  refine lv_topi (fun v2 ev2 => ?_)
  have hf := bnd_all hf v2 ev2
  refine lv_iconst (v := 5) hx hb dX3_value_6 (by decide) ?_
  refine lv_imul hx hb dX3_value_7 ?_
  refine lv_topi (fun v3 ev3 => ?_)
  have hf := bnd_all hf v3 ev3
  refine lv_aload_n hx hb dX3_value_8 rfl (lv_at hl 0 rfl) ?_
  refine va_get (D := (dC, dI)) (ci := 3) (v := .ref od) (C := RX3) (T := TX3) (N := 12) hx hb hts iX3 hown hK hP 0 rfl rfl 6 (by decide) (hts _ q346) (fun _ h9 => h9) rfl dX3_value_9 ?_
  refine lv_iload_n hx hb dX3_value_12 rfl (lv_at hl 1 rfl) ?_
  obtain ⟨g4, hf⟩ := gd_e hf
  refine va_iald hx hb hK hP 2 0 rfl rfl (gin_in g4) dX3_value_13 ?_
  refine lv_topi (fun v5 ev5 => ?_)
  have hf := bnd_all hf v5 ev5
  refine lv_iadd hx hb dX3_value_14 ?_
  refine lv_topi (fun v6 ev6 => ?_)
  have hf := bnd_all hf v6 ev6
  obtain rfl := Option.some.inj hf
  exact W.iret (v := v6) hx hb hr (fun t ht hW => ⟨⟨_, (), rfl, rfl, by rw [ht]; exact hP, hD⟩, hS.F ht⟩) hS.2.2 dX3_value_15
noncomputable def l_X3_total_7 (R0 : TD) (k : Int64 → Int64 → Int32 → Option (Int64)) : Nat → Int64 → Int64 → Int32 → Option (Int64)
  | 0, _, _, _ => none
  | n + 1, a1, a2, a3 => if (nI (tN R0)) ≤ a3 then (k a1 a2 a3) else (obd (f_X3_value R0 a3) fun x5 => bnd (x5.toInt64) fun (v6 : Int64) => bnd (a2 * v6) fun (v7 : Int64) => bnd (a1 + v7) fun (v8 : Int64) => bnd (a3 + 1) fun (v9 : Int32) => bnd (a2 * 10) fun (v10 : Int64) => l_X3_total_7 R0 k n v8 v10 v9)
noncomputable def f_X3_total (T : TD) : Option (Int64) := l_X3_total_7 T (fun (a24 : Int64) (a25 : Int64) (a26 : Int32) => some a24) 16 0 1 0
theorem pc_X3_total : yX3_total.cls = RX3 ∧ yX3_total.cls ≠ "java/lang/invoke/MethodHandle" ∧ yX3_total.cls ≠ "java/lang/invoke/VarHandle" ∧ (parseMethodDescriptor yX3_total.desc).map (fun d => d.parameters.length) = some 0 := by decide +kernel
abbrev rm_X3_total : Room := { frames := 2, cells := 0, slots := 0, locals := 42 }
set_option maxHeartbeats 4000000 in
set_option maxRecDepth 100000 in
theorem c_X3_total (l : Launch) (dC : Nat → ClassId) (dI : Nat → Nat → Nat) (cI cF cJ cD : ClassId) (ot oh b ou od ow oa ob ok os : Nat) (T : TD) (res : (Int64)) (hf : f_X3_total T = some res) (sz : Nat) : Met l yX3_total (ws_ yX3_total cX3_total 6 (some .long)) rm_X3_total (sbPre (dC, dI) (TY cI cF cJ cD) (wTD cI cF cJ ot oh b ou od ow oa ob ok os T) E0 sz [.ref ot]) (va_Ql (fun (r : Int64) (_ : Unit) => r = res) (sbEnd (dC, dI) (fun _ => wTD cI cF cJ ot oh b ou od ow oa ob ok os T) (va_A (wTD cI cF cJ ot oh b ou od ow oa ob ok os T) sz)) (va_A (wTD cI cF cJ ot oh b ou od ow oa ob ok os T) sz)) 0 0 (va_A (wTD cI cF cJ ot oh b ou od ow oa ob ok os T) sz) := by
  refine Met.ofW (cc := cX3_total) (maxL := 6) (ret := (some .long)) (by decide) rfl ?_
  intro p e s m args below meth c s₁ B hml hv
  obtain ⟨rfl, hsz, hP, hK, hD0, hE⟩ := hv
  have hx := B.exec
  have hb := B.bytes
  have hr := B.returns
  have hts0 := atoms_spec (ws := ws_ yX3_total cX3_total 6 (some .long)) B.pre
  have hts := fun (w : Cond) (h : w ∈ LW) => hts0 w (List.mem_cons_of_mem _ h)
  have hown : s.vm.findClass RX3 = some m.cls := findClass_of_methodNamed B.named
  have hlocks := B.notSynchronized
  subst hsz
  have hD := hD0.self (sz := s.heap.size)
  generalize hAe : va_A (wTD cI cF cJ ot oh b ou od ow oa ob ok os T) s.heap.size = A at hD ⊢
  have hA : ∀ q : Nat, s.heap.size ≤ q → A q := fun q h => by rw [← hAe]; exact Or.inr h
  have hS : va_S A s.heap s.heap [] := va_S.rf
  have hkc := Nat.zero_le rm_X3_total.cells
  have hks := Nat.zero_le rm_X3_total.slots
  have hl := lv_entry ([.ref ot]) (n := 6) (Nat.le_of_ble_eq_true rfl)
  rw [lg_entry_eq]
  generalize (lg_sl ([.ref ot]) ++ List.replicate (6 - (lg_sl ([.ref ot])).length) Slot.unset).toArray = ls at hl ⊢
  have hl : lv_has ls 6 [(0, .ref ot)] := hl
  rw [f_X3_total] at hf
  refine lv_lconst (v := 0) hx hb dX3_total_0 (by decide) ?_
  refine lv_lstore_n (lv' := [(1, .long 0), (0, .ref ot)]) hx hb dX3_total_1 rfl hl (by decide) rfl (fun ls hl => ?_)
  refine lv_lconst (v := 1) hx hb dX3_total_2 (by decide) ?_
  refine lv_lstore_n (lv' := [(3, .long 1), (1, .long 0), (0, .ref ot)]) hx hb dX3_total_3 rfl hl (by decide) rfl (fun ls hl => ?_)
  refine lv_iconst (v := 0) hx hb dX3_total_4 (by decide) ?_
  refine lv_istore (lv' := [(5, .int 0), (3, .long 1), (1, .long 0), (0, .ref ot)]) hx hb dX3_total_5 hl (by decide) rfl (fun ls hl => ?_)
  have L7 : ∀ (k : Int64 → Int64 → Int32 → Option (Int64)), (∀ (a11 : Int64) (a12 : Int64) (a13 : Int32) (H : Heap) (locs : List Loc) (ls : Array Slot), va_P (dC, dI) vwCl (wTD cI cF cJ ot oh b ou od ow oa ob ok os T) H → va_D A (wTD cI cF cJ ot oh b ou od ow oa ob ok os T) → va_S A s.heap H locs → lv_has ls 6 [(1, .long a11)] → k a11 a12 a13 = some res → W p l e (headSpec (ws_ yX3_total cX3_total 6 (some .long)) rm_X3_total).room s m ([.ref ot].toArray) below meth c H locs 0 0 (MQ below (va_Ql (fun (r : Int64) (_ : Unit) => r = res) (sbEnd (dC, dI) (fun _ => wTD cI cF cJ ot oh b ou od ow oa ob ok os T) (A)) (A)) ([.ref ot].toArray) s 0 0 A) (F0 m 41 ls [])) → ∀ (n : Nat) (a11 : Int64) (a12 : Int64) (a13 : Int32) (H : Heap) (locs : List Loc) (ls : Array Slot), va_P (dC, dI) vwCl (wTD cI cF cJ ot oh b ou od ow oa ob ok os T) H → va_D A (wTD cI cF cJ ot oh b ou od ow oa ob ok os T) → va_S A s.heap H locs → lv_has ls 6 [(1, .long a11), (3, .long a12), (5, .int a13), (0, .ref ot)] → l_X3_total_7 T k n a11 a12 a13 = some res → W p l e (headSpec (ws_ yX3_total cX3_total 6 (some .long)) rm_X3_total).room s m ([.ref ot].toArray) below meth c H locs 0 0 (MQ below (va_Ql (fun (r : Int64) (_ : Unit) => r = res) (sbEnd (dC, dI) (fun _ => wTD cI cF cJ ot oh b ou od ow oa ob ok os T) (A)) (A)) ([.ref ot].toArray) s 0 0 A) (F0 m 7 ls []) := by
    intro k hk n
    induction n with
    | zero =>
      intro a14 a15 a16 H locs ls hP hD hS hl hf
      rw [l_X3_total_7] at hf
      cases hf
    | succ n ih =>
      intro a14 a15 a16 H locs ls hP hD hS hl hf
      rw [l_X3_total_7] at hf
      refine lv_iload hx hb dX3_total_7 (lv_at hl 2 rfl) ?_
      refine lv_aload_n hx hb dX3_total_9 rfl (lv_at hl 3 rfl) ?_
      refine va_get (D := (dC, dI)) (ci := 3) (v := .ref ou) (C := RX3) (T := TX3) (N := 12) hx hb hts iX3 hown hK hP 0 rfl rfl 5 (by decide) (hts _ q345) (fun _ h9 => h9) rfl dX3_total_10 ?_
      refine va_alen (v := (nI (tN T))) hx hb hK hP 1 0 rfl rfl rfl dX3_total_13 ?_
      refine lv_icmp_ge (tgt := 41) hx hb dX3_total_14 (by decide) (fun c17 => ?_) (fun c17 => ?_)
      · have hf := ite_t hf c17
        exact hk a14 a15 a16 _ _ _ hP hD hS (lv_sub hl [0] rfl) hf
      · have hf := ite_f hf c17
        refine lv_lload_n hx hb dX3_total_17 rfl (lv_at hl 0 rfl) ?_
        refine lv_lload_n hx hb dX3_total_18 rfl (lv_at hl 1 rfl) ?_
        refine lv_aload_n hx hb dX3_total_19 rfl (lv_at hl 3 rfl) ?_
        refine lv_iload hx hb dX3_total_20 (lv_at hl 2 rfl) ?_
        obtain ⟨x18, hx18, hf⟩ := obd_e hf
        refine sb_Vi (As := [.int a16]) (rest := [.long a15, .long a14]) ⟨hx, hb, hml, hown, hts⟩ (fun sz => c_X3_value l dC dI cI cF cJ cD ot oh b ou od ow oa ob ok os T a16  x18 hx18 sz) (cwV 1 hts (g_V q369 q370 q371 q352 q366) rfl rfl rfl pc_X3_value ⟨Nat.le_of_ble_eq_true rfl, Nat.le_of_ble_eq_true rfl⟩) 0 3 rfl rfl hK hP hD hS hA [0, 1, 2, 3, 4, 5, 6] [] rfl rfl (by decide) (by decide) (by decide) (fun _ _ _ _ h => h) (fun _ _ _ => trivial) rfl rfl hl.1 (Nat.le_of_ble_eq_true rfl) dX3_total_22 ⟨hkc, hks⟩ (fun r9 u H locs hr9 hP hD hS => ?_)
        have hr9 := Eq.symm hr9
        subst hr9
        have hP : va_P (dC, dI) vwCl (wTD cI cF cJ ot oh b ou od ow oa ob ok os T) H := hP
        have hD : va_D A (wTD cI cF cJ ot oh b ou od ow oa ob ok os T) := hD
        refine lv_i2l hx hb dX3_total_25 rfl ?_
        refine lv_topl (fun v19 ev19 => ?_)
        have hf := bnd_all hf v19 ev19
        refine lv_lmul hx hb dX3_total_26 ?_
        refine lv_topl (fun v20 ev20 => ?_)
        have hf := bnd_all hf v20 ev20
        refine lv_ladd hx hb dX3_total_27 ?_
        refine lv_topl (fun v21 ev21 => ?_)
        have hf := bnd_all hf v21 ev21
        refine lv_lstore_n (lv' := [(1, .long v21), (3, .long a15), (5, .int a16), (0, .ref ot)]) hx hb dX3_total_28 rfl hl (by decide) rfl (fun ls hl => ?_)
        obtain ⟨v22, ev22⟩ : ∃ y : Int32, y = a16 + 1 := ⟨_, rfl⟩
        have hf := bnd_all hf v22 ev22
        refine lv_iinc (v := v22) (lv' := [(5, .int v22), (1, .long v21), (3, .long a15), (0, .ref ot)]) hx hb dX3_total_29 hl (k := 2) rfl (by rw [ev22]; rfl) (by decide) rfl (fun ls hl => ?_)
        refine lv_lload_n hx hb dX3_total_32 rfl (lv_at hl 2 rfl) ?_
        refine lv_ldc2 hx hb hown (hts _ q368) dX3_total_33 ?_
        refine lv_lmul hx hb dX3_total_36 ?_
        refine lv_topl (fun v23 ev23 => ?_)
        have hf := bnd_all hf v23 ev23
        refine lv_lstore_n (lv' := [(3, .long v23), (5, .int v22), (1, .long v21), (0, .ref ot)]) hx hb dX3_total_37 rfl hl (by decide) rfl (fun ls hl => ?_)
        refine lv_goto (tgt := 7) hx hb dX3_total_38 (by decide) ?_
        exact ih v21 v23 v22 _ _ _ hP hD hS (lv_sub hl [2, 0, 1, 3] rfl) hf
  refine L7 _ (fun a24 a25 a26 H locs ls hP hD hS hl hf => ?_) 16 0 1 0 _ _ _ hP hD hS (lv_sub hl [2, 1, 0, 3] rfl) hf
  refine lv_lload_n hx hb dX3_total_41 rfl (lv_at hl 0 rfl) ?_
  obtain rfl := Option.some.inj hf
  exact W.lret (v := a24) hx hb hr (fun t ht hW => ⟨⟨_, (), rfl, rfl, by rw [ht]; exact hP, hD⟩, hS.F ht⟩) hS.2.2 dX3_total_42
noncomputable def l_X3_isTidy_4 (R0 : TD) (k : Int32 → Int32 → Option (Int32)) : Nat → Int32 → Int32 → Option (Int32)
  | 0, _, _ => none
  | n + 1, a1, a2 => if (nI (tN R0)) ≤ a2 then (k a1 a2) else (obd (f_X3_value R0 a2) fun x4 => if (10 : Int32) ≤ x4 then (bnd (a1 &&& 0) fun (v6 : Int32) => bnd (a2 + 1) fun (v7 : Int32) => l_X3_isTidy_4 R0 k n v6 v7) else (bnd (a1 &&& 1) fun (v8 : Int32) => bnd (a2 + 1) fun (v9 : Int32) => l_X3_isTidy_4 R0 k n v8 v9))
noncomputable def f_X3_isTidy (T : TD) : Option (Int32) := l_X3_isTidy_4 T (fun (a21 : Int32) (a22 : Int32) => gd (nbool a21) <| some a21) 16 1 0
theorem pc_X3_isTidy : yX3_isTidy.cls = RX3 ∧ yX3_isTidy.cls ≠ "java/lang/invoke/MethodHandle" ∧ yX3_isTidy.cls ≠ "java/lang/invoke/VarHandle" ∧ (parseMethodDescriptor yX3_isTidy.desc).map (fun d => d.parameters.length) = some 0 := by decide +kernel
abbrev rm_X3_isTidy : Room := { frames := 2, cells := 0, slots := 0, locals := 42 }
set_option maxHeartbeats 4000000 in
set_option maxRecDepth 100000 in
theorem c_X3_isTidy (l : Launch) (dC : Nat → ClassId) (dI : Nat → Nat → Nat) (cI cF cJ cD : ClassId) (ot oh b ou od ow oa ob ok os : Nat) (T : TD) (res : (Int32)) (hf : f_X3_isTidy T = some res) (sz : Nat) : Met l yX3_isTidy (ws_ yX3_isTidy cX3_isTidy 3 (some .boolean)) rm_X3_isTidy (sbPre (dC, dI) (TY cI cF cJ cD) (wTD cI cF cJ ot oh b ou od ow oa ob ok os T) E0 sz [.ref ot]) (va_Qi (fun (r : Int32) (_ : Unit) => r = res) (sbEnd (dC, dI) (fun _ => wTD cI cF cJ ot oh b ou od ow oa ob ok os T) (va_A (wTD cI cF cJ ot oh b ou od ow oa ob ok os T) sz)) (va_A (wTD cI cF cJ ot oh b ou od ow oa ob ok os T) sz)) 0 0 (va_A (wTD cI cF cJ ot oh b ou od ow oa ob ok os T) sz) := by
  refine Met.ofW (cc := cX3_isTidy) (maxL := 3) (ret := (some .boolean)) (by decide) rfl ?_
  intro p e s m args below meth c s₁ B hml hv
  obtain ⟨rfl, hsz, hP, hK, hD0, hE⟩ := hv
  have hx := B.exec
  have hb := B.bytes
  have hr := B.returns
  have hts0 := atoms_spec (ws := ws_ yX3_isTidy cX3_isTidy 3 (some .boolean)) B.pre
  have hts := fun (w : Cond) (h : w ∈ LW) => hts0 w (List.mem_cons_of_mem _ h)
  have hown : s.vm.findClass RX3 = some m.cls := findClass_of_methodNamed B.named
  have hlocks := B.notSynchronized
  subst hsz
  have hD := hD0.self (sz := s.heap.size)
  generalize hAe : va_A (wTD cI cF cJ ot oh b ou od ow oa ob ok os T) s.heap.size = A at hD ⊢
  have hA : ∀ q : Nat, s.heap.size ≤ q → A q := fun q h => by rw [← hAe]; exact Or.inr h
  have hS : va_S A s.heap s.heap [] := va_S.rf
  have hkc := Nat.zero_le rm_X3_isTidy.cells
  have hks := Nat.zero_le rm_X3_isTidy.slots
  have hl := lv_entry ([.ref ot]) (n := 3) (Nat.le_of_ble_eq_true rfl)
  rw [lg_entry_eq]
  generalize (lg_sl ([.ref ot]) ++ List.replicate (3 - (lg_sl ([.ref ot])).length) Slot.unset).toArray = ls at hl ⊢
  have hl : lv_has ls 3 [(0, .ref ot)] := hl
  rw [f_X3_isTidy] at hf
  refine lv_iconst (v := 1) hx hb dX3_isTidy_0 (by decide) ?_
  refine lv_istore_n (lv' := [(1, .int 1), (0, .ref ot)]) hx hb dX3_isTidy_1 rfl hl (by decide) rfl (fun ls hl => ?_)
  refine lv_iconst (v := 0) hx hb dX3_isTidy_2 (by decide) ?_
  refine lv_istore_n (lv' := [(2, .int 0), (1, .int 1), (0, .ref ot)]) hx hb dX3_isTidy_3 rfl hl (by decide) rfl (fun ls hl => ?_)
  have L4 : ∀ (k : Int32 → Int32 → Option (Int32)), (∀ (a10 : Int32) (a11 : Int32) (H : Heap) (locs : List Loc) (ls : Array Slot), va_P (dC, dI) vwCl (wTD cI cF cJ ot oh b ou od ow oa ob ok os T) H → va_D A (wTD cI cF cJ ot oh b ou od ow oa ob ok os T) → va_S A s.heap H locs → lv_has ls 3 [(1, .int a10)] → k a10 a11 = some res → W p l e (headSpec (ws_ yX3_isTidy cX3_isTidy 3 (some .boolean)) rm_X3_isTidy).room s m ([.ref ot].toArray) below meth c H locs 0 0 (MQ below (va_Qi (fun (r : Int32) (_ : Unit) => r = res) (sbEnd (dC, dI) (fun _ => wTD cI cF cJ ot oh b ou od ow oa ob ok os T) (A)) (A)) ([.ref ot].toArray) s 0 0 A) (F0 m 37 ls [])) → ∀ (n : Nat) (a10 : Int32) (a11 : Int32) (H : Heap) (locs : List Loc) (ls : Array Slot), va_P (dC, dI) vwCl (wTD cI cF cJ ot oh b ou od ow oa ob ok os T) H → va_D A (wTD cI cF cJ ot oh b ou od ow oa ob ok os T) → va_S A s.heap H locs → lv_has ls 3 [(1, .int a10), (2, .int a11), (0, .ref ot)] → l_X3_isTidy_4 T k n a10 a11 = some res → W p l e (headSpec (ws_ yX3_isTidy cX3_isTidy 3 (some .boolean)) rm_X3_isTidy).room s m ([.ref ot].toArray) below meth c H locs 0 0 (MQ below (va_Qi (fun (r : Int32) (_ : Unit) => r = res) (sbEnd (dC, dI) (fun _ => wTD cI cF cJ ot oh b ou od ow oa ob ok os T) (A)) (A)) ([.ref ot].toArray) s 0 0 A) (F0 m 4 ls []) := by
    intro k hk n
    induction n with
    | zero =>
      intro a12 a13 H locs ls hP hD hS hl hf
      rw [l_X3_isTidy_4] at hf
      cases hf
    | succ n ih =>
      intro a12 a13 H locs ls hP hD hS hl hf
      rw [l_X3_isTidy_4] at hf
      refine lv_iload_n hx hb dX3_isTidy_4 rfl (lv_at hl 1 rfl) ?_
      refine lv_aload_n hx hb dX3_isTidy_5 rfl (lv_at hl 2 rfl) ?_
      refine va_get (D := (dC, dI)) (ci := 3) (v := .ref ou) (C := RX3) (T := TX3) (N := 12) hx hb hts iX3 hown hK hP 0 rfl rfl 5 (by decide) (hts _ q345) (fun _ h9 => h9) rfl dX3_isTidy_6 ?_
      refine va_alen (v := (nI (tN T))) hx hb hK hP 1 0 rfl rfl rfl dX3_isTidy_9 ?_
      refine lv_icmp_ge (tgt := 37) hx hb dX3_isTidy_10 (by decide) (fun c14 => ?_) (fun c14 => ?_)
      · have hf := ite_t hf c14
        exact hk a12 a13 _ _ _ hP hD hS (lv_sub hl [0] rfl) hf
      · have hf := ite_f hf c14
        refine lv_iload_n hx hb dX3_isTidy_13 rfl (lv_at hl 0 rfl) ?_
        refine lv_aload_n hx hb dX3_isTidy_14 rfl (lv_at hl 2 rfl) ?_
        refine lv_iload_n hx hb dX3_isTidy_15 rfl (lv_at hl 1 rfl) ?_
        obtain ⟨x15, hx15, hf⟩ := obd_e hf
        refine sb_Vi (As := [.int a13]) (rest := [.int a12]) ⟨hx, hb, hml, hown, hts⟩ (fun sz => c_X3_value l dC dI cI cF cJ cD ot oh b ou od ow oa ob ok os T a13  x15 hx15 sz) (cwV 1 hts (g_V q369 q370 q371 q352 q366) rfl rfl rfl pc_X3_value ⟨Nat.le_of_ble_eq_true rfl, Nat.le_of_ble_eq_true rfl⟩) 0 3 rfl rfl hK hP hD hS hA [0, 1, 2, 3, 4, 5, 6] [] rfl rfl (by decide) (by decide) (by decide) (fun _ _ _ _ h => h) (fun _ _ _ => trivial) rfl rfl hl.1 (Nat.le_of_ble_eq_true rfl) dX3_isTidy_16 ⟨hkc, hks⟩ (fun r9 u H locs hr9 hP hD hS => ?_)
        have hr9 := Eq.symm hr9
        subst hr9
        have hP : va_P (dC, dI) vwCl (wTD cI cF cJ ot oh b ou od ow oa ob ok os T) H := hP
        have hD : va_D A (wTD cI cF cJ ot oh b ou od ow oa ob ok os T) := hD
        refine lv_bipush (v := 10) hx hb dX3_isTidy_19 (by decide) ?_
        refine lv_icmp_ge (tgt := 28) hx hb dX3_isTidy_21 (by decide) (fun c16 => ?_) (fun c16 => ?_)
        · have hf := ite_t hf c16
          refine lv_iconst (v := 0) hx hb dX3_isTidy_28 (by decide) ?_
          refine lv_iand hx hb dX3_isTidy_29 ?_
          refine lv_topi (fun v17 ev17 => ?_)
          have hf := bnd_all hf v17 ev17
          refine lv_istore_n (lv' := [(1, .int v17), (2, .int a13), (0, .ref ot)]) hx hb dX3_isTidy_30 rfl hl (by decide) rfl (fun ls hl => ?_)
          obtain ⟨v18, ev18⟩ : ∃ y : Int32, y = a13 + 1 := ⟨_, rfl⟩
          have hf := bnd_all hf v18 ev18
          refine lv_iinc (v := v18) (lv' := [(2, .int v18), (1, .int v17), (0, .ref ot)]) hx hb dX3_isTidy_31 hl (k := 1) rfl (by rw [ev18]; rfl) (by decide) rfl (fun ls hl => ?_)
          refine lv_goto (tgt := 4) hx hb dX3_isTidy_34 (by decide) ?_
          exact ih v17 v18 _ _ _ hP hD hS (lv_sub hl [1, 0, 2] rfl) hf
        · have hf := ite_f hf c16
          refine lv_iconst (v := 1) hx hb dX3_isTidy_24 (by decide) ?_
          refine lv_goto (tgt := 29) hx hb dX3_isTidy_25 (by decide) ?_
          refine lv_iand hx hb dX3_isTidy_29 ?_
          refine lv_topi (fun v19 ev19 => ?_)
          have hf := bnd_all hf v19 ev19
          refine lv_istore_n (lv' := [(1, .int v19), (2, .int a13), (0, .ref ot)]) hx hb dX3_isTidy_30 rfl hl (by decide) rfl (fun ls hl => ?_)
          obtain ⟨v20, ev20⟩ : ∃ y : Int32, y = a13 + 1 := ⟨_, rfl⟩
          have hf := bnd_all hf v20 ev20
          refine lv_iinc (v := v20) (lv' := [(2, .int v20), (1, .int v19), (0, .ref ot)]) hx hb dX3_isTidy_31 hl (k := 1) rfl (by rw [ev20]; rfl) (by decide) rfl (fun ls hl => ?_)
          refine lv_goto (tgt := 4) hx hb dX3_isTidy_34 (by decide) ?_
          exact ih v19 v20 _ _ _ hP hD hS (lv_sub hl [1, 0, 2] rfl) hf
  refine L4 _ (fun a21 a22 H locs ls hP hD hS hl hf => ?_) 16 1 0 _ _ _ hP hD hS (lv_sub hl [1, 0, 2] rfl) hf
  refine lv_iload_n hx hb dX3_isTidy_37 rfl (lv_at hl 0 rfl) ?_
  obtain ⟨g23, hf⟩ := gd_e hf
  obtain rfl := Option.some.inj hf
  exact W.zret (v := a21) hx hb hr (nbool_n g23) (fun t ht hW => ⟨⟨_, (), rfl, rfl, by rw [ht]; exact hP, hD⟩, hS.F ht⟩) hS.2.2 dX3_isTidy_38
noncomputable def f_X3_pushes (T : TD) (p0 : Int32) (p1 : Int32) (p2 : Int32) : Option (Int32) := gd (gin p0 (tN T)) <| bnd ((tUp T) (Int32.toNatClampNeg p0)) fun (v2 : Int32) => if p1 = v2 then (gd (gin p0 (tN T)) <| bnd ((tDn T) (Int32.toNatClampNeg p0)) fun (v10 : Int32) => if p2 = v10 then (bnd ((0 : Int32) + 0) fun (v13 : Int32) => some v13) else (bnd ((0 : Int32) + 1) fun (v12 : Int32) => some v12)) else (gd (gin p0 (tN T)) <| bnd ((tDn T) (Int32.toNatClampNeg p0)) fun (v5 : Int32) => if p2 = v5 then (bnd ((1 : Int32) + 0) fun (v8 : Int32) => some v8) else (bnd ((1 : Int32) + 1) fun (v7 : Int32) => some v7))
theorem pc_X3_pushes : yX3_pushes.cls = RX3 ∧ yX3_pushes.cls ≠ "java/lang/invoke/MethodHandle" ∧ yX3_pushes.cls ≠ "java/lang/invoke/VarHandle" ∧ (parseMethodDescriptor yX3_pushes.desc).map (fun d => d.parameters.length) = some 3 := by decide +kernel
abbrev rm_X3_pushes : Room := { frames := 1, cells := 0, slots := 0, locals := 21 }
set_option maxHeartbeats 4000000 in
set_option maxRecDepth 100000 in
theorem c_X3_pushes (l : Launch) (dC : Nat → ClassId) (dI : Nat → Nat → Nat) (cI cF cJ cD : ClassId) (ot oh b ou od ow oa ob ok os : Nat) (T : TD) (p0 : Int32) (p1 : Int32) (p2 : Int32) (res : (Int32)) (hf : f_X3_pushes T p0 p1 p2 = some res) (sz : Nat) : Met l yX3_pushes (ws_ yX3_pushes cX3_pushes 4 (some .int)) rm_X3_pushes (sbPre (dC, dI) (TY cI cF cJ cD) (wTD cI cF cJ ot oh b ou od ow oa ob ok os T) E0 sz [.ref ot, .int p0, .int p1, .int p2]) (va_Qi (fun (r : Int32) (_ : Unit) => r = res) (sbEnd (dC, dI) (fun _ => wTD cI cF cJ ot oh b ou od ow oa ob ok os T) (va_A (wTD cI cF cJ ot oh b ou od ow oa ob ok os T) sz)) (va_A (wTD cI cF cJ ot oh b ou od ow oa ob ok os T) sz)) 0 0 (va_A (wTD cI cF cJ ot oh b ou od ow oa ob ok os T) sz) := by
  refine Met.ofW (cc := cX3_pushes) (maxL := 4) (ret := (some .int)) (by decide) rfl ?_
  intro p e s m args below meth c s₁ B hml hv
  obtain ⟨rfl, hsz, hP, hK, hD0, hE⟩ := hv
  have hx := B.exec
  have hb := B.bytes
  have hr := B.returns
  have hts0 := atoms_spec (ws := ws_ yX3_pushes cX3_pushes 4 (some .int)) B.pre
  have hts := fun (w : Cond) (h : w ∈ LW) => hts0 w (List.mem_cons_of_mem _ h)
  have hown : s.vm.findClass RX3 = some m.cls := findClass_of_methodNamed B.named
  have hlocks := B.notSynchronized
  subst hsz
  have hD := hD0.self (sz := s.heap.size)
  generalize hAe : va_A (wTD cI cF cJ ot oh b ou od ow oa ob ok os T) s.heap.size = A at hD ⊢
  have hA : ∀ q : Nat, s.heap.size ≤ q → A q := fun q h => by rw [← hAe]; exact Or.inr h
  have hS : va_S A s.heap s.heap [] := va_S.rf
  have hkc := Nat.zero_le rm_X3_pushes.cells
  have hks := Nat.zero_le rm_X3_pushes.slots
  have hl := lv_entry ([.ref ot, .int p0, .int p1, .int p2]) (n := 4) (Nat.le_of_ble_eq_true rfl)
  rw [lg_entry_eq]
  generalize (lg_sl ([.ref ot, .int p0, .int p1, .int p2]) ++ List.replicate (4 - (lg_sl ([.ref ot, .int p0, .int p1, .int p2])).length) Slot.unset).toArray = ls at hl ⊢
  have hl : lv_has ls 4 [(0, .ref ot), (1, .int p0), (2, .int p1), (3, .int p2)] := hl
  rw [f_X3_pushes] at hf
  refine lv_iload_n hx hb dX3_pushes_0 rfl (lv_at hl 2 rfl) ?_
  refine lv_aload_n hx hb dX3_pushes_1 rfl (lv_at hl 0 rfl) ?_
  refine va_get (D := (dC, dI)) (ci := 3) (v := .ref ou) (C := RX3) (T := TX3) (N := 12) hx hb hts iX3 hown hK hP 0 rfl rfl 5 (by decide) (hts _ q345) (fun _ h9 => h9) rfl dX3_pushes_2 ?_
  refine lv_iload_n hx hb dX3_pushes_5 rfl (lv_at hl 1 rfl) ?_
  obtain ⟨g1, hf⟩ := gd_e hf
  refine va_iald hx hb hK hP 1 0 rfl rfl (gin_in g1) dX3_pushes_6 ?_
  refine lv_topi (fun v2 ev2 => ?_)
  have hf := bnd_all hf v2 ev2
  refine lv_icmp_ne (tgt := 14) hx hb dX3_pushes_7 (by decide) (fun c3 => ?_) (fun c3 => ?_)
  · have hf := ite_f hf c3
    refine lv_iconst (v := 1) hx hb dX3_pushes_14 (by decide) ?_
    refine lv_iload_n hx hb dX3_pushes_15 rfl (lv_at hl 3 rfl) ?_
    refine lv_aload_n hx hb dX3_pushes_16 rfl (lv_at hl 0 rfl) ?_
    refine va_get (D := (dC, dI)) (ci := 3) (v := .ref od) (C := RX3) (T := TX3) (N := 12) hx hb hts iX3 hown hK hP 0 rfl rfl 6 (by decide) (hts _ q346) (fun _ h9 => h9) rfl dX3_pushes_17 ?_
    refine lv_iload_n hx hb dX3_pushes_20 rfl (lv_at hl 1 rfl) ?_
    obtain ⟨g4, hf⟩ := gd_e hf
    refine va_iald hx hb hK hP 2 0 rfl rfl (gin_in g4) dX3_pushes_21 ?_
    refine lv_topi (fun v5 ev5 => ?_)
    have hf := bnd_all hf v5 ev5
    refine lv_icmp_ne (tgt := 29) hx hb dX3_pushes_22 (by decide) (fun c6 => ?_) (fun c6 => ?_)
    · have hf := ite_f hf c6
      refine lv_iconst (v := 1) hx hb dX3_pushes_29 (by decide) ?_
      refine lv_iadd hx hb dX3_pushes_30 ?_
      refine lv_topi (fun v7 ev7 => ?_)
      have hf := bnd_all hf v7 ev7
      obtain rfl := Option.some.inj hf
      exact W.iret (v := v7) hx hb hr (fun t ht hW => ⟨⟨_, (), rfl, rfl, by rw [ht]; exact hP, hD⟩, hS.F ht⟩) hS.2.2 dX3_pushes_31
    · have hf := ite_t hf c6
      refine lv_iconst (v := 0) hx hb dX3_pushes_25 (by decide) ?_
      refine lv_goto (tgt := 30) hx hb dX3_pushes_26 (by decide) ?_
      refine lv_iadd hx hb dX3_pushes_30 ?_
      refine lv_topi (fun v8 ev8 => ?_)
      have hf := bnd_all hf v8 ev8
      obtain rfl := Option.some.inj hf
      exact W.iret (v := v8) hx hb hr (fun t ht hW => ⟨⟨_, (), rfl, rfl, by rw [ht]; exact hP, hD⟩, hS.F ht⟩) hS.2.2 dX3_pushes_31
  · have hf := ite_t hf c3
    refine lv_iconst (v := 0) hx hb dX3_pushes_10 (by decide) ?_
    refine lv_goto (tgt := 15) hx hb dX3_pushes_11 (by decide) ?_
    refine lv_iload_n hx hb dX3_pushes_15 rfl (lv_at hl 3 rfl) ?_
    refine lv_aload_n hx hb dX3_pushes_16 rfl (lv_at hl 0 rfl) ?_
    refine va_get (D := (dC, dI)) (ci := 3) (v := .ref od) (C := RX3) (T := TX3) (N := 12) hx hb hts iX3 hown hK hP 0 rfl rfl 6 (by decide) (hts _ q346) (fun _ h9 => h9) rfl dX3_pushes_17 ?_
    refine lv_iload_n hx hb dX3_pushes_20 rfl (lv_at hl 1 rfl) ?_
    obtain ⟨g9, hf⟩ := gd_e hf
    refine va_iald hx hb hK hP 2 0 rfl rfl (gin_in g9) dX3_pushes_21 ?_
    refine lv_topi (fun v10 ev10 => ?_)
    have hf := bnd_all hf v10 ev10
    refine lv_icmp_ne (tgt := 29) hx hb dX3_pushes_22 (by decide) (fun c11 => ?_) (fun c11 => ?_)
    · have hf := ite_f hf c11
      refine lv_iconst (v := 1) hx hb dX3_pushes_29 (by decide) ?_
      refine lv_iadd hx hb dX3_pushes_30 ?_
      refine lv_topi (fun v12 ev12 => ?_)
      have hf := bnd_all hf v12 ev12
      obtain rfl := Option.some.inj hf
      exact W.iret (v := v12) hx hb hr (fun t ht hW => ⟨⟨_, (), rfl, rfl, by rw [ht]; exact hP, hD⟩, hS.F ht⟩) hS.2.2 dX3_pushes_31
    · have hf := ite_t hf c11
      refine lv_iconst (v := 0) hx hb dX3_pushes_25 (by decide) ?_
      refine lv_goto (tgt := 30) hx hb dX3_pushes_26 (by decide) ?_
      refine lv_iadd hx hb dX3_pushes_30 ?_
      refine lv_topi (fun v13 ev13 => ?_)
      have hf := bnd_all hf v13 ev13
      obtain rfl := Option.some.inj hf
      exact W.iret (v := v13) hx hb hr (fun t ht hW => ⟨⟨_, (), rfl, rfl, by rw [ht]; exact hP, hD⟩, hS.F ht⟩) hS.2.2 dX3_pushes_31
noncomputable def f_X3_beads (T : TD) (p0 : Int32) (p1 : Int32) (p2 : Int32) : Option (Int32) := gd (gin p0 (tN T)) <| bnd ((tUp T) (Int32.toNatClampNeg p0)) fun (v2 : Int32) => bnd (p1 - v2) fun (v3 : Int32) => bnd (if 0 ≤ v3 then v3 else 0 - v3) fun (v4 : Int32) => gd (gin p0 (tN T)) <| bnd ((tDn T) (Int32.toNatClampNeg p0)) fun (v6 : Int32) => bnd (p2 - v6) fun (v7 : Int32) => bnd (if 0 ≤ v7 then v7 else 0 - v7) fun (v8 : Int32) => bnd (v4 + v8) fun (v9 : Int32) => some v9
theorem pc_X3_beads : yX3_beads.cls = RX3 ∧ yX3_beads.cls ≠ "java/lang/invoke/MethodHandle" ∧ yX3_beads.cls ≠ "java/lang/invoke/VarHandle" ∧ (parseMethodDescriptor yX3_beads.desc).map (fun d => d.parameters.length) = some 3 := by decide +kernel
abbrev rm_X3_beads : Room := { frames := 1, cells := 0, slots := 0, locals := 21 }
set_option maxHeartbeats 4000000 in
set_option maxRecDepth 100000 in
theorem c_X3_beads (l : Launch) (dC : Nat → ClassId) (dI : Nat → Nat → Nat) (cI cF cJ cD : ClassId) (ot oh b ou od ow oa ob ok os : Nat) (T : TD) (p0 : Int32) (p1 : Int32) (p2 : Int32) (res : (Int32)) (hf : f_X3_beads T p0 p1 p2 = some res) (sz : Nat) : Met l yX3_beads (ws_ yX3_beads cX3_beads 4 (some .int)) rm_X3_beads (sbPre (dC, dI) (TY cI cF cJ cD) (wTD cI cF cJ ot oh b ou od ow oa ob ok os T) E0 sz [.ref ot, .int p0, .int p1, .int p2]) (va_Qi (fun (r : Int32) (_ : Unit) => r = res) (sbEnd (dC, dI) (fun _ => wTD cI cF cJ ot oh b ou od ow oa ob ok os T) (va_A (wTD cI cF cJ ot oh b ou od ow oa ob ok os T) sz)) (va_A (wTD cI cF cJ ot oh b ou od ow oa ob ok os T) sz)) 0 0 (va_A (wTD cI cF cJ ot oh b ou od ow oa ob ok os T) sz) := by
  refine Met.ofW (cc := cX3_beads) (maxL := 4) (ret := (some .int)) (by decide) rfl ?_
  intro p e s m args below meth c s₁ B hml hv
  obtain ⟨rfl, hsz, hP, hK, hD0, hE⟩ := hv
  have hx := B.exec
  have hb := B.bytes
  have hr := B.returns
  have hts0 := atoms_spec (ws := ws_ yX3_beads cX3_beads 4 (some .int)) B.pre
  have hts := fun (w : Cond) (h : w ∈ LW) => hts0 w (List.mem_cons_of_mem _ h)
  have hown : s.vm.findClass RX3 = some m.cls := findClass_of_methodNamed B.named
  have hlocks := B.notSynchronized
  subst hsz
  have hD := hD0.self (sz := s.heap.size)
  generalize hAe : va_A (wTD cI cF cJ ot oh b ou od ow oa ob ok os T) s.heap.size = A at hD ⊢
  have hA : ∀ q : Nat, s.heap.size ≤ q → A q := fun q h => by rw [← hAe]; exact Or.inr h
  have hS : va_S A s.heap s.heap [] := va_S.rf
  have hkc := Nat.zero_le rm_X3_beads.cells
  have hks := Nat.zero_le rm_X3_beads.slots
  have hl := lv_entry ([.ref ot, .int p0, .int p1, .int p2]) (n := 4) (Nat.le_of_ble_eq_true rfl)
  rw [lg_entry_eq]
  generalize (lg_sl ([.ref ot, .int p0, .int p1, .int p2]) ++ List.replicate (4 - (lg_sl ([.ref ot, .int p0, .int p1, .int p2])).length) Slot.unset).toArray = ls at hl ⊢
  have hl : lv_has ls 4 [(0, .ref ot), (1, .int p0), (2, .int p1), (3, .int p2)] := hl
  rw [f_X3_beads] at hf
  refine lv_iload_n hx hb dX3_beads_0 rfl (lv_at hl 2 rfl) ?_
  refine lv_aload_n hx hb dX3_beads_1 rfl (lv_at hl 0 rfl) ?_
  refine va_get (D := (dC, dI)) (ci := 3) (v := .ref ou) (C := RX3) (T := TX3) (N := 12) hx hb hts iX3 hown hK hP 0 rfl rfl 5 (by decide) (hts _ q345) (fun _ h9 => h9) rfl dX3_beads_2 ?_
  refine lv_iload_n hx hb dX3_beads_5 rfl (lv_at hl 1 rfl) ?_
  obtain ⟨g1, hf⟩ := gd_e hf
  refine va_iald hx hb hK hP 1 0 rfl rfl (gin_in g1) dX3_beads_6 ?_
  refine lv_topi (fun v2 ev2 => ?_)
  have hf := bnd_all hf v2 ev2
  refine lv_isub hx hb dX3_beads_7 ?_
  refine lv_topi (fun v3 ev3 => ?_)
  have hf := bnd_all hf v3 ev3
  refine va_mabs hx hb (hml.trans hl.1.symm) hown (hts _ q379) (hts _ q60) (hts _ q61) (hts _ q62) (Nat.le_of_ble_eq_true rfl) (Nat.le_of_ble_eq_true rfl) hkc hks dX3_beads_8 ?_
  refine lv_topi (fun v4 ev4 => ?_)
  have hf := bnd_all hf v4 ev4
  refine lv_iload_n hx hb dX3_beads_11 rfl (lv_at hl 3 rfl) ?_
  refine lv_aload_n hx hb dX3_beads_12 rfl (lv_at hl 0 rfl) ?_
  refine va_get (D := (dC, dI)) (ci := 3) (v := .ref od) (C := RX3) (T := TX3) (N := 12) hx hb hts iX3 hown hK hP 0 rfl rfl 6 (by decide) (hts _ q346) (fun _ h9 => h9) rfl dX3_beads_13 ?_
  refine lv_iload_n hx hb dX3_beads_16 rfl (lv_at hl 1 rfl) ?_
  obtain ⟨g5, hf⟩ := gd_e hf
  refine va_iald hx hb hK hP 2 0 rfl rfl (gin_in g5) dX3_beads_17 ?_
  refine lv_topi (fun v6 ev6 => ?_)
  have hf := bnd_all hf v6 ev6
  refine lv_isub hx hb dX3_beads_18 ?_
  refine lv_topi (fun v7 ev7 => ?_)
  have hf := bnd_all hf v7 ev7
  refine va_mabs hx hb (hml.trans hl.1.symm) hown (hts _ q379) (hts _ q60) (hts _ q61) (hts _ q62) (Nat.le_of_ble_eq_true rfl) (Nat.le_of_ble_eq_true rfl) hkc hks dX3_beads_19 ?_
  refine lv_topi (fun v8 ev8 => ?_)
  have hf := bnd_all hf v8 ev8
  refine lv_iadd hx hb dX3_beads_22 ?_
  refine lv_topi (fun v9 ev9 => ?_)
  have hf := bnd_all hf v9 ev9
  obtain rfl := Option.some.inj hf
  exact W.iret (v := v9) hx hb hr (fun t ht hW => ⟨⟨_, (), rfl, rfl, by rw [ht]; exact hP, hD⟩, hS.F ht⟩) hS.2.2 dX3_beads_23
noncomputable def f_X3_move (T : TD) (p0 : Int32) (p1 : Int32) : Option (TD) := if p1 = 0 then (some T) else (bnd (if 0 ≤ p1 then p1 else 0 - p1) fun (v2 : Int32) => bnd ((tHa T) - p0) fun (v3 : Int32) => bnd (if 0 ≤ v3 then v3 else 0 - v3) fun (v4 : Int32) => bnd (2 * v4) fun (v5 : Int32) => bnd (4 + v2) fun (v6 : Int32) => gd (gin p0 (tN T)) <| bnd ((tWa T) (Int32.toNatClampNeg p0)) fun (v8 : Int32) => if v8 < 40 then (bnd (v6 * 1) fun (v10 : Int32) => bnd (v5 + v10) fun (v11 : Int32) => bnd (v11.toInt64) fun (v12 : Int64) => bnd ((tTi T) + v12) fun (v13 : Int64) => gd (gin p0 (tN T)) <| bnd ((tWa T) (Int32.toNatClampNeg p0)) fun (v15 : Int32) => bnd (v15 + v2) fun (v16 : Int32) => gd (gin p0 (tN T)) <| gd (gin 0 5) <| bnd ((tSm T) (Int32.toNatClampNeg 0)) fun (v19 : Int32) => bnd (v19 + 1) fun (v20 : Int32) => gd (gin 0 5) <| gd (gin 1 5) <| bnd ((upd (tSm T) (Int32.toNatClampNeg 0) v20) (Int32.toNatClampNeg 1)) fun (v23 : Int32) => bnd (v23 + v2) fun (v24 : Int32) => gd (gin 1 5) <| gd (gin p0 (tN T)) <| bnd ((tUp T) (Int32.toNatClampNeg p0)) fun (v27 : Int32) => bnd (v27 + p1) fun (v28 : Int32) => gd (gin p0 (tN T)) <| some (stTi (stHa (stSm (stWa (stUp T (upd (tUp T) (Int32.toNatClampNeg p0) v28)) (upd (tWa T) (Int32.toNatClampNeg p0) v16)) (upd (upd (tSm T) (Int32.toNatClampNeg 0) v20) (Int32.toNatClampNeg 1) v24)) p0) v13)) else (bnd (v6 * 2) fun (v30 : Int32) => bnd (v5 + v30) fun (v31 : Int32) => bnd (v31.toInt64) fun (v32 : Int64) => bnd ((tTi T) + v32) fun (v33 : Int64) => gd (gin p0 (tN T)) <| bnd ((tWa T) (Int32.toNatClampNeg p0)) fun (v35 : Int32) => bnd (v35 + v2) fun (v36 : Int32) => gd (gin p0 (tN T)) <| gd (gin 0 5) <| bnd ((tSm T) (Int32.toNatClampNeg 0)) fun (v39 : Int32) => bnd (v39 + 1) fun (v40 : Int32) => gd (gin 0 5) <| gd (gin 1 5) <| bnd ((upd (tSm T) (Int32.toNatClampNeg 0) v40) (Int32.toNatClampNeg 1)) fun (v43 : Int32) => bnd (v43 + v2) fun (v44 : Int32) => gd (gin 1 5) <| gd (gin p0 (tN T)) <| bnd ((tUp T) (Int32.toNatClampNeg p0)) fun (v47 : Int32) => bnd (v47 + p1) fun (v48 : Int32) => gd (gin p0 (tN T)) <| some (stTi (stHa (stSm (stWa (stUp T (upd (tUp T) (Int32.toNatClampNeg p0) v48)) (upd (tWa T) (Int32.toNatClampNeg p0) v36)) (upd (upd (tSm T) (Int32.toNatClampNeg 0) v40) (Int32.toNatClampNeg 1) v44)) p0) v33)))
theorem pc_X3_move : yX3_move.cls = RX3 ∧ yX3_move.cls ≠ "java/lang/invoke/MethodHandle" ∧ yX3_move.cls ≠ "java/lang/invoke/VarHandle" ∧ (parseMethodDescriptor yX3_move.desc).map (fun d => d.parameters.length) = some 3 := by decide +kernel
abbrev rm_X3_move : Room := { frames := 1, cells := 0, slots := 0, locals := 21 }
set_option maxHeartbeats 4000000 in
set_option maxRecDepth 100000 in
theorem c_X3_move (l : Launch) (dC : Nat → ClassId) (dI : Nat → Nat → Nat) (cI cF cJ cD : ClassId) (ot oh b ou od ow oa ob ok os : Nat) (T : TD) (p0 : Int32) (p1 : Int32) (res : (TD)) (hf : f_X3_move T p0 p1 = some res) (sz : Nat) : Met l yX3_move (ws_ yX3_move cX3_move 5 none) rm_X3_move (sbPre (dC, dI) (TY cI cF cJ cD) (wTD cI cF cJ ot oh b ou od ow oa ob ok os T) E0 sz [.ref ot, .int p0, .int 0, .int p1]) (va_Qv (fun (_ : Unit) => True) (sbEnd (dC, dI) (fun _ => wTD cI cF cJ ot oh b ou od ow oa ob ok os res) (va_A (wTD cI cF cJ ot oh b ou od ow oa ob ok os T) sz)) (va_A (wTD cI cF cJ ot oh b ou od ow oa ob ok os T) sz)) 0 0 (va_A (wTD cI cF cJ ot oh b ou od ow oa ob ok os T) sz) := by
  refine Met.ofW (cc := cX3_move) (maxL := 5) (ret := none) (by decide) rfl ?_
  intro p e s m args below meth c s₁ B hml hv
  obtain ⟨rfl, hsz, hP, hK, hD0, hE⟩ := hv
  have hx := B.exec
  have hb := B.bytes
  have hr := B.returns
  have hts0 := atoms_spec (ws := ws_ yX3_move cX3_move 5 none) B.pre
  have hts := fun (w : Cond) (h : w ∈ LW) => hts0 w (List.mem_cons_of_mem _ h)
  have hown : s.vm.findClass RX3 = some m.cls := findClass_of_methodNamed B.named
  have hlocks := B.notSynchronized
  subst hsz
  have hD := hD0.self (sz := s.heap.size)
  generalize hAe : va_A (wTD cI cF cJ ot oh b ou od ow oa ob ok os T) s.heap.size = A at hD ⊢
  have hA : ∀ q : Nat, s.heap.size ≤ q → A q := fun q h => by rw [← hAe]; exact Or.inr h
  have hS : va_S A s.heap s.heap [] := va_S.rf
  have hkc := Nat.zero_le rm_X3_move.cells
  have hks := Nat.zero_le rm_X3_move.slots
  have hl := lv_entry ([.ref ot, .int p0, .int 0, .int p1]) (n := 5) (Nat.le_of_ble_eq_true rfl)
  rw [lg_entry_eq]
  generalize (lg_sl ([.ref ot, .int p0, .int 0, .int p1]) ++ List.replicate (5 - (lg_sl ([.ref ot, .int p0, .int 0, .int p1])).length) Slot.unset).toArray = ls at hl ⊢
  have hl : lv_has ls 5 [(0, .ref ot), (1, .int p0), (2, .int 0), (3, .int p1)] := hl
  rw [f_X3_move] at hf
  refine lv_iload_n hx hb dX3_move_0 rfl (lv_at hl 3 rfl) ?_
  refine lv_if_ne (tgt := 5) hx hb dX3_move_1 (by decide) (fun c1 => ?_) (fun c1 => ?_)
  · have hf := ite_f hf c1
    refine lv_iload_n hx hb dX3_move_5 rfl (lv_at hl 3 rfl) ?_
    refine va_mabs hx hb (hml.trans hl.1.symm) hown (hts _ q379) (hts _ q60) (hts _ q61) (hts _ q62) (Nat.le_of_ble_eq_true rfl) (Nat.le_of_ble_eq_true rfl) hkc hks dX3_move_6 ?_
    refine lv_topi (fun v2 ev2 => ?_)
    have hf := bnd_all hf v2 ev2
    refine lv_istore (lv' := [(4, .int v2), (0, .ref ot), (1, .int p0), (2, .int 0), (3, .int p1)]) hx hb dX3_move_9 hl (by decide) rfl (fun ls hl => ?_)
    refine lv_aload_n hx hb dX3_move_11 rfl (lv_at hl 1 rfl) ?_
    refine lv_dup hx hb dX3_move_12 rfl ?_
    refine va_get (D := (dC, dI)) (ci := 3) (v := .long (tTi T)) (C := RX3) (T := TX3) (N := 12) hx hb hts iX3 hown hK hP 0 rfl rfl 11 (by decide) (hts _ q380) (fun _ h9 => h9) rfl dX3_move_13 ?_
    refine lv_iconst (v := 2) hx hb dX3_move_16 (by decide) ?_
    refine lv_aload_n hx hb dX3_move_17 rfl (lv_at hl 1 rfl) ?_
    refine va_get (D := (dC, dI)) (ci := 3) (v := .int (tHa T)) (C := RX3) (T := TX3) (N := 12) hx hb hts iX3 hown hK hP 0 rfl rfl 10 (by decide) (hts _ q381) (fun _ h9 => h9) rfl dX3_move_18 ?_
    refine lv_iload_n hx hb dX3_move_21 rfl (lv_at hl 2 rfl) ?_
    refine lv_isub hx hb dX3_move_22 ?_
    refine lv_topi (fun v3 ev3 => ?_)
    have hf := bnd_all hf v3 ev3
    refine va_mabs hx hb (hml.trans hl.1.symm) hown (hts _ q379) (hts _ q60) (hts _ q61) (hts _ q62) (Nat.le_of_ble_eq_true rfl) (Nat.le_of_ble_eq_true rfl) hkc hks dX3_move_23 ?_
    refine lv_topi (fun v4 ev4 => ?_)
    have hf := bnd_all hf v4 ev4
    refine lv_imul hx hb dX3_move_26 ?_
    refine lv_topi (fun v5 ev5 => ?_)
    have hf := bnd_all hf v5 ev5
    refine lv_iconst (v := 4) hx hb dX3_move_27 (by decide) ?_
    refine lv_iload hx hb dX3_move_28 (lv_at hl 0 rfl) ?_
    refine lv_iadd hx hb dX3_move_30 ?_
    refine lv_topi (fun v6 ev6 => ?_)
    have hf := bnd_all hf v6 ev6
    refine lv_aload_n hx hb dX3_move_31 rfl (lv_at hl 1 rfl) ?_
    refine va_get (D := (dC, dI)) (ci := 3) (v := .ref ow) (C := RX3) (T := TX3) (N := 12) hx hb hts iX3 hown hK hP 0 rfl rfl 7 (by decide) (hts _ q348) (fun _ h9 => h9) rfl dX3_move_32 ?_
    refine lv_iload_n hx hb dX3_move_35 rfl (lv_at hl 3 rfl) ?_
    refine sb_aldJ hx hb hK hP 3 2 rfl rfl (gin_in (by decide)) dX3_move_36 ?_
    refine sb_topv (v' := .ref oa) rfl ?_
    refine lv_iload_n hx hb dX3_move_37 rfl (lv_at hl 2 rfl) ?_
    obtain ⟨g7, hf⟩ := gd_e hf
    refine va_iald hx hb hK hP 4 0 rfl rfl (gin_in g7) dX3_move_38 ?_
    refine lv_topi (fun v8 ev8 => ?_)
    have hf := bnd_all hf v8 ev8
    refine lv_bipush (v := 40) hx hb dX3_move_39 (by decide) ?_
    refine lv_icmp_lt (tgt := 48) hx hb dX3_move_41 (by decide) (fun c9 => ?_) (fun c9 => ?_)
    · have hf := ite_t hf c9
      refine lv_iconst (v := 1) hx hb dX3_move_48 (by decide) ?_
      refine lv_imul hx hb dX3_move_49 ?_
      refine lv_topi (fun v10 ev10 => ?_)
      have hf := bnd_all hf v10 ev10
      refine lv_iadd hx hb dX3_move_50 ?_
      refine lv_topi (fun v11 ev11 => ?_)
      have hf := bnd_all hf v11 ev11
      refine lv_i2l hx hb dX3_move_51 rfl ?_
      refine lv_topl (fun v12 ev12 => ?_)
      have hf := bnd_all hf v12 ev12
      refine lv_ladd hx hb dX3_move_52 ?_
      refine lv_topl (fun v13 ev13 => ?_)
      have hf := bnd_all hf v13 ev13
      refine va_put (D := (dC, dI)) (ci := 3) (v := .long v13) (ty := .long) (C := RX3) (T := TX3) (N := 12) hx hb hts iX3 tyX3 tyX3_ok nmX3 hown hK hP hD hS 0 rfl rfl 11 (by decide) (hts _ q380) (fun _ h9 => h9) rfl (by decide +kernel) rfl rfl (Nat.le_of_ble_eq_true rfl) dX3_move_53 (fun H locs hP hD hS => ?_)
      have hP : va_P (dC, dI) vwCl (wTD cI cF cJ ot oh b ou od ow oa ob ok os (stTi T v13)) H := hP
      have hD : va_D A (wTD cI cF cJ ot oh b ou od ow oa ob ok os (stTi T v13)) := hD
      refine lv_aload_n hx hb dX3_move_56 rfl (lv_at hl 1 rfl) ?_
      refine lv_iload_n hx hb dX3_move_57 rfl (lv_at hl 2 rfl) ?_
      refine va_put (D := (dC, dI)) (ci := 3) (v := .int p0) (ty := .int) (C := RX3) (T := TX3) (N := 12) hx hb hts iX3 tyX3 tyX3_ok nmX3 hown hK hP hD hS 0 rfl rfl 10 (by decide) (hts _ q381) (fun _ h9 => h9) rfl (by decide +kernel) rfl rfl (Nat.le_of_ble_eq_true rfl) dX3_move_58 (fun H locs hP hD hS => ?_)
      have hP : va_P (dC, dI) vwCl (wTD cI cF cJ ot oh b ou od ow oa ob ok os (stTi (stHa T p0) v13)) H := hP
      have hD : va_D A (wTD cI cF cJ ot oh b ou od ow oa ob ok os (stTi (stHa T p0) v13)) := hD
      refine lv_aload_n hx hb dX3_move_61 rfl (lv_at hl 1 rfl) ?_
      refine va_get (D := (dC, dI)) (ci := 3) (v := .ref ow) (C := RX3) (T := TX3) (N := 12) hx hb hts iX3 hown hK hP 0 rfl rfl 7 (by decide) (hts _ q348) (fun _ h9 => h9) rfl dX3_move_62 ?_
      refine lv_iload_n hx hb dX3_move_65 rfl (lv_at hl 3 rfl) ?_
      refine sb_aldJ hx hb hK hP 3 2 rfl rfl (gin_in (by decide)) dX3_move_66 ?_
      refine sb_topv (v' := .ref oa) rfl ?_
      refine lv_iload_n hx hb dX3_move_67 rfl (lv_at hl 2 rfl) ?_
      refine lv_dup2_11 hx hb dX3_move_68 rfl rfl ?_
      obtain ⟨g14, hf⟩ := gd_e hf
      refine va_iald hx hb hK hP 4 0 rfl rfl (gin_in g14) dX3_move_69 ?_
      refine lv_topi (fun v15 ev15 => ?_)
      have hf := bnd_all hf v15 ev15
      refine lv_iload hx hb dX3_move_70 (lv_at hl 0 rfl) ?_
      refine lv_iadd hx hb dX3_move_72 ?_
      refine lv_topi (fun v16 ev16 => ?_)
      have hf := bnd_all hf v16 ev16
      obtain ⟨g17, hf⟩ := gd_e hf
      refine va_iast hx hb hK hP hD hS 4 0 rfl rfl (gin_in g17) dX3_move_73 (fun H locs hP hD hS => ?_)
      have hP : va_P (dC, dI) vwCl (wTD cI cF cJ ot oh b ou od ow oa ob ok os (stTi (stHa (stWa T (upd (tWa T) (Int32.toNatClampNeg p0) v16)) p0) v13)) H := hP
      have hD : va_D A (wTD cI cF cJ ot oh b ou od ow oa ob ok os (stTi (stHa (stWa T (upd (tWa T) (Int32.toNatClampNeg p0) v16)) p0) v13)) := hD
      refine lv_aload_n hx hb dX3_move_74 rfl (lv_at hl 1 rfl) ?_
      refine va_get (D := (dC, dI)) (ci := 3) (v := .ref os) (C := RX3) (T := TX3) (N := 12) hx hb hts iX3 hown hK hP 0 rfl rfl 9 (by decide) (hts _ q331) (fun _ h9 => h9) rfl dX3_move_75 ?_
      refine lv_iconst (v := 0) hx hb dX3_move_78 (by decide) ?_
      refine lv_dup2_11 hx hb dX3_move_79 rfl rfl ?_
      obtain ⟨g18, hf⟩ := gd_e hf
      refine va_iald hx hb hK hP 6 0 rfl rfl (gin_in g18) dX3_move_80 ?_
      refine lv_topi (fun v19 ev19 => ?_)
      have hf := bnd_all hf v19 ev19
      refine lv_iconst (v := 1) hx hb dX3_move_81 (by decide) ?_
      refine lv_iadd hx hb dX3_move_82 ?_
      refine lv_topi (fun v20 ev20 => ?_)
      have hf := bnd_all hf v20 ev20
      obtain ⟨g21, hf⟩ := gd_e hf
      refine va_iast hx hb hK hP hD hS 6 0 rfl rfl (gin_in g21) dX3_move_83 (fun H locs hP hD hS => ?_)
      have hP : va_P (dC, dI) vwCl (wTD cI cF cJ ot oh b ou od ow oa ob ok os (stTi (stHa (stSm (stWa T (upd (tWa T) (Int32.toNatClampNeg p0) v16)) (upd (tSm T) (Int32.toNatClampNeg 0) v20)) p0) v13)) H := hP
      have hD : va_D A (wTD cI cF cJ ot oh b ou od ow oa ob ok os (stTi (stHa (stSm (stWa T (upd (tWa T) (Int32.toNatClampNeg p0) v16)) (upd (tSm T) (Int32.toNatClampNeg 0) v20)) p0) v13)) := hD
      refine lv_aload_n hx hb dX3_move_84 rfl (lv_at hl 1 rfl) ?_
      refine va_get (D := (dC, dI)) (ci := 3) (v := .ref os) (C := RX3) (T := TX3) (N := 12) hx hb hts iX3 hown hK hP 0 rfl rfl 9 (by decide) (hts _ q331) (fun _ h9 => h9) rfl dX3_move_85 ?_
      refine lv_iconst (v := 1) hx hb dX3_move_88 (by decide) ?_
      refine lv_dup2_11 hx hb dX3_move_89 rfl rfl ?_
      obtain ⟨g22, hf⟩ := gd_e hf
      refine va_iald hx hb hK hP 6 0 rfl rfl (gin_in g22) dX3_move_90 ?_
      refine lv_topi (fun v23 ev23 => ?_)
      have hf := bnd_all hf v23 ev23
      refine lv_iload hx hb dX3_move_91 (lv_at hl 0 rfl) ?_
      refine lv_iadd hx hb dX3_move_93 ?_
      refine lv_topi (fun v24 ev24 => ?_)
      have hf := bnd_all hf v24 ev24
      obtain ⟨g25, hf⟩ := gd_e hf
      refine va_iast hx hb hK hP hD hS 6 0 rfl rfl (gin_in g25) dX3_move_94 (fun H locs hP hD hS => ?_)
      have hP : va_P (dC, dI) vwCl (wTD cI cF cJ ot oh b ou od ow oa ob ok os (stTi (stHa (stSm (stWa T (upd (tWa T) (Int32.toNatClampNeg p0) v16)) (upd (upd (tSm T) (Int32.toNatClampNeg 0) v20) (Int32.toNatClampNeg 1) v24)) p0) v13)) H := hP
      have hD : va_D A (wTD cI cF cJ ot oh b ou od ow oa ob ok os (stTi (stHa (stSm (stWa T (upd (tWa T) (Int32.toNatClampNeg p0) v16)) (upd (upd (tSm T) (Int32.toNatClampNeg 0) v20) (Int32.toNatClampNeg 1) v24)) p0) v13)) := hD
      refine lv_iload_n hx hb dX3_move_95 rfl (lv_at hl 3 rfl) ?_
      refine lv_if_ne (tgt := 112) hx hb dX3_move_96 (by decide) (fun c9 => absurd (by decide) c9) (fun _ => ?_)
      refine lv_aload_n hx hb dX3_move_99 rfl (lv_at hl 1 rfl) ?_
      refine va_get (D := (dC, dI)) (ci := 3) (v := .ref ou) (C := RX3) (T := TX3) (N := 12) hx hb hts iX3 hown hK hP 0 rfl rfl 5 (by decide) (hts _ q345) (fun _ h9 => h9) rfl dX3_move_100 ?_
      refine lv_iload_n hx hb dX3_move_103 rfl (lv_at hl 2 rfl) ?_
      refine lv_dup2_11 hx hb dX3_move_104 rfl rfl ?_
      obtain ⟨g26, hf⟩ := gd_e hf
      refine va_iald hx hb hK hP 1 0 rfl rfl (gin_in g26) dX3_move_105 ?_
      refine lv_topi (fun v27 ev27 => ?_)
      have hf := bnd_all hf v27 ev27
      refine lv_iload_n hx hb dX3_move_106 rfl (lv_at hl 4 rfl) ?_
      refine lv_iadd hx hb dX3_move_107 ?_
      refine lv_topi (fun v28 ev28 => ?_)
      have hf := bnd_all hf v28 ev28
      obtain ⟨g29, hf⟩ := gd_e hf
      refine va_iast hx hb hK hP hD hS 1 0 rfl rfl (gin_in g29) dX3_move_108 (fun H locs hP hD hS => ?_)
      have hP : va_P (dC, dI) vwCl (wTD cI cF cJ ot oh b ou od ow oa ob ok os (stTi (stHa (stSm (stWa (stUp T (upd (tUp T) (Int32.toNatClampNeg p0) v28)) (upd (tWa T) (Int32.toNatClampNeg p0) v16)) (upd (upd (tSm T) (Int32.toNatClampNeg 0) v20) (Int32.toNatClampNeg 1) v24)) p0) v13)) H := hP
      have hD : va_D A (wTD cI cF cJ ot oh b ou od ow oa ob ok os (stTi (stHa (stSm (stWa (stUp T (upd (tUp T) (Int32.toNatClampNeg p0) v28)) (upd (tWa T) (Int32.toNatClampNeg p0) v16)) (upd (upd (tSm T) (Int32.toNatClampNeg 0) v20) (Int32.toNatClampNeg 1) v24)) p0) v13)) := hD
      refine lv_goto (tgt := 122) hx hb dX3_move_109 (by decide) ?_
      obtain rfl := Option.some.inj hf
      exact W.vret hx hb hr (fun t ht hW => ⟨⟨(), rfl, trivial, by rw [ht]; exact hP, hD⟩, hS.F ht⟩) hS.2.2 dX3_move_122
    · have hf := ite_f hf c9
      refine lv_iconst (v := 2) hx hb dX3_move_44 (by decide) ?_
      refine lv_goto (tgt := 49) hx hb dX3_move_45 (by decide) ?_
      refine lv_imul hx hb dX3_move_49 ?_
      refine lv_topi (fun v30 ev30 => ?_)
      have hf := bnd_all hf v30 ev30
      refine lv_iadd hx hb dX3_move_50 ?_
      refine lv_topi (fun v31 ev31 => ?_)
      have hf := bnd_all hf v31 ev31
      refine lv_i2l hx hb dX3_move_51 rfl ?_
      refine lv_topl (fun v32 ev32 => ?_)
      have hf := bnd_all hf v32 ev32
      refine lv_ladd hx hb dX3_move_52 ?_
      refine lv_topl (fun v33 ev33 => ?_)
      have hf := bnd_all hf v33 ev33
      refine va_put (D := (dC, dI)) (ci := 3) (v := .long v33) (ty := .long) (C := RX3) (T := TX3) (N := 12) hx hb hts iX3 tyX3 tyX3_ok nmX3 hown hK hP hD hS 0 rfl rfl 11 (by decide) (hts _ q380) (fun _ h9 => h9) rfl (by decide +kernel) rfl rfl (Nat.le_of_ble_eq_true rfl) dX3_move_53 (fun H locs hP hD hS => ?_)
      have hP : va_P (dC, dI) vwCl (wTD cI cF cJ ot oh b ou od ow oa ob ok os (stTi T v33)) H := hP
      have hD : va_D A (wTD cI cF cJ ot oh b ou od ow oa ob ok os (stTi T v33)) := hD
      refine lv_aload_n hx hb dX3_move_56 rfl (lv_at hl 1 rfl) ?_
      refine lv_iload_n hx hb dX3_move_57 rfl (lv_at hl 2 rfl) ?_
      refine va_put (D := (dC, dI)) (ci := 3) (v := .int p0) (ty := .int) (C := RX3) (T := TX3) (N := 12) hx hb hts iX3 tyX3 tyX3_ok nmX3 hown hK hP hD hS 0 rfl rfl 10 (by decide) (hts _ q381) (fun _ h9 => h9) rfl (by decide +kernel) rfl rfl (Nat.le_of_ble_eq_true rfl) dX3_move_58 (fun H locs hP hD hS => ?_)
      have hP : va_P (dC, dI) vwCl (wTD cI cF cJ ot oh b ou od ow oa ob ok os (stTi (stHa T p0) v33)) H := hP
      have hD : va_D A (wTD cI cF cJ ot oh b ou od ow oa ob ok os (stTi (stHa T p0) v33)) := hD
      refine lv_aload_n hx hb dX3_move_61 rfl (lv_at hl 1 rfl) ?_
      refine va_get (D := (dC, dI)) (ci := 3) (v := .ref ow) (C := RX3) (T := TX3) (N := 12) hx hb hts iX3 hown hK hP 0 rfl rfl 7 (by decide) (hts _ q348) (fun _ h9 => h9) rfl dX3_move_62 ?_
      refine lv_iload_n hx hb dX3_move_65 rfl (lv_at hl 3 rfl) ?_
      refine sb_aldJ hx hb hK hP 3 2 rfl rfl (gin_in (by decide)) dX3_move_66 ?_
      refine sb_topv (v' := .ref oa) rfl ?_
      refine lv_iload_n hx hb dX3_move_67 rfl (lv_at hl 2 rfl) ?_
      refine lv_dup2_11 hx hb dX3_move_68 rfl rfl ?_
      obtain ⟨g34, hf⟩ := gd_e hf
      refine va_iald hx hb hK hP 4 0 rfl rfl (gin_in g34) dX3_move_69 ?_
      refine lv_topi (fun v35 ev35 => ?_)
      have hf := bnd_all hf v35 ev35
      refine lv_iload hx hb dX3_move_70 (lv_at hl 0 rfl) ?_
      refine lv_iadd hx hb dX3_move_72 ?_
      refine lv_topi (fun v36 ev36 => ?_)
      have hf := bnd_all hf v36 ev36
      obtain ⟨g37, hf⟩ := gd_e hf
      refine va_iast hx hb hK hP hD hS 4 0 rfl rfl (gin_in g37) dX3_move_73 (fun H locs hP hD hS => ?_)
      have hP : va_P (dC, dI) vwCl (wTD cI cF cJ ot oh b ou od ow oa ob ok os (stTi (stHa (stWa T (upd (tWa T) (Int32.toNatClampNeg p0) v36)) p0) v33)) H := hP
      have hD : va_D A (wTD cI cF cJ ot oh b ou od ow oa ob ok os (stTi (stHa (stWa T (upd (tWa T) (Int32.toNatClampNeg p0) v36)) p0) v33)) := hD
      refine lv_aload_n hx hb dX3_move_74 rfl (lv_at hl 1 rfl) ?_
      refine va_get (D := (dC, dI)) (ci := 3) (v := .ref os) (C := RX3) (T := TX3) (N := 12) hx hb hts iX3 hown hK hP 0 rfl rfl 9 (by decide) (hts _ q331) (fun _ h9 => h9) rfl dX3_move_75 ?_
      refine lv_iconst (v := 0) hx hb dX3_move_78 (by decide) ?_
      refine lv_dup2_11 hx hb dX3_move_79 rfl rfl ?_
      obtain ⟨g38, hf⟩ := gd_e hf
      refine va_iald hx hb hK hP 6 0 rfl rfl (gin_in g38) dX3_move_80 ?_
      refine lv_topi (fun v39 ev39 => ?_)
      have hf := bnd_all hf v39 ev39
      refine lv_iconst (v := 1) hx hb dX3_move_81 (by decide) ?_
      refine lv_iadd hx hb dX3_move_82 ?_
      refine lv_topi (fun v40 ev40 => ?_)
      have hf := bnd_all hf v40 ev40
      obtain ⟨g41, hf⟩ := gd_e hf
      refine va_iast hx hb hK hP hD hS 6 0 rfl rfl (gin_in g41) dX3_move_83 (fun H locs hP hD hS => ?_)
      have hP : va_P (dC, dI) vwCl (wTD cI cF cJ ot oh b ou od ow oa ob ok os (stTi (stHa (stSm (stWa T (upd (tWa T) (Int32.toNatClampNeg p0) v36)) (upd (tSm T) (Int32.toNatClampNeg 0) v40)) p0) v33)) H := hP
      have hD : va_D A (wTD cI cF cJ ot oh b ou od ow oa ob ok os (stTi (stHa (stSm (stWa T (upd (tWa T) (Int32.toNatClampNeg p0) v36)) (upd (tSm T) (Int32.toNatClampNeg 0) v40)) p0) v33)) := hD
      refine lv_aload_n hx hb dX3_move_84 rfl (lv_at hl 1 rfl) ?_
      refine va_get (D := (dC, dI)) (ci := 3) (v := .ref os) (C := RX3) (T := TX3) (N := 12) hx hb hts iX3 hown hK hP 0 rfl rfl 9 (by decide) (hts _ q331) (fun _ h9 => h9) rfl dX3_move_85 ?_
      refine lv_iconst (v := 1) hx hb dX3_move_88 (by decide) ?_
      refine lv_dup2_11 hx hb dX3_move_89 rfl rfl ?_
      obtain ⟨g42, hf⟩ := gd_e hf
      refine va_iald hx hb hK hP 6 0 rfl rfl (gin_in g42) dX3_move_90 ?_
      refine lv_topi (fun v43 ev43 => ?_)
      have hf := bnd_all hf v43 ev43
      refine lv_iload hx hb dX3_move_91 (lv_at hl 0 rfl) ?_
      refine lv_iadd hx hb dX3_move_93 ?_
      refine lv_topi (fun v44 ev44 => ?_)
      have hf := bnd_all hf v44 ev44
      obtain ⟨g45, hf⟩ := gd_e hf
      refine va_iast hx hb hK hP hD hS 6 0 rfl rfl (gin_in g45) dX3_move_94 (fun H locs hP hD hS => ?_)
      have hP : va_P (dC, dI) vwCl (wTD cI cF cJ ot oh b ou od ow oa ob ok os (stTi (stHa (stSm (stWa T (upd (tWa T) (Int32.toNatClampNeg p0) v36)) (upd (upd (tSm T) (Int32.toNatClampNeg 0) v40) (Int32.toNatClampNeg 1) v44)) p0) v33)) H := hP
      have hD : va_D A (wTD cI cF cJ ot oh b ou od ow oa ob ok os (stTi (stHa (stSm (stWa T (upd (tWa T) (Int32.toNatClampNeg p0) v36)) (upd (upd (tSm T) (Int32.toNatClampNeg 0) v40) (Int32.toNatClampNeg 1) v44)) p0) v33)) := hD
      refine lv_iload_n hx hb dX3_move_95 rfl (lv_at hl 3 rfl) ?_
      refine lv_if_ne (tgt := 112) hx hb dX3_move_96 (by decide) (fun c9 => absurd (by decide) c9) (fun _ => ?_)
      refine lv_aload_n hx hb dX3_move_99 rfl (lv_at hl 1 rfl) ?_
      refine va_get (D := (dC, dI)) (ci := 3) (v := .ref ou) (C := RX3) (T := TX3) (N := 12) hx hb hts iX3 hown hK hP 0 rfl rfl 5 (by decide) (hts _ q345) (fun _ h9 => h9) rfl dX3_move_100 ?_
      refine lv_iload_n hx hb dX3_move_103 rfl (lv_at hl 2 rfl) ?_
      refine lv_dup2_11 hx hb dX3_move_104 rfl rfl ?_
      obtain ⟨g46, hf⟩ := gd_e hf
      refine va_iald hx hb hK hP 1 0 rfl rfl (gin_in g46) dX3_move_105 ?_
      refine lv_topi (fun v47 ev47 => ?_)
      have hf := bnd_all hf v47 ev47
      refine lv_iload_n hx hb dX3_move_106 rfl (lv_at hl 4 rfl) ?_
      refine lv_iadd hx hb dX3_move_107 ?_
      refine lv_topi (fun v48 ev48 => ?_)
      have hf := bnd_all hf v48 ev48
      obtain ⟨g49, hf⟩ := gd_e hf
      refine va_iast hx hb hK hP hD hS 1 0 rfl rfl (gin_in g49) dX3_move_108 (fun H locs hP hD hS => ?_)
      have hP : va_P (dC, dI) vwCl (wTD cI cF cJ ot oh b ou od ow oa ob ok os (stTi (stHa (stSm (stWa (stUp T (upd (tUp T) (Int32.toNatClampNeg p0) v48)) (upd (tWa T) (Int32.toNatClampNeg p0) v36)) (upd (upd (tSm T) (Int32.toNatClampNeg 0) v40) (Int32.toNatClampNeg 1) v44)) p0) v33)) H := hP
      have hD : va_D A (wTD cI cF cJ ot oh b ou od ow oa ob ok os (stTi (stHa (stSm (stWa (stUp T (upd (tUp T) (Int32.toNatClampNeg p0) v48)) (upd (tWa T) (Int32.toNatClampNeg p0) v36)) (upd (upd (tSm T) (Int32.toNatClampNeg 0) v40) (Int32.toNatClampNeg 1) v44)) p0) v33)) := hD
      refine lv_goto (tgt := 122) hx hb dX3_move_109 (by decide) ?_
      obtain rfl := Option.some.inj hf
      exact W.vret hx hb hr (fun t ht hW => ⟨⟨(), rfl, trivial, by rw [ht]; exact hP, hD⟩, hS.F ht⟩) hS.2.2 dX3_move_122
  · have hf := ite_t hf c1
    obtain rfl := Option.some.inj hf
    exact W.vret hx hb hr (fun t ht hW => ⟨⟨(), rfl, trivial, by rw [ht]; exact hP, hD⟩, hS.F ht⟩) hS.2.2 dX3_move_4
noncomputable def f_X3_moveB (T : TD) (p0 : Int32) (p1 : Int32) : Option (TD) := if p1 = 0 then (some T) else (bnd (if 0 ≤ p1 then p1 else 0 - p1) fun (v2 : Int32) => bnd ((tHa T) - p0) fun (v3 : Int32) => bnd (if 0 ≤ v3 then v3 else 0 - v3) fun (v4 : Int32) => bnd (2 * v4) fun (v5 : Int32) => bnd (4 + v2) fun (v6 : Int32) => gd (gin p0 (tN T)) <| bnd ((tWb T) (Int32.toNatClampNeg p0)) fun (v8 : Int32) => if v8 < 40 then (bnd (v6 * 1) fun (v10 : Int32) => bnd (v5 + v10) fun (v11 : Int32) => bnd (v11.toInt64) fun (v12 : Int64) => bnd ((tTi T) + v12) fun (v13 : Int64) => gd (gin p0 (tN T)) <| bnd ((tWb T) (Int32.toNatClampNeg p0)) fun (v15 : Int32) => bnd (v15 + v2) fun (v16 : Int32) => gd (gin p0 (tN T)) <| gd (gin 0 5) <| bnd ((tSm T) (Int32.toNatClampNeg 0)) fun (v19 : Int32) => bnd (v19 + 1) fun (v20 : Int32) => gd (gin 0 5) <| gd (gin 1 5) <| bnd ((upd (tSm T) (Int32.toNatClampNeg 0) v20) (Int32.toNatClampNeg 1)) fun (v23 : Int32) => bnd (v23 + v2) fun (v24 : Int32) => gd (gin 1 5) <| gd (gin p0 (tN T)) <| bnd ((tDn T) (Int32.toNatClampNeg p0)) fun (v27 : Int32) => bnd (v27 + p1) fun (v28 : Int32) => gd (gin p0 (tN T)) <| some (stTi (stHa (stSm (stWb (stDn T (upd (tDn T) (Int32.toNatClampNeg p0) v28)) (upd (tWb T) (Int32.toNatClampNeg p0) v16)) (upd (upd (tSm T) (Int32.toNatClampNeg 0) v20) (Int32.toNatClampNeg 1) v24)) p0) v13)) else (bnd (v6 * 2) fun (v30 : Int32) => bnd (v5 + v30) fun (v31 : Int32) => bnd (v31.toInt64) fun (v32 : Int64) => bnd ((tTi T) + v32) fun (v33 : Int64) => gd (gin p0 (tN T)) <| bnd ((tWb T) (Int32.toNatClampNeg p0)) fun (v35 : Int32) => bnd (v35 + v2) fun (v36 : Int32) => gd (gin p0 (tN T)) <| gd (gin 0 5) <| bnd ((tSm T) (Int32.toNatClampNeg 0)) fun (v39 : Int32) => bnd (v39 + 1) fun (v40 : Int32) => gd (gin 0 5) <| gd (gin 1 5) <| bnd ((upd (tSm T) (Int32.toNatClampNeg 0) v40) (Int32.toNatClampNeg 1)) fun (v43 : Int32) => bnd (v43 + v2) fun (v44 : Int32) => gd (gin 1 5) <| gd (gin p0 (tN T)) <| bnd ((tDn T) (Int32.toNatClampNeg p0)) fun (v47 : Int32) => bnd (v47 + p1) fun (v48 : Int32) => gd (gin p0 (tN T)) <| some (stTi (stHa (stSm (stWb (stDn T (upd (tDn T) (Int32.toNatClampNeg p0) v48)) (upd (tWb T) (Int32.toNatClampNeg p0) v36)) (upd (upd (tSm T) (Int32.toNatClampNeg 0) v40) (Int32.toNatClampNeg 1) v44)) p0) v33)))
abbrev rm_X3_moveB : Room := { frames := 1, cells := 0, slots := 0, locals := 21 }
set_option maxHeartbeats 4000000 in
set_option maxRecDepth 100000 in
theorem c_X3_moveB (l : Launch) (dC : Nat → ClassId) (dI : Nat → Nat → Nat) (cI cF cJ cD : ClassId) (ot oh b ou od ow oa ob ok os : Nat) (T : TD) (p0 : Int32) (p1 : Int32) (res : (TD)) (hf : f_X3_moveB T p0 p1 = some res) (sz : Nat) : Met l yX3_move (ws_ yX3_move cX3_move 5 none) rm_X3_moveB (sbPre (dC, dI) (TY cI cF cJ cD) (wTD cI cF cJ ot oh b ou od ow oa ob ok os T) E0 sz [.ref ot, .int p0, .int 1, .int p1]) (va_Qv (fun (_ : Unit) => True) (sbEnd (dC, dI) (fun _ => wTD cI cF cJ ot oh b ou od ow oa ob ok os res) (va_A (wTD cI cF cJ ot oh b ou od ow oa ob ok os T) sz)) (va_A (wTD cI cF cJ ot oh b ou od ow oa ob ok os T) sz)) 0 0 (va_A (wTD cI cF cJ ot oh b ou od ow oa ob ok os T) sz) := by
  refine Met.ofW (cc := cX3_move) (maxL := 5) (ret := none) (by decide) rfl ?_
  intro p e s m args below meth c s₁ B hml hv
  obtain ⟨rfl, hsz, hP, hK, hD0, hE⟩ := hv
  have hx := B.exec
  have hb := B.bytes
  have hr := B.returns
  have hts0 := atoms_spec (ws := ws_ yX3_move cX3_move 5 none) B.pre
  have hts := fun (w : Cond) (h : w ∈ LW) => hts0 w (List.mem_cons_of_mem _ h)
  have hown : s.vm.findClass RX3 = some m.cls := findClass_of_methodNamed B.named
  have hlocks := B.notSynchronized
  subst hsz
  have hD := hD0.self (sz := s.heap.size)
  generalize hAe : va_A (wTD cI cF cJ ot oh b ou od ow oa ob ok os T) s.heap.size = A at hD ⊢
  have hA : ∀ q : Nat, s.heap.size ≤ q → A q := fun q h => by rw [← hAe]; exact Or.inr h
  have hS : va_S A s.heap s.heap [] := va_S.rf
  have hkc := Nat.zero_le rm_X3_moveB.cells
  have hks := Nat.zero_le rm_X3_moveB.slots
  have hl := lv_entry ([.ref ot, .int p0, .int 1, .int p1]) (n := 5) (Nat.le_of_ble_eq_true rfl)
  rw [lg_entry_eq]
  generalize (lg_sl ([.ref ot, .int p0, .int 1, .int p1]) ++ List.replicate (5 - (lg_sl ([.ref ot, .int p0, .int 1, .int p1])).length) Slot.unset).toArray = ls at hl ⊢
  have hl : lv_has ls 5 [(0, .ref ot), (1, .int p0), (2, .int 1), (3, .int p1)] := hl
  rw [f_X3_moveB] at hf
  refine lv_iload_n hx hb dX3_move_0 rfl (lv_at hl 3 rfl) ?_
  refine lv_if_ne (tgt := 5) hx hb dX3_move_1 (by decide) (fun c1 => ?_) (fun c1 => ?_)
  · have hf := ite_f hf c1
    refine lv_iload_n hx hb dX3_move_5 rfl (lv_at hl 3 rfl) ?_
    refine va_mabs hx hb (hml.trans hl.1.symm) hown (hts _ q379) (hts _ q60) (hts _ q61) (hts _ q62) (Nat.le_of_ble_eq_true rfl) (Nat.le_of_ble_eq_true rfl) hkc hks dX3_move_6 ?_
    refine lv_topi (fun v2 ev2 => ?_)
    have hf := bnd_all hf v2 ev2
    refine lv_istore (lv' := [(4, .int v2), (0, .ref ot), (1, .int p0), (2, .int 1), (3, .int p1)]) hx hb dX3_move_9 hl (by decide) rfl (fun ls hl => ?_)
    refine lv_aload_n hx hb dX3_move_11 rfl (lv_at hl 1 rfl) ?_
    refine lv_dup hx hb dX3_move_12 rfl ?_
    refine va_get (D := (dC, dI)) (ci := 3) (v := .long (tTi T)) (C := RX3) (T := TX3) (N := 12) hx hb hts iX3 hown hK hP 0 rfl rfl 11 (by decide) (hts _ q380) (fun _ h9 => h9) rfl dX3_move_13 ?_
    refine lv_iconst (v := 2) hx hb dX3_move_16 (by decide) ?_
    refine lv_aload_n hx hb dX3_move_17 rfl (lv_at hl 1 rfl) ?_
    refine va_get (D := (dC, dI)) (ci := 3) (v := .int (tHa T)) (C := RX3) (T := TX3) (N := 12) hx hb hts iX3 hown hK hP 0 rfl rfl 10 (by decide) (hts _ q381) (fun _ h9 => h9) rfl dX3_move_18 ?_
    refine lv_iload_n hx hb dX3_move_21 rfl (lv_at hl 2 rfl) ?_
    refine lv_isub hx hb dX3_move_22 ?_
    refine lv_topi (fun v3 ev3 => ?_)
    have hf := bnd_all hf v3 ev3
    refine va_mabs hx hb (hml.trans hl.1.symm) hown (hts _ q379) (hts _ q60) (hts _ q61) (hts _ q62) (Nat.le_of_ble_eq_true rfl) (Nat.le_of_ble_eq_true rfl) hkc hks dX3_move_23 ?_
    refine lv_topi (fun v4 ev4 => ?_)
    have hf := bnd_all hf v4 ev4
    refine lv_imul hx hb dX3_move_26 ?_
    refine lv_topi (fun v5 ev5 => ?_)
    have hf := bnd_all hf v5 ev5
    refine lv_iconst (v := 4) hx hb dX3_move_27 (by decide) ?_
    refine lv_iload hx hb dX3_move_28 (lv_at hl 0 rfl) ?_
    refine lv_iadd hx hb dX3_move_30 ?_
    refine lv_topi (fun v6 ev6 => ?_)
    have hf := bnd_all hf v6 ev6
    refine lv_aload_n hx hb dX3_move_31 rfl (lv_at hl 1 rfl) ?_
    refine va_get (D := (dC, dI)) (ci := 3) (v := .ref ow) (C := RX3) (T := TX3) (N := 12) hx hb hts iX3 hown hK hP 0 rfl rfl 7 (by decide) (hts _ q348) (fun _ h9 => h9) rfl dX3_move_32 ?_
    refine lv_iload_n hx hb dX3_move_35 rfl (lv_at hl 3 rfl) ?_
    refine sb_aldJ hx hb hK hP 3 2 rfl rfl (gin_in (by decide)) dX3_move_36 ?_
    refine sb_topv (v' := .ref ob) rfl ?_
    refine lv_iload_n hx hb dX3_move_37 rfl (lv_at hl 2 rfl) ?_
    obtain ⟨g7, hf⟩ := gd_e hf
    refine va_iald hx hb hK hP 5 0 rfl rfl (gin_in g7) dX3_move_38 ?_
    refine lv_topi (fun v8 ev8 => ?_)
    have hf := bnd_all hf v8 ev8
    refine lv_bipush (v := 40) hx hb dX3_move_39 (by decide) ?_
    refine lv_icmp_lt (tgt := 48) hx hb dX3_move_41 (by decide) (fun c9 => ?_) (fun c9 => ?_)
    · have hf := ite_t hf c9
      refine lv_iconst (v := 1) hx hb dX3_move_48 (by decide) ?_
      refine lv_imul hx hb dX3_move_49 ?_
      refine lv_topi (fun v10 ev10 => ?_)
      have hf := bnd_all hf v10 ev10
      refine lv_iadd hx hb dX3_move_50 ?_
      refine lv_topi (fun v11 ev11 => ?_)
      have hf := bnd_all hf v11 ev11
      refine lv_i2l hx hb dX3_move_51 rfl ?_
      refine lv_topl (fun v12 ev12 => ?_)
      have hf := bnd_all hf v12 ev12
      refine lv_ladd hx hb dX3_move_52 ?_
      refine lv_topl (fun v13 ev13 => ?_)
      have hf := bnd_all hf v13 ev13
      refine va_put (D := (dC, dI)) (ci := 3) (v := .long v13) (ty := .long) (C := RX3) (T := TX3) (N := 12) hx hb hts iX3 tyX3 tyX3_ok nmX3 hown hK hP hD hS 0 rfl rfl 11 (by decide) (hts _ q380) (fun _ h9 => h9) rfl (by decide +kernel) rfl rfl (Nat.le_of_ble_eq_true rfl) dX3_move_53 (fun H locs hP hD hS => ?_)
      have hP : va_P (dC, dI) vwCl (wTD cI cF cJ ot oh b ou od ow oa ob ok os (stTi T v13)) H := hP
      have hD : va_D A (wTD cI cF cJ ot oh b ou od ow oa ob ok os (stTi T v13)) := hD
      refine lv_aload_n hx hb dX3_move_56 rfl (lv_at hl 1 rfl) ?_
      refine lv_iload_n hx hb dX3_move_57 rfl (lv_at hl 2 rfl) ?_
      refine va_put (D := (dC, dI)) (ci := 3) (v := .int p0) (ty := .int) (C := RX3) (T := TX3) (N := 12) hx hb hts iX3 tyX3 tyX3_ok nmX3 hown hK hP hD hS 0 rfl rfl 10 (by decide) (hts _ q381) (fun _ h9 => h9) rfl (by decide +kernel) rfl rfl (Nat.le_of_ble_eq_true rfl) dX3_move_58 (fun H locs hP hD hS => ?_)
      have hP : va_P (dC, dI) vwCl (wTD cI cF cJ ot oh b ou od ow oa ob ok os (stTi (stHa T p0) v13)) H := hP
      have hD : va_D A (wTD cI cF cJ ot oh b ou od ow oa ob ok os (stTi (stHa T p0) v13)) := hD
      refine lv_aload_n hx hb dX3_move_61 rfl (lv_at hl 1 rfl) ?_
      refine va_get (D := (dC, dI)) (ci := 3) (v := .ref ow) (C := RX3) (T := TX3) (N := 12) hx hb hts iX3 hown hK hP 0 rfl rfl 7 (by decide) (hts _ q348) (fun _ h9 => h9) rfl dX3_move_62 ?_
      refine lv_iload_n hx hb dX3_move_65 rfl (lv_at hl 3 rfl) ?_
      refine sb_aldJ hx hb hK hP 3 2 rfl rfl (gin_in (by decide)) dX3_move_66 ?_
      refine sb_topv (v' := .ref ob) rfl ?_
      refine lv_iload_n hx hb dX3_move_67 rfl (lv_at hl 2 rfl) ?_
      refine lv_dup2_11 hx hb dX3_move_68 rfl rfl ?_
      obtain ⟨g14, hf⟩ := gd_e hf
      refine va_iald hx hb hK hP 5 0 rfl rfl (gin_in g14) dX3_move_69 ?_
      refine lv_topi (fun v15 ev15 => ?_)
      have hf := bnd_all hf v15 ev15
      refine lv_iload hx hb dX3_move_70 (lv_at hl 0 rfl) ?_
      refine lv_iadd hx hb dX3_move_72 ?_
      refine lv_topi (fun v16 ev16 => ?_)
      have hf := bnd_all hf v16 ev16
      obtain ⟨g17, hf⟩ := gd_e hf
      refine va_iast hx hb hK hP hD hS 5 0 rfl rfl (gin_in g17) dX3_move_73 (fun H locs hP hD hS => ?_)
      have hP : va_P (dC, dI) vwCl (wTD cI cF cJ ot oh b ou od ow oa ob ok os (stTi (stHa (stWb T (upd (tWb T) (Int32.toNatClampNeg p0) v16)) p0) v13)) H := hP
      have hD : va_D A (wTD cI cF cJ ot oh b ou od ow oa ob ok os (stTi (stHa (stWb T (upd (tWb T) (Int32.toNatClampNeg p0) v16)) p0) v13)) := hD
      refine lv_aload_n hx hb dX3_move_74 rfl (lv_at hl 1 rfl) ?_
      refine va_get (D := (dC, dI)) (ci := 3) (v := .ref os) (C := RX3) (T := TX3) (N := 12) hx hb hts iX3 hown hK hP 0 rfl rfl 9 (by decide) (hts _ q331) (fun _ h9 => h9) rfl dX3_move_75 ?_
      refine lv_iconst (v := 0) hx hb dX3_move_78 (by decide) ?_
      refine lv_dup2_11 hx hb dX3_move_79 rfl rfl ?_
      obtain ⟨g18, hf⟩ := gd_e hf
      refine va_iald hx hb hK hP 6 0 rfl rfl (gin_in g18) dX3_move_80 ?_
      refine lv_topi (fun v19 ev19 => ?_)
      have hf := bnd_all hf v19 ev19
      refine lv_iconst (v := 1) hx hb dX3_move_81 (by decide) ?_
      refine lv_iadd hx hb dX3_move_82 ?_
      refine lv_topi (fun v20 ev20 => ?_)
      have hf := bnd_all hf v20 ev20
      obtain ⟨g21, hf⟩ := gd_e hf
      refine va_iast hx hb hK hP hD hS 6 0 rfl rfl (gin_in g21) dX3_move_83 (fun H locs hP hD hS => ?_)
      have hP : va_P (dC, dI) vwCl (wTD cI cF cJ ot oh b ou od ow oa ob ok os (stTi (stHa (stSm (stWb T (upd (tWb T) (Int32.toNatClampNeg p0) v16)) (upd (tSm T) (Int32.toNatClampNeg 0) v20)) p0) v13)) H := hP
      have hD : va_D A (wTD cI cF cJ ot oh b ou od ow oa ob ok os (stTi (stHa (stSm (stWb T (upd (tWb T) (Int32.toNatClampNeg p0) v16)) (upd (tSm T) (Int32.toNatClampNeg 0) v20)) p0) v13)) := hD
      refine lv_aload_n hx hb dX3_move_84 rfl (lv_at hl 1 rfl) ?_
      refine va_get (D := (dC, dI)) (ci := 3) (v := .ref os) (C := RX3) (T := TX3) (N := 12) hx hb hts iX3 hown hK hP 0 rfl rfl 9 (by decide) (hts _ q331) (fun _ h9 => h9) rfl dX3_move_85 ?_
      refine lv_iconst (v := 1) hx hb dX3_move_88 (by decide) ?_
      refine lv_dup2_11 hx hb dX3_move_89 rfl rfl ?_
      obtain ⟨g22, hf⟩ := gd_e hf
      refine va_iald hx hb hK hP 6 0 rfl rfl (gin_in g22) dX3_move_90 ?_
      refine lv_topi (fun v23 ev23 => ?_)
      have hf := bnd_all hf v23 ev23
      refine lv_iload hx hb dX3_move_91 (lv_at hl 0 rfl) ?_
      refine lv_iadd hx hb dX3_move_93 ?_
      refine lv_topi (fun v24 ev24 => ?_)
      have hf := bnd_all hf v24 ev24
      obtain ⟨g25, hf⟩ := gd_e hf
      refine va_iast hx hb hK hP hD hS 6 0 rfl rfl (gin_in g25) dX3_move_94 (fun H locs hP hD hS => ?_)
      have hP : va_P (dC, dI) vwCl (wTD cI cF cJ ot oh b ou od ow oa ob ok os (stTi (stHa (stSm (stWb T (upd (tWb T) (Int32.toNatClampNeg p0) v16)) (upd (upd (tSm T) (Int32.toNatClampNeg 0) v20) (Int32.toNatClampNeg 1) v24)) p0) v13)) H := hP
      have hD : va_D A (wTD cI cF cJ ot oh b ou od ow oa ob ok os (stTi (stHa (stSm (stWb T (upd (tWb T) (Int32.toNatClampNeg p0) v16)) (upd (upd (tSm T) (Int32.toNatClampNeg 0) v20) (Int32.toNatClampNeg 1) v24)) p0) v13)) := hD
      refine lv_iload_n hx hb dX3_move_95 rfl (lv_at hl 3 rfl) ?_
      refine lv_if_ne (tgt := 112) hx hb dX3_move_96 (by decide) (fun _ => ?_) (fun c9 => absurd c9 (by decide))
      refine lv_aload_n hx hb dX3_move_112 rfl (lv_at hl 1 rfl) ?_
      refine va_get (D := (dC, dI)) (ci := 3) (v := .ref od) (C := RX3) (T := TX3) (N := 12) hx hb hts iX3 hown hK hP 0 rfl rfl 6 (by decide) (hts _ q346) (fun _ h9 => h9) rfl dX3_move_113 ?_
      refine lv_iload_n hx hb dX3_move_116 rfl (lv_at hl 2 rfl) ?_
      refine lv_dup2_11 hx hb dX3_move_117 rfl rfl ?_
      obtain ⟨g26, hf⟩ := gd_e hf
      refine va_iald hx hb hK hP 2 0 rfl rfl (gin_in g26) dX3_move_118 ?_
      refine lv_topi (fun v27 ev27 => ?_)
      have hf := bnd_all hf v27 ev27
      refine lv_iload_n hx hb dX3_move_119 rfl (lv_at hl 4 rfl) ?_
      refine lv_iadd hx hb dX3_move_120 ?_
      refine lv_topi (fun v28 ev28 => ?_)
      have hf := bnd_all hf v28 ev28
      obtain ⟨g29, hf⟩ := gd_e hf
      refine va_iast hx hb hK hP hD hS 2 0 rfl rfl (gin_in g29) dX3_move_121 (fun H locs hP hD hS => ?_)
      have hP : va_P (dC, dI) vwCl (wTD cI cF cJ ot oh b ou od ow oa ob ok os (stTi (stHa (stSm (stWb (stDn T (upd (tDn T) (Int32.toNatClampNeg p0) v28)) (upd (tWb T) (Int32.toNatClampNeg p0) v16)) (upd (upd (tSm T) (Int32.toNatClampNeg 0) v20) (Int32.toNatClampNeg 1) v24)) p0) v13)) H := hP
      have hD : va_D A (wTD cI cF cJ ot oh b ou od ow oa ob ok os (stTi (stHa (stSm (stWb (stDn T (upd (tDn T) (Int32.toNatClampNeg p0) v28)) (upd (tWb T) (Int32.toNatClampNeg p0) v16)) (upd (upd (tSm T) (Int32.toNatClampNeg 0) v20) (Int32.toNatClampNeg 1) v24)) p0) v13)) := hD
      obtain rfl := Option.some.inj hf
      exact W.vret hx hb hr (fun t ht hW => ⟨⟨(), rfl, trivial, by rw [ht]; exact hP, hD⟩, hS.F ht⟩) hS.2.2 dX3_move_122
    · have hf := ite_f hf c9
      refine lv_iconst (v := 2) hx hb dX3_move_44 (by decide) ?_
      refine lv_goto (tgt := 49) hx hb dX3_move_45 (by decide) ?_
      refine lv_imul hx hb dX3_move_49 ?_
      refine lv_topi (fun v30 ev30 => ?_)
      have hf := bnd_all hf v30 ev30
      refine lv_iadd hx hb dX3_move_50 ?_
      refine lv_topi (fun v31 ev31 => ?_)
      have hf := bnd_all hf v31 ev31
      refine lv_i2l hx hb dX3_move_51 rfl ?_
      refine lv_topl (fun v32 ev32 => ?_)
      have hf := bnd_all hf v32 ev32
      refine lv_ladd hx hb dX3_move_52 ?_
      refine lv_topl (fun v33 ev33 => ?_)
      have hf := bnd_all hf v33 ev33
      refine va_put (D := (dC, dI)) (ci := 3) (v := .long v33) (ty := .long) (C := RX3) (T := TX3) (N := 12) hx hb hts iX3 tyX3 tyX3_ok nmX3 hown hK hP hD hS 0 rfl rfl 11 (by decide) (hts _ q380) (fun _ h9 => h9) rfl (by decide +kernel) rfl rfl (Nat.le_of_ble_eq_true rfl) dX3_move_53 (fun H locs hP hD hS => ?_)
      have hP : va_P (dC, dI) vwCl (wTD cI cF cJ ot oh b ou od ow oa ob ok os (stTi T v33)) H := hP
      have hD : va_D A (wTD cI cF cJ ot oh b ou od ow oa ob ok os (stTi T v33)) := hD
      refine lv_aload_n hx hb dX3_move_56 rfl (lv_at hl 1 rfl) ?_
      refine lv_iload_n hx hb dX3_move_57 rfl (lv_at hl 2 rfl) ?_
      refine va_put (D := (dC, dI)) (ci := 3) (v := .int p0) (ty := .int) (C := RX3) (T := TX3) (N := 12) hx hb hts iX3 tyX3 tyX3_ok nmX3 hown hK hP hD hS 0 rfl rfl 10 (by decide) (hts _ q381) (fun _ h9 => h9) rfl (by decide +kernel) rfl rfl (Nat.le_of_ble_eq_true rfl) dX3_move_58 (fun H locs hP hD hS => ?_)
      have hP : va_P (dC, dI) vwCl (wTD cI cF cJ ot oh b ou od ow oa ob ok os (stTi (stHa T p0) v33)) H := hP
      have hD : va_D A (wTD cI cF cJ ot oh b ou od ow oa ob ok os (stTi (stHa T p0) v33)) := hD
      refine lv_aload_n hx hb dX3_move_61 rfl (lv_at hl 1 rfl) ?_
      refine va_get (D := (dC, dI)) (ci := 3) (v := .ref ow) (C := RX3) (T := TX3) (N := 12) hx hb hts iX3 hown hK hP 0 rfl rfl 7 (by decide) (hts _ q348) (fun _ h9 => h9) rfl dX3_move_62 ?_
      refine lv_iload_n hx hb dX3_move_65 rfl (lv_at hl 3 rfl) ?_
      refine sb_aldJ hx hb hK hP 3 2 rfl rfl (gin_in (by decide)) dX3_move_66 ?_
      refine sb_topv (v' := .ref ob) rfl ?_
      refine lv_iload_n hx hb dX3_move_67 rfl (lv_at hl 2 rfl) ?_
      refine lv_dup2_11 hx hb dX3_move_68 rfl rfl ?_
      obtain ⟨g34, hf⟩ := gd_e hf
      refine va_iald hx hb hK hP 5 0 rfl rfl (gin_in g34) dX3_move_69 ?_
      refine lv_topi (fun v35 ev35 => ?_)
      have hf := bnd_all hf v35 ev35
      refine lv_iload hx hb dX3_move_70 (lv_at hl 0 rfl) ?_
      refine lv_iadd hx hb dX3_move_72 ?_
      refine lv_topi (fun v36 ev36 => ?_)
      have hf := bnd_all hf v36 ev36
      obtain ⟨g37, hf⟩ := gd_e hf
      refine va_iast hx hb hK hP hD hS 5 0 rfl rfl (gin_in g37) dX3_move_73 (fun H locs hP hD hS => ?_)
      have hP : va_P (dC, dI) vwCl (wTD cI cF cJ ot oh b ou od ow oa ob ok os (stTi (stHa (stWb T (upd (tWb T) (Int32.toNatClampNeg p0) v36)) p0) v33)) H := hP
      have hD : va_D A (wTD cI cF cJ ot oh b ou od ow oa ob ok os (stTi (stHa (stWb T (upd (tWb T) (Int32.toNatClampNeg p0) v36)) p0) v33)) := hD
      refine lv_aload_n hx hb dX3_move_74 rfl (lv_at hl 1 rfl) ?_
      refine va_get (D := (dC, dI)) (ci := 3) (v := .ref os) (C := RX3) (T := TX3) (N := 12) hx hb hts iX3 hown hK hP 0 rfl rfl 9 (by decide) (hts _ q331) (fun _ h9 => h9) rfl dX3_move_75 ?_
      refine lv_iconst (v := 0) hx hb dX3_move_78 (by decide) ?_
      refine lv_dup2_11 hx hb dX3_move_79 rfl rfl ?_
      obtain ⟨g38, hf⟩ := gd_e hf
      refine va_iald hx hb hK hP 6 0 rfl rfl (gin_in g38) dX3_move_80 ?_
      refine lv_topi (fun v39 ev39 => ?_)
      have hf := bnd_all hf v39 ev39
      refine lv_iconst (v := 1) hx hb dX3_move_81 (by decide) ?_
      refine lv_iadd hx hb dX3_move_82 ?_
      refine lv_topi (fun v40 ev40 => ?_)
      have hf := bnd_all hf v40 ev40
      obtain ⟨g41, hf⟩ := gd_e hf
      refine va_iast hx hb hK hP hD hS 6 0 rfl rfl (gin_in g41) dX3_move_83 (fun H locs hP hD hS => ?_)
      have hP : va_P (dC, dI) vwCl (wTD cI cF cJ ot oh b ou od ow oa ob ok os (stTi (stHa (stSm (stWb T (upd (tWb T) (Int32.toNatClampNeg p0) v36)) (upd (tSm T) (Int32.toNatClampNeg 0) v40)) p0) v33)) H := hP
      have hD : va_D A (wTD cI cF cJ ot oh b ou od ow oa ob ok os (stTi (stHa (stSm (stWb T (upd (tWb T) (Int32.toNatClampNeg p0) v36)) (upd (tSm T) (Int32.toNatClampNeg 0) v40)) p0) v33)) := hD
      refine lv_aload_n hx hb dX3_move_84 rfl (lv_at hl 1 rfl) ?_
      refine va_get (D := (dC, dI)) (ci := 3) (v := .ref os) (C := RX3) (T := TX3) (N := 12) hx hb hts iX3 hown hK hP 0 rfl rfl 9 (by decide) (hts _ q331) (fun _ h9 => h9) rfl dX3_move_85 ?_
      refine lv_iconst (v := 1) hx hb dX3_move_88 (by decide) ?_
      refine lv_dup2_11 hx hb dX3_move_89 rfl rfl ?_
      obtain ⟨g42, hf⟩ := gd_e hf
      refine va_iald hx hb hK hP 6 0 rfl rfl (gin_in g42) dX3_move_90 ?_
      refine lv_topi (fun v43 ev43 => ?_)
      have hf := bnd_all hf v43 ev43
      refine lv_iload hx hb dX3_move_91 (lv_at hl 0 rfl) ?_
      refine lv_iadd hx hb dX3_move_93 ?_
      refine lv_topi (fun v44 ev44 => ?_)
      have hf := bnd_all hf v44 ev44
      obtain ⟨g45, hf⟩ := gd_e hf
      refine va_iast hx hb hK hP hD hS 6 0 rfl rfl (gin_in g45) dX3_move_94 (fun H locs hP hD hS => ?_)
      have hP : va_P (dC, dI) vwCl (wTD cI cF cJ ot oh b ou od ow oa ob ok os (stTi (stHa (stSm (stWb T (upd (tWb T) (Int32.toNatClampNeg p0) v36)) (upd (upd (tSm T) (Int32.toNatClampNeg 0) v40) (Int32.toNatClampNeg 1) v44)) p0) v33)) H := hP
      have hD : va_D A (wTD cI cF cJ ot oh b ou od ow oa ob ok os (stTi (stHa (stSm (stWb T (upd (tWb T) (Int32.toNatClampNeg p0) v36)) (upd (upd (tSm T) (Int32.toNatClampNeg 0) v40) (Int32.toNatClampNeg 1) v44)) p0) v33)) := hD
      refine lv_iload_n hx hb dX3_move_95 rfl (lv_at hl 3 rfl) ?_
      refine lv_if_ne (tgt := 112) hx hb dX3_move_96 (by decide) (fun _ => ?_) (fun c9 => absurd c9 (by decide))
      refine lv_aload_n hx hb dX3_move_112 rfl (lv_at hl 1 rfl) ?_
      refine va_get (D := (dC, dI)) (ci := 3) (v := .ref od) (C := RX3) (T := TX3) (N := 12) hx hb hts iX3 hown hK hP 0 rfl rfl 6 (by decide) (hts _ q346) (fun _ h9 => h9) rfl dX3_move_113 ?_
      refine lv_iload_n hx hb dX3_move_116 rfl (lv_at hl 2 rfl) ?_
      refine lv_dup2_11 hx hb dX3_move_117 rfl rfl ?_
      obtain ⟨g46, hf⟩ := gd_e hf
      refine va_iald hx hb hK hP 2 0 rfl rfl (gin_in g46) dX3_move_118 ?_
      refine lv_topi (fun v47 ev47 => ?_)
      have hf := bnd_all hf v47 ev47
      refine lv_iload_n hx hb dX3_move_119 rfl (lv_at hl 4 rfl) ?_
      refine lv_iadd hx hb dX3_move_120 ?_
      refine lv_topi (fun v48 ev48 => ?_)
      have hf := bnd_all hf v48 ev48
      obtain ⟨g49, hf⟩ := gd_e hf
      refine va_iast hx hb hK hP hD hS 2 0 rfl rfl (gin_in g49) dX3_move_121 (fun H locs hP hD hS => ?_)
      have hP : va_P (dC, dI) vwCl (wTD cI cF cJ ot oh b ou od ow oa ob ok os (stTi (stHa (stSm (stWb (stDn T (upd (tDn T) (Int32.toNatClampNeg p0) v48)) (upd (tWb T) (Int32.toNatClampNeg p0) v36)) (upd (upd (tSm T) (Int32.toNatClampNeg 0) v40) (Int32.toNatClampNeg 1) v44)) p0) v33)) H := hP
      have hD : va_D A (wTD cI cF cJ ot oh b ou od ow oa ob ok os (stTi (stHa (stSm (stWb (stDn T (upd (tDn T) (Int32.toNatClampNeg p0) v48)) (upd (tWb T) (Int32.toNatClampNeg p0) v36)) (upd (upd (tSm T) (Int32.toNatClampNeg 0) v40) (Int32.toNatClampNeg 1) v44)) p0) v33)) := hD
      obtain rfl := Option.some.inj hf
      exact W.vret hx hb hr (fun t ht hW => ⟨⟨(), rfl, trivial, by rw [ht]; exact hP, hD⟩, hS.F ht⟩) hS.2.2 dX3_move_122
  · have hf := ite_t hf c1
    obtain rfl := Option.some.inj hf
    exact W.vret hx hb hr (fun t ht hW => ⟨⟨(), rfl, trivial, by rw [ht]; exact hP, hD⟩, hS.F ht⟩) hS.2.2 dX3_move_4
noncomputable def l_X3_set_8 (c1 : Int32) (c2 : Int32) (k : Int32 → Int32 → TD → Option (TD)) : Nat → Int32 → Int32 → TD → Option (TD)
  | 0, _, _, _ => none
  | n + 1, a2, a3, F4 => if a3 < 0 then (k a2 a3 F4) else (bnd (5 * a3) fun (v6 : Int32) => bnd (c2 - v6) fun (v7 : Int32) => if v7 < 0 then (bnd (a3 + (-1)) fun (v9 : Int32) => l_X3_set_8 c1 c2 k n a2 v9 F4) else (obd (f_X3_downs F4) fun x10 => if v7 ≤ x10 then (if a2 < 0 then (bnd (a3 + (-1)) fun (v13 : Int32) => l_X3_set_8 c1 c2 k n a3 v13 F4) else (obd (f_X3_pushes F4 c1 a3 v7) fun x14 => bnd (5 * a2) fun (v15 : Int32) => bnd (c2 - v15) fun (v16 : Int32) => obd (f_X3_pushes F4 c1 a2 v16) fun x17 => if x14 < x17 then (bnd (a3 + (-1)) fun (v19 : Int32) => l_X3_set_8 c1 c2 k n a3 v19 F4) else (obd (f_X3_pushes F4 c1 a3 v7) fun x20 => bnd (5 * a2) fun (v21 : Int32) => bnd (c2 - v21) fun (v22 : Int32) => obd (f_X3_pushes F4 c1 a2 v22) fun x23 => if x20 = x23 then (obd (f_X3_beads F4 c1 a3 v7) fun x26 => bnd (5 * a2) fun (v27 : Int32) => bnd (c2 - v27) fun (v28 : Int32) => obd (f_X3_beads F4 c1 a2 v28) fun x29 => if x29 ≤ x26 then (bnd (a3 + (-1)) fun (v31 : Int32) => l_X3_set_8 c1 c2 k n a2 v31 F4) else (bnd (a3 + (-1)) fun (v32 : Int32) => l_X3_set_8 c1 c2 k n a3 v32 F4)) else (bnd (a3 + (-1)) fun (v25 : Int32) => l_X3_set_8 c1 c2 k n a2 v25 F4)))) else (bnd (a3 + (-1)) fun (v33 : Int32) => l_X3_set_8 c1 c2 k n a2 v33 F4)))
noncomputable def f_X3_set (T : TD) (p0 : Int32) (p1 : Int32) : Option (TD) := obd (f_X3_ups T) fun x1 => l_X3_set_8 p0 p1 (fun (a69 : Int32) (a70 : Int32) (F71 : TD) => bnd (5 * a69) fun (v72 : Int32) => bnd (p1 - v72) fun (v73 : Int32) => gd (gin p0 (tN F71)) <| bnd ((tUp F71) (Int32.toNatClampNeg p0)) fun (v75 : Int32) => bnd (a69 - v75) fun (v76 : Int32) => obd (f_X3_move F71 p0 v76) fun x77 => gd (gin p0 (tN x77)) <| bnd ((tDn x77) (Int32.toNatClampNeg p0)) fun (v79 : Int32) => bnd (v73 - v79) fun (v80 : Int32) => obd (f_X3_moveB x77 p0 v80) fun x81 => some x81) 16 (-1) x1 T
theorem pc_X3_set : yX3_set.cls = RX3 ∧ yX3_set.cls ≠ "java/lang/invoke/MethodHandle" ∧ yX3_set.cls ≠ "java/lang/invoke/VarHandle" ∧ (parseMethodDescriptor yX3_set.desc).map (fun d => d.parameters.length) = some 2 := by decide +kernel
abbrev rm_X3_set : Room := { frames := 2, cells := 0, slots := 0, locals := 45 }
set_option maxHeartbeats 4000000 in
set_option maxRecDepth 100000 in
theorem c_X3_set (l : Launch) (dC : Nat → ClassId) (dI : Nat → Nat → Nat) (cI cF cJ cD : ClassId) (ot oh b ou od ow oa ob ok os : Nat) (T : TD) (p0 : Int32) (p1 : Int32) (res : (TD)) (hf : f_X3_set T p0 p1 = some res) (sz : Nat) : Met l yX3_set (ws_ yX3_set cX3_set 6 none) rm_X3_set (sbPre (dC, dI) (TY cI cF cJ cD) (wTD cI cF cJ ot oh b ou od ow oa ob ok os T) E0 sz [.ref ot, .int p0, .int p1]) (va_Qv (fun (_ : Unit) => True) (sbEnd (dC, dI) (fun _ => wTD cI cF cJ ot oh b ou od ow oa ob ok os res) (va_A (wTD cI cF cJ ot oh b ou od ow oa ob ok os T) sz)) (va_A (wTD cI cF cJ ot oh b ou od ow oa ob ok os T) sz)) 0 0 (va_A (wTD cI cF cJ ot oh b ou od ow oa ob ok os T) sz) := by
  refine Met.ofW (cc := cX3_set) (maxL := 6) (ret := none) (by decide) rfl ?_
  intro p e s m args below meth c s₁ B hml hv
  obtain ⟨rfl, hsz, hP, hK, hD0, hE⟩ := hv
  have hx := B.exec
  have hb := B.bytes
  have hr := B.returns
  have hts0 := atoms_spec (ws := ws_ yX3_set cX3_set 6 none) B.pre
  have hts := fun (w : Cond) (h : w ∈ LW) => hts0 w (List.mem_cons_of_mem _ h)
  have hown : s.vm.findClass RX3 = some m.cls := findClass_of_methodNamed B.named
  have hlocks := B.notSynchronized
  subst hsz
  have hD := hD0.self (sz := s.heap.size)
  generalize hAe : va_A (wTD cI cF cJ ot oh b ou od ow oa ob ok os T) s.heap.size = A at hD ⊢
  have hA : ∀ q : Nat, s.heap.size ≤ q → A q := fun q h => by rw [← hAe]; exact Or.inr h
  have hS : va_S A s.heap s.heap [] := va_S.rf
  have hkc := Nat.zero_le rm_X3_set.cells
  have hks := Nat.zero_le rm_X3_set.slots
  have hl := lv_entry ([.ref ot, .int p0, .int p1]) (n := 6) (Nat.le_of_ble_eq_true rfl)
  rw [lg_entry_eq]
  generalize (lg_sl ([.ref ot, .int p0, .int p1]) ++ List.replicate (6 - (lg_sl ([.ref ot, .int p0, .int p1])).length) Slot.unset).toArray = ls at hl ⊢
  have hl : lv_has ls 6 [(0, .ref ot), (1, .int p0), (2, .int p1)] := hl
  rw [f_X3_set] at hf
  refine lv_iconst (v := (-1)) hx hb dX3_set_0 (by decide) ?_
  refine lv_istore_n (lv' := [(3, .int (-1)), (0, .ref ot), (1, .int p0), (2, .int p1)]) hx hb dX3_set_1 rfl hl (by decide) rfl (fun ls hl => ?_)
  refine lv_aload_n hx hb dX3_set_2 rfl (lv_at hl 1 rfl) ?_
  obtain ⟨x1, hx1, hf⟩ := obd_e hf
  refine sb_Vi (As := []) (rest := []) ⟨hx, hb, hml, hown, hts⟩ (fun sz => c_X3_ups l dC dI cI cF cJ cD ot oh b ou od ow oa ob ok os T  x1 hx1 sz) (cwV 0 hts (g_V q360 q361 q362 q352 q357) rfl rfl rfl pc_X3_ups ⟨Nat.le_of_ble_eq_true rfl, Nat.le_of_ble_eq_true rfl⟩) 0 3 rfl rfl hK hP hD hS hA [0, 1, 2, 3, 4, 5, 6] [] rfl rfl (by decide) (by decide) (by decide) (fun _ _ _ _ h => h) (fun _ _ _ => trivial) rfl rfl hl.1 (Nat.le_of_ble_eq_true rfl) dX3_set_3 ⟨hkc, hks⟩ (fun r9 u H locs hr9 hP hD hS => ?_)
  have hr9 := Eq.symm hr9
  subst hr9
  have hP : va_P (dC, dI) vwCl (wTD cI cF cJ ot oh b ou od ow oa ob ok os T) H := hP
  have hD : va_D A (wTD cI cF cJ ot oh b ou od ow oa ob ok os T) := hD
  refine lv_istore (lv' := [(4, .int x1), (3, .int (-1)), (0, .ref ot), (1, .int p0), (2, .int p1)]) hx hb dX3_set_6 hl (by decide) rfl (fun ls hl => ?_)
  have L8 : ∀ (k : Int32 → Int32 → TD → Option (TD)), (∀ (a34 : Int32) (a35 : Int32) (F36 : TD) (H : Heap) (locs : List Loc) (ls : Array Slot), va_P (dC, dI) vwCl (wTD cI cF cJ ot oh b ou od ow oa ob ok os F36) H → va_D A (wTD cI cF cJ ot oh b ou od ow oa ob ok os F36) → va_S A s.heap H locs → lv_has ls 6 [(3, .int a34), (0, .ref ot), (1, .int p0), (2, .int p1)] → k a34 a35 F36 = some res → W p l e (headSpec (ws_ yX3_set cX3_set 6 none) rm_X3_set).room s m ([.ref ot, .int p0, .int p1].toArray) below meth c H locs 0 0 (MQ below (va_Qv (fun (_ : Unit) => True) (sbEnd (dC, dI) (fun _ => wTD cI cF cJ ot oh b ou od ow oa ob ok os res) (A)) (A)) ([.ref ot, .int p0, .int p1].toArray) s 0 0 A) (F0 m 120 ls [])) → ∀ (n : Nat) (a34 : Int32) (a35 : Int32) (F36 : TD) (H : Heap) (locs : List Loc) (ls : Array Slot), va_P (dC, dI) vwCl (wTD cI cF cJ ot oh b ou od ow oa ob ok os F36) H → va_D A (wTD cI cF cJ ot oh b ou od ow oa ob ok os F36) → va_S A s.heap H locs → lv_has ls 6 [(3, .int a34), (4, .int a35), (0, .ref ot), (1, .int p0), (2, .int p1)] → l_X3_set_8 p0 p1 k n a34 a35 F36 = some res → W p l e (headSpec (ws_ yX3_set cX3_set 6 none) rm_X3_set).room s m ([.ref ot, .int p0, .int p1].toArray) below meth c H locs 0 0 (MQ below (va_Qv (fun (_ : Unit) => True) (sbEnd (dC, dI) (fun _ => wTD cI cF cJ ot oh b ou od ow oa ob ok os res) (A)) (A)) ([.ref ot, .int p0, .int p1].toArray) s 0 0 A) (F0 m 8 ls []) := by
    intro k hk n
    induction n with
    | zero =>
      intro a37 a38 F39 H locs ls hP hD hS hl hf
      rw [l_X3_set_8] at hf
      cases hf
    | succ n ih =>
      intro a37 a38 F39 H locs ls hP hD hS hl hf
      rw [l_X3_set_8] at hf
      refine lv_iload hx hb dX3_set_8 (lv_at hl 1 rfl) ?_
      refine lv_if_lt (tgt := 120) hx hb dX3_set_10 (by decide) (fun c40 => ?_) (fun c40 => ?_)
      · have hf := ite_t hf c40
        exact hk a37 a38 F39 _ _ _ hP hD hS (lv_sub hl [0, 2, 3, 4] rfl) hf
      · have hf := ite_f hf c40
        refine lv_iload_n hx hb dX3_set_13 rfl (lv_at hl 4 rfl) ?_
        refine lv_iconst (v := 5) hx hb dX3_set_14 (by decide) ?_
        refine lv_iload hx hb dX3_set_15 (lv_at hl 1 rfl) ?_
        refine lv_imul hx hb dX3_set_17 ?_
        refine lv_topi (fun v41 ev41 => ?_)
        have hf := bnd_all hf v41 ev41
        refine lv_isub hx hb dX3_set_18 ?_
        refine lv_topi (fun v42 ev42 => ?_)
        have hf := bnd_all hf v42 ev42
        refine lv_istore (lv' := [(5, .int v42), (3, .int a37), (4, .int a38), (0, .ref ot), (1, .int p0), (2, .int p1)]) hx hb dX3_set_19 hl (by decide) rfl (fun ls hl => ?_)
        refine lv_iload hx hb dX3_set_21 (lv_at hl 0 rfl) ?_
        refine lv_if_lt (tgt := 114) hx hb dX3_set_23 (by decide) (fun c43 => ?_) (fun c43 => ?_)
        · have hf := ite_t hf c43
          obtain ⟨v44, ev44⟩ : ∃ y : Int32, y = a38 + (-1) := ⟨_, rfl⟩
          have hf := bnd_all hf v44 ev44
          refine lv_iinc (v := v44) (lv' := [(4, .int v44), (5, .int v42), (3, .int a37), (0, .ref ot), (1, .int p0), (2, .int p1)]) hx hb dX3_set_114 hl (k := 2) rfl (by rw [ev44]; rfl) (by decide) rfl (fun ls hl => ?_)
          refine lv_goto (tgt := 8) hx hb dX3_set_117 (by decide) ?_
          exact ih a37 v44 F39 _ _ _ hP hD hS (lv_sub hl [2, 0, 3, 4, 5] rfl) hf
        · have hf := ite_f hf c43
          refine lv_iload hx hb dX3_set_26 (lv_at hl 0 rfl) ?_
          refine lv_aload_n hx hb dX3_set_28 rfl (lv_at hl 3 rfl) ?_
          obtain ⟨x45, hx45, hf⟩ := obd_e hf
          refine sb_Vi (As := []) (rest := [.int v42]) ⟨hx, hb, hml, hown, hts⟩ (fun sz => c_X3_downs l dC dI cI cF cJ cD ot oh b ou od ow oa ob ok os F39  x45 hx45 sz) (cwV 0 hts (g_V q363 q364 q365 q352 q358) rfl rfl rfl pc_X3_downs ⟨Nat.le_of_ble_eq_true rfl, Nat.le_of_ble_eq_true rfl⟩) 0 3 rfl rfl hK hP hD hS hA [0, 1, 2, 3, 4, 5, 6] [] rfl rfl (by decide) (by decide) (by decide) (fun _ _ _ _ h => h) (fun _ _ _ => trivial) rfl rfl hl.1 (Nat.le_of_ble_eq_true rfl) dX3_set_29 ⟨hkc, hks⟩ (fun r9 u H locs hr9 hP hD hS => ?_)
          have hr9 := Eq.symm hr9
          subst hr9
          have hP : va_P (dC, dI) vwCl (wTD cI cF cJ ot oh b ou od ow oa ob ok os F39) H := hP
          have hD : va_D A (wTD cI cF cJ ot oh b ou od ow oa ob ok os F39) := hD
          refine lv_icmp_le (tgt := 38) hx hb dX3_set_32 (by decide) (fun c46 => ?_) (fun c46 => ?_)
          · have hf := ite_t hf c46
            refine lv_iload_n hx hb dX3_set_38 rfl (lv_at hl 1 rfl) ?_
            refine lv_if_lt (tgt := 111) hx hb dX3_set_39 (by decide) (fun c47 => ?_) (fun c47 => ?_)
            · have hf := ite_t hf c47
              refine lv_iload hx hb dX3_set_111 (lv_at hl 2 rfl) ?_
              refine lv_istore_n (lv' := [(3, .int a38), (5, .int v42), (4, .int a38), (0, .ref ot), (1, .int p0), (2, .int p1)]) hx hb dX3_set_113 rfl hl (by decide) rfl (fun ls hl => ?_)
              obtain ⟨v48, ev48⟩ : ∃ y : Int32, y = a38 + (-1) := ⟨_, rfl⟩
              have hf := bnd_all hf v48 ev48
              refine lv_iinc (v := v48) (lv' := [(4, .int v48), (3, .int a38), (5, .int v42), (0, .ref ot), (1, .int p0), (2, .int p1)]) hx hb dX3_set_114 hl (k := 2) rfl (by rw [ev48]; rfl) (by decide) rfl (fun ls hl => ?_)
              refine lv_goto (tgt := 8) hx hb dX3_set_117 (by decide) ?_
              exact ih a38 v48 F39 _ _ _ hP hD hS (lv_sub hl [1, 0, 3, 4, 5] rfl) hf
            · have hf := ite_f hf c47
              refine lv_aload_n hx hb dX3_set_42 rfl (lv_at hl 3 rfl) ?_
              refine lv_iload_n hx hb dX3_set_43 rfl (lv_at hl 4 rfl) ?_
              refine lv_iload hx hb dX3_set_44 (lv_at hl 2 rfl) ?_
              refine lv_iload hx hb dX3_set_46 (lv_at hl 0 rfl) ?_
              obtain ⟨x49, hx49, hf⟩ := obd_e hf
              refine sb_Vi (As := [.int p0, .int a38, .int v42]) (rest := []) ⟨hx, hb, hml, hown, hts⟩ (fun sz => c_X3_pushes l dC dI cI cF cJ cD ot oh b ou od ow oa ob ok os F39 p0 a38 v42  x49 hx49 sz) (cwV 3 hts (g_V q384 q385 q386 q352 q382) rfl rfl rfl pc_X3_pushes ⟨Nat.le_of_ble_eq_true rfl, Nat.le_of_ble_eq_true rfl⟩) 0 3 rfl rfl hK hP hD hS hA [0, 1, 2, 3, 4, 5, 6] [] rfl rfl (by decide) (by decide) (by decide) (fun _ _ _ _ h => h) (fun _ _ _ => trivial) rfl rfl hl.1 (Nat.le_of_ble_eq_true rfl) dX3_set_48 ⟨hkc, hks⟩ (fun r9 u H locs hr9 hP hD hS => ?_)
              have hr9 := Eq.symm hr9
              subst hr9
              have hP : va_P (dC, dI) vwCl (wTD cI cF cJ ot oh b ou od ow oa ob ok os F39) H := hP
              have hD : va_D A (wTD cI cF cJ ot oh b ou od ow oa ob ok os F39) := hD
              refine lv_aload_n hx hb dX3_set_51 rfl (lv_at hl 3 rfl) ?_
              refine lv_iload_n hx hb dX3_set_52 rfl (lv_at hl 4 rfl) ?_
              refine lv_iload_n hx hb dX3_set_53 rfl (lv_at hl 1 rfl) ?_
              refine lv_iload_n hx hb dX3_set_54 rfl (lv_at hl 5 rfl) ?_
              refine lv_iconst (v := 5) hx hb dX3_set_55 (by decide) ?_
              refine lv_iload_n hx hb dX3_set_56 rfl (lv_at hl 1 rfl) ?_
              refine lv_imul hx hb dX3_set_57 ?_
              refine lv_topi (fun v50 ev50 => ?_)
              have hf := bnd_all hf v50 ev50
              refine lv_isub hx hb dX3_set_58 ?_
              refine lv_topi (fun v51 ev51 => ?_)
              have hf := bnd_all hf v51 ev51
              obtain ⟨x52, hx52, hf⟩ := obd_e hf
              refine sb_Vi (As := [.int p0, .int a37, .int v51]) (rest := [.int x49]) ⟨hx, hb, hml, hown, hts⟩ (fun sz => c_X3_pushes l dC dI cI cF cJ cD ot oh b ou od ow oa ob ok os F39 p0 a37 v51  x52 hx52 sz) (cwV 3 hts (g_V q384 q385 q386 q352 q382) rfl rfl rfl pc_X3_pushes ⟨Nat.le_of_ble_eq_true rfl, Nat.le_of_ble_eq_true rfl⟩) 0 3 rfl rfl hK hP hD hS hA [0, 1, 2, 3, 4, 5, 6] [] rfl rfl (by decide) (by decide) (by decide) (fun _ _ _ _ h => h) (fun _ _ _ => trivial) rfl rfl hl.1 (Nat.le_of_ble_eq_true rfl) dX3_set_59 ⟨hkc, hks⟩ (fun r9 u H locs hr9 hP hD hS => ?_)
              have hr9 := Eq.symm hr9
              subst hr9
              have hP : va_P (dC, dI) vwCl (wTD cI cF cJ ot oh b ou od ow oa ob ok os F39) H := hP
              have hD : va_D A (wTD cI cF cJ ot oh b ou od ow oa ob ok os F39) := hD
              refine lv_icmp_lt (tgt := 111) hx hb dX3_set_62 (by decide) (fun c53 => ?_) (fun c53 => ?_)
              · have hf := ite_t hf c53
                refine lv_iload hx hb dX3_set_111 (lv_at hl 2 rfl) ?_
                refine lv_istore_n (lv' := [(3, .int a38), (5, .int v42), (4, .int a38), (0, .ref ot), (1, .int p0), (2, .int p1)]) hx hb dX3_set_113 rfl hl (by decide) rfl (fun ls hl => ?_)
                obtain ⟨v54, ev54⟩ : ∃ y : Int32, y = a38 + (-1) := ⟨_, rfl⟩
                have hf := bnd_all hf v54 ev54
                refine lv_iinc (v := v54) (lv' := [(4, .int v54), (3, .int a38), (5, .int v42), (0, .ref ot), (1, .int p0), (2, .int p1)]) hx hb dX3_set_114 hl (k := 2) rfl (by rw [ev54]; rfl) (by decide) rfl (fun ls hl => ?_)
                refine lv_goto (tgt := 8) hx hb dX3_set_117 (by decide) ?_
                exact ih a38 v54 F39 _ _ _ hP hD hS (lv_sub hl [1, 0, 3, 4, 5] rfl) hf
              · have hf := ite_f hf c53
                refine lv_aload_n hx hb dX3_set_65 rfl (lv_at hl 3 rfl) ?_
                refine lv_iload_n hx hb dX3_set_66 rfl (lv_at hl 4 rfl) ?_
                refine lv_iload hx hb dX3_set_67 (lv_at hl 2 rfl) ?_
                refine lv_iload hx hb dX3_set_69 (lv_at hl 0 rfl) ?_
                obtain ⟨x55, hx55, hf⟩ := obd_e hf
                refine sb_Vi (As := [.int p0, .int a38, .int v42]) (rest := []) ⟨hx, hb, hml, hown, hts⟩ (fun sz => c_X3_pushes l dC dI cI cF cJ cD ot oh b ou od ow oa ob ok os F39 p0 a38 v42  x55 hx55 sz) (cwV 3 hts (g_V q384 q385 q386 q352 q382) rfl rfl rfl pc_X3_pushes ⟨Nat.le_of_ble_eq_true rfl, Nat.le_of_ble_eq_true rfl⟩) 0 3 rfl rfl hK hP hD hS hA [0, 1, 2, 3, 4, 5, 6] [] rfl rfl (by decide) (by decide) (by decide) (fun _ _ _ _ h => h) (fun _ _ _ => trivial) rfl rfl hl.1 (Nat.le_of_ble_eq_true rfl) dX3_set_71 ⟨hkc, hks⟩ (fun r9 u H locs hr9 hP hD hS => ?_)
                have hr9 := Eq.symm hr9
                subst hr9
                have hP : va_P (dC, dI) vwCl (wTD cI cF cJ ot oh b ou od ow oa ob ok os F39) H := hP
                have hD : va_D A (wTD cI cF cJ ot oh b ou od ow oa ob ok os F39) := hD
                refine lv_aload_n hx hb dX3_set_74 rfl (lv_at hl 3 rfl) ?_
                refine lv_iload_n hx hb dX3_set_75 rfl (lv_at hl 4 rfl) ?_
                refine lv_iload_n hx hb dX3_set_76 rfl (lv_at hl 1 rfl) ?_
                refine lv_iload_n hx hb dX3_set_77 rfl (lv_at hl 5 rfl) ?_
                refine lv_iconst (v := 5) hx hb dX3_set_78 (by decide) ?_
                refine lv_iload_n hx hb dX3_set_79 rfl (lv_at hl 1 rfl) ?_
                refine lv_imul hx hb dX3_set_80 ?_
                refine lv_topi (fun v56 ev56 => ?_)
                have hf := bnd_all hf v56 ev56
                refine lv_isub hx hb dX3_set_81 ?_
                refine lv_topi (fun v57 ev57 => ?_)
                have hf := bnd_all hf v57 ev57
                obtain ⟨x58, hx58, hf⟩ := obd_e hf
                refine sb_Vi (As := [.int p0, .int a37, .int v57]) (rest := [.int x55]) ⟨hx, hb, hml, hown, hts⟩ (fun sz => c_X3_pushes l dC dI cI cF cJ cD ot oh b ou od ow oa ob ok os F39 p0 a37 v57  x58 hx58 sz) (cwV 3 hts (g_V q384 q385 q386 q352 q382) rfl rfl rfl pc_X3_pushes ⟨Nat.le_of_ble_eq_true rfl, Nat.le_of_ble_eq_true rfl⟩) 0 3 rfl rfl hK hP hD hS hA [0, 1, 2, 3, 4, 5, 6] [] rfl rfl (by decide) (by decide) (by decide) (fun _ _ _ _ h => h) (fun _ _ _ => trivial) rfl rfl hl.1 (Nat.le_of_ble_eq_true rfl) dX3_set_82 ⟨hkc, hks⟩ (fun r9 u H locs hr9 hP hD hS => ?_)
                have hr9 := Eq.symm hr9
                subst hr9
                have hP : va_P (dC, dI) vwCl (wTD cI cF cJ ot oh b ou od ow oa ob ok os F39) H := hP
                have hD : va_D A (wTD cI cF cJ ot oh b ou od ow oa ob ok os F39) := hD
                refine lv_icmp_ne (tgt := 114) hx hb dX3_set_85 (by decide) (fun c59 => ?_) (fun c59 => ?_)
                · have hf := ite_f hf c59
                  obtain ⟨v60, ev60⟩ : ∃ y : Int32, y = a38 + (-1) := ⟨_, rfl⟩
                  have hf := bnd_all hf v60 ev60
                  refine lv_iinc (v := v60) (lv' := [(4, .int v60), (5, .int v42), (3, .int a37), (0, .ref ot), (1, .int p0), (2, .int p1)]) hx hb dX3_set_114 hl (k := 2) rfl (by rw [ev60]; rfl) (by decide) rfl (fun ls hl => ?_)
                  refine lv_goto (tgt := 8) hx hb dX3_set_117 (by decide) ?_
                  exact ih a37 v60 F39 _ _ _ hP hD hS (lv_sub hl [2, 0, 3, 4, 5] rfl) hf
                · have hf := ite_t hf c59
                  refine lv_aload_n hx hb dX3_set_88 rfl (lv_at hl 3 rfl) ?_
                  refine lv_iload_n hx hb dX3_set_89 rfl (lv_at hl 4 rfl) ?_
                  refine lv_iload hx hb dX3_set_90 (lv_at hl 2 rfl) ?_
                  refine lv_iload hx hb dX3_set_92 (lv_at hl 0 rfl) ?_
                  obtain ⟨x61, hx61, hf⟩ := obd_e hf
                  refine sb_Vi (As := [.int p0, .int a38, .int v42]) (rest := []) ⟨hx, hb, hml, hown, hts⟩ (fun sz => c_X3_beads l dC dI cI cF cJ cD ot oh b ou od ow oa ob ok os F39 p0 a38 v42  x61 hx61 sz) (cwV 3 hts (g_V q387 q388 q389 q352 q383) rfl rfl rfl pc_X3_beads ⟨Nat.le_of_ble_eq_true rfl, Nat.le_of_ble_eq_true rfl⟩) 0 3 rfl rfl hK hP hD hS hA [0, 1, 2, 3, 4, 5, 6] [] rfl rfl (by decide) (by decide) (by decide) (fun _ _ _ _ h => h) (fun _ _ _ => trivial) rfl rfl hl.1 (Nat.le_of_ble_eq_true rfl) dX3_set_94 ⟨hkc, hks⟩ (fun r9 u H locs hr9 hP hD hS => ?_)
                  have hr9 := Eq.symm hr9
                  subst hr9
                  have hP : va_P (dC, dI) vwCl (wTD cI cF cJ ot oh b ou od ow oa ob ok os F39) H := hP
                  have hD : va_D A (wTD cI cF cJ ot oh b ou od ow oa ob ok os F39) := hD
                  refine lv_aload_n hx hb dX3_set_97 rfl (lv_at hl 3 rfl) ?_
                  refine lv_iload_n hx hb dX3_set_98 rfl (lv_at hl 4 rfl) ?_
                  refine lv_iload_n hx hb dX3_set_99 rfl (lv_at hl 1 rfl) ?_
                  refine lv_iload_n hx hb dX3_set_100 rfl (lv_at hl 5 rfl) ?_
                  refine lv_iconst (v := 5) hx hb dX3_set_101 (by decide) ?_
                  refine lv_iload_n hx hb dX3_set_102 rfl (lv_at hl 1 rfl) ?_
                  refine lv_imul hx hb dX3_set_103 ?_
                  refine lv_topi (fun v62 ev62 => ?_)
                  have hf := bnd_all hf v62 ev62
                  refine lv_isub hx hb dX3_set_104 ?_
                  refine lv_topi (fun v63 ev63 => ?_)
                  have hf := bnd_all hf v63 ev63
                  obtain ⟨x64, hx64, hf⟩ := obd_e hf
                  refine sb_Vi (As := [.int p0, .int a37, .int v63]) (rest := [.int x61]) ⟨hx, hb, hml, hown, hts⟩ (fun sz => c_X3_beads l dC dI cI cF cJ cD ot oh b ou od ow oa ob ok os F39 p0 a37 v63  x64 hx64 sz) (cwV 3 hts (g_V q387 q388 q389 q352 q383) rfl rfl rfl pc_X3_beads ⟨Nat.le_of_ble_eq_true rfl, Nat.le_of_ble_eq_true rfl⟩) 0 3 rfl rfl hK hP hD hS hA [0, 1, 2, 3, 4, 5, 6] [] rfl rfl (by decide) (by decide) (by decide) (fun _ _ _ _ h => h) (fun _ _ _ => trivial) rfl rfl hl.1 (Nat.le_of_ble_eq_true rfl) dX3_set_105 ⟨hkc, hks⟩ (fun r9 u H locs hr9 hP hD hS => ?_)
                  have hr9 := Eq.symm hr9
                  subst hr9
                  have hP : va_P (dC, dI) vwCl (wTD cI cF cJ ot oh b ou od ow oa ob ok os F39) H := hP
                  have hD : va_D A (wTD cI cF cJ ot oh b ou od ow oa ob ok os F39) := hD
                  refine lv_icmp_ge (tgt := 114) hx hb dX3_set_108 (by decide) (fun c65 => ?_) (fun c65 => ?_)
                  · have hf := ite_t hf c65
                    obtain ⟨v66, ev66⟩ : ∃ y : Int32, y = a38 + (-1) := ⟨_, rfl⟩
                    have hf := bnd_all hf v66 ev66
                    refine lv_iinc (v := v66) (lv' := [(4, .int v66), (5, .int v42), (3, .int a37), (0, .ref ot), (1, .int p0), (2, .int p1)]) hx hb dX3_set_114 hl (k := 2) rfl (by rw [ev66]; rfl) (by decide) rfl (fun ls hl => ?_)
                    refine lv_goto (tgt := 8) hx hb dX3_set_117 (by decide) ?_
                    exact ih a37 v66 F39 _ _ _ hP hD hS (lv_sub hl [2, 0, 3, 4, 5] rfl) hf
                  · have hf := ite_f hf c65
                    refine lv_iload hx hb dX3_set_111 (lv_at hl 2 rfl) ?_
                    refine lv_istore_n (lv' := [(3, .int a38), (5, .int v42), (4, .int a38), (0, .ref ot), (1, .int p0), (2, .int p1)]) hx hb dX3_set_113 rfl hl (by decide) rfl (fun ls hl => ?_)
                    obtain ⟨v67, ev67⟩ : ∃ y : Int32, y = a38 + (-1) := ⟨_, rfl⟩
                    have hf := bnd_all hf v67 ev67
                    refine lv_iinc (v := v67) (lv' := [(4, .int v67), (3, .int a38), (5, .int v42), (0, .ref ot), (1, .int p0), (2, .int p1)]) hx hb dX3_set_114 hl (k := 2) rfl (by rw [ev67]; rfl) (by decide) rfl (fun ls hl => ?_)
                    refine lv_goto (tgt := 8) hx hb dX3_set_117 (by decide) ?_
                    exact ih a38 v67 F39 _ _ _ hP hD hS (lv_sub hl [1, 0, 3, 4, 5] rfl) hf
          · have hf := ite_f hf c46
            refine lv_goto (tgt := 114) hx hb dX3_set_35 (by decide) ?_
            obtain ⟨v68, ev68⟩ : ∃ y : Int32, y = a38 + (-1) := ⟨_, rfl⟩
            have hf := bnd_all hf v68 ev68
            refine lv_iinc (v := v68) (lv' := [(4, .int v68), (5, .int v42), (3, .int a37), (0, .ref ot), (1, .int p0), (2, .int p1)]) hx hb dX3_set_114 hl (k := 2) rfl (by rw [ev68]; rfl) (by decide) rfl (fun ls hl => ?_)
            refine lv_goto (tgt := 8) hx hb dX3_set_117 (by decide) ?_
            exact ih a37 v68 F39 _ _ _ hP hD hS (lv_sub hl [2, 0, 3, 4, 5] rfl) hf
  refine L8 _ (fun a69 a70 F71 H locs ls hP hD hS hl hf => ?_) 16 (-1) x1 T _ _ _ hP hD hS (lv_sub hl [1, 0, 2, 3, 4] rfl) hf
  refine lv_iload_n hx hb dX3_set_120 rfl (lv_at hl 3 rfl) ?_
  refine lv_iconst (v := 5) hx hb dX3_set_121 (by decide) ?_
  refine lv_iload_n hx hb dX3_set_122 rfl (lv_at hl 0 rfl) ?_
  refine lv_imul hx hb dX3_set_123 ?_
  refine lv_topi (fun v72 ev72 => ?_)
  have hf := bnd_all hf v72 ev72
  refine lv_isub hx hb dX3_set_124 ?_
  refine lv_topi (fun v73 ev73 => ?_)
  have hf := bnd_all hf v73 ev73
  refine lv_istore (lv' := [(4, .int v73), (3, .int a69), (0, .ref ot), (1, .int p0), (2, .int p1)]) hx hb dX3_set_125 hl (by decide) rfl (fun ls hl => ?_)
  refine lv_aload_n hx hb dX3_set_127 rfl (lv_at hl 2 rfl) ?_
  refine lv_iload_n hx hb dX3_set_128 rfl (lv_at hl 3 rfl) ?_
  refine lv_iconst (v := 0) hx hb dX3_set_129 (by decide) ?_
  refine lv_iload_n hx hb dX3_set_130 rfl (lv_at hl 1 rfl) ?_
  refine lv_aload_n hx hb dX3_set_131 rfl (lv_at hl 2 rfl) ?_
  refine va_get (D := (dC, dI)) (ci := 3) (v := .ref ou) (C := RX3) (T := TX3) (N := 12) hx hb hts iX3 hown hK hP 0 rfl rfl 5 (by decide) (hts _ q345) (fun _ h9 => h9) rfl dX3_set_132 ?_
  refine lv_iload_n hx hb dX3_set_135 rfl (lv_at hl 3 rfl) ?_
  obtain ⟨g74, hf⟩ := gd_e hf
  refine va_iald hx hb hK hP 1 0 rfl rfl (gin_in g74) dX3_set_136 ?_
  refine lv_topi (fun v75 ev75 => ?_)
  have hf := bnd_all hf v75 ev75
  refine lv_isub hx hb dX3_set_137 ?_
  refine lv_topi (fun v76 ev76 => ?_)
  have hf := bnd_all hf v76 ev76
  obtain ⟨x77, hx77, hf⟩ := obd_e hf
  refine sb_Vv (As := [.int p0, .int 0, .int v76]) (rest := []) ⟨hx, hb, hml, hown, hts⟩ (fun sz => c_X3_move l dC dI cI cF cJ cD ot oh b ou od ow oa ob ok os F71 p0 v76  x77 hx77 sz) (cwV 3 hts (g_V q390 q391 q392 q352 q378) rfl rfl rfl pc_X3_move ⟨Nat.le_of_ble_eq_true rfl, Nat.le_of_ble_eq_true rfl⟩) 0 3 rfl rfl hK hP hD hS hA [0, 1, 2, 3, 4, 5, 6] [] rfl rfl (by decide) (by decide) (by decide) (fun _ _ _ _ h => h) (fun _ _ _ => trivial) rfl rfl hl.1 (Nat.le_of_ble_eq_true rfl) dX3_set_138 ⟨hkc, hks⟩ (fun u H locs hr9 hP hD hS => ?_)
  have hP : va_P (dC, dI) vwCl (wTD cI cF cJ ot oh b ou od ow oa ob ok os x77) H := hP
  have hD : va_D A (wTD cI cF cJ ot oh b ou od ow oa ob ok os x77) := hD
  refine lv_aload_n hx hb dX3_set_141 rfl (lv_at hl 2 rfl) ?_
  refine lv_iload_n hx hb dX3_set_142 rfl (lv_at hl 3 rfl) ?_
  refine lv_iconst (v := 1) hx hb dX3_set_143 (by decide) ?_
  refine lv_iload hx hb dX3_set_144 (lv_at hl 0 rfl) ?_
  refine lv_aload_n hx hb dX3_set_146 rfl (lv_at hl 2 rfl) ?_
  refine va_get (D := (dC, dI)) (ci := 3) (v := .ref od) (C := RX3) (T := TX3) (N := 12) hx hb hts iX3 hown hK hP 0 rfl rfl 6 (by decide) (hts _ q346) (fun _ h9 => h9) rfl dX3_set_147 ?_
  refine lv_iload_n hx hb dX3_set_150 rfl (lv_at hl 3 rfl) ?_
  obtain ⟨g78, hf⟩ := gd_e hf
  refine va_iald hx hb hK hP 2 0 rfl rfl (gin_in g78) dX3_set_151 ?_
  refine lv_topi (fun v79 ev79 => ?_)
  have hf := bnd_all hf v79 ev79
  refine lv_isub hx hb dX3_set_152 ?_
  refine lv_topi (fun v80 ev80 => ?_)
  have hf := bnd_all hf v80 ev80
  obtain ⟨x81, hx81, hf⟩ := obd_e hf
  refine sb_Vv (As := [.int p0, .int 1, .int v80]) (rest := []) ⟨hx, hb, hml, hown, hts⟩ (fun sz => c_X3_moveB l dC dI cI cF cJ cD ot oh b ou od ow oa ob ok os x77 p0 v80  x81 hx81 sz) (cwV 3 hts (g_V q390 q391 q392 q352 q378) rfl rfl rfl pc_X3_move ⟨Nat.le_of_ble_eq_true rfl, Nat.le_of_ble_eq_true rfl⟩) 0 3 rfl rfl hK hP hD hS hA [0, 1, 2, 3, 4, 5, 6] [] rfl rfl (by decide) (by decide) (by decide) (fun _ _ _ _ h => h) (fun _ _ _ => trivial) rfl rfl hl.1 (Nat.le_of_ble_eq_true rfl) dX3_set_153 ⟨hkc, hks⟩ (fun u H locs hr9 hP hD hS => ?_)
  have hP : va_P (dC, dI) vwCl (wTD cI cF cJ ot oh b ou od ow oa ob ok os x81) H := hP
  have hD : va_D A (wTD cI cF cJ ot oh b ou od ow oa ob ok os x81) := hD
  obtain rfl := Option.some.inj hf
  exact W.vret hx hb hr (fun t ht hW => ⟨⟨(), rfl, trivial, by rw [ht]; exact hP, hD⟩, hS.F ht⟩) hS.2.2 dX3_set_156
noncomputable def l_X3_bring_5 (k : Int32 → Int32 → TD → Option (TD)) : Nat → Int32 → Int32 → TD → Option (TD)
  | 0, _, _, _ => none
  | n + 1, a1, a2, F3 => if a1 ≤ 0 then (k a1 a2 F3) else (if a2 < (nI (tN F3)) then (obd (f_X3_value F3 a2) fun x6 => bnd (x6 + a1) fun (v7 : Int32) => if v7 ≤ 9 then (bnd ((10 : Int32) * 0) fun (v9 : Int32) => bnd (v7 - v9) fun (v10 : Int32) => obd (f_X3_set F3 a2 v10) fun x11 => gd (gin 2 5) <| bnd ((tSm x11) (Int32.toNatClampNeg 2)) fun (v13 : Int32) => bnd (v13 + 0) fun (v14 : Int32) => gd (gin 2 5) <| bnd (a2 + 1) fun (v16 : Int32) => l_X3_bring_5 k n 0 v16 (stSm x11 (upd (tSm x11) (Int32.toNatClampNeg 2) v14))) else (bnd ((10 : Int32) * 1) fun (v17 : Int32) => bnd (v7 - v17) fun (v18 : Int32) => obd (f_X3_set F3 a2 v18) fun x19 => gd (gin 2 5) <| bnd ((tSm x19) (Int32.toNatClampNeg 2)) fun (v21 : Int32) => bnd (v21 + 1) fun (v22 : Int32) => gd (gin 2 5) <| bnd (a2 + 1) fun (v24 : Int32) => l_X3_bring_5 k n 1 v24 (stSm x19 (upd (tSm x19) (Int32.toNatClampNeg 2) v22)))) else (gd (gin 4 5) <| bnd ((tSm F3) (Int32.toNatClampNeg 4)) fun (v26 : Int32) => bnd (v26 + a1) fun (v27 : Int32) => gd (gin 4 5) <| some (stSm F3 (upd (tSm F3) (Int32.toNatClampNeg 4) v27))))
noncomputable def f_X3_bring (T : TD) (p0 : Int32) (p1 : Int32) : Option (TD) := l_X3_bring_5 (fun (a60 : Int32) (a61 : Int32) (F62 : TD) => some F62) 16 p1 p0 T
theorem pc_X3_bring : yX3_bring.cls = RX3 ∧ yX3_bring.cls ≠ "java/lang/invoke/MethodHandle" ∧ yX3_bring.cls ≠ "java/lang/invoke/VarHandle" ∧ (parseMethodDescriptor yX3_bring.desc).map (fun d => d.parameters.length) = some 2 := by decide +kernel
abbrev rm_X3_bring : Room := { frames := 3, cells := 0, slots := 0, locals := 70 }
set_option maxHeartbeats 4000000 in
set_option maxRecDepth 100000 in
theorem c_X3_bring (l : Launch) (dC : Nat → ClassId) (dI : Nat → Nat → Nat) (cI cF cJ cD : ClassId) (ot oh b ou od ow oa ob ok os : Nat) (T : TD) (p0 : Int32) (p1 : Int32) (res : (TD)) (hf : f_X3_bring T p0 p1 = some res) (sz : Nat) : Met l yX3_bring (ws_ yX3_bring cX3_bring 6 none) rm_X3_bring (sbPre (dC, dI) (TY cI cF cJ cD) (wTD cI cF cJ ot oh b ou od ow oa ob ok os T) E0 sz [.ref ot, .int p0, .int p1]) (va_Qv (fun (_ : Unit) => True) (sbEnd (dC, dI) (fun _ => wTD cI cF cJ ot oh b ou od ow oa ob ok os res) (va_A (wTD cI cF cJ ot oh b ou od ow oa ob ok os T) sz)) (va_A (wTD cI cF cJ ot oh b ou od ow oa ob ok os T) sz)) 0 0 (va_A (wTD cI cF cJ ot oh b ou od ow oa ob ok os T) sz) := by
  refine Met.ofW (cc := cX3_bring) (maxL := 6) (ret := none) (by decide) rfl ?_
  intro p e s m args below meth c s₁ B hml hv
  obtain ⟨rfl, hsz, hP, hK, hD0, hE⟩ := hv
  have hx := B.exec
  have hb := B.bytes
  have hr := B.returns
  have hts0 := atoms_spec (ws := ws_ yX3_bring cX3_bring 6 none) B.pre
  have hts := fun (w : Cond) (h : w ∈ LW) => hts0 w (List.mem_cons_of_mem _ h)
  have hown : s.vm.findClass RX3 = some m.cls := findClass_of_methodNamed B.named
  have hlocks := B.notSynchronized
  subst hsz
  have hD := hD0.self (sz := s.heap.size)
  generalize hAe : va_A (wTD cI cF cJ ot oh b ou od ow oa ob ok os T) s.heap.size = A at hD ⊢
  have hA : ∀ q : Nat, s.heap.size ≤ q → A q := fun q h => by rw [← hAe]; exact Or.inr h
  have hS : va_S A s.heap s.heap [] := va_S.rf
  have hkc := Nat.zero_le rm_X3_bring.cells
  have hks := Nat.zero_le rm_X3_bring.slots
  have hl := lv_entry ([.ref ot, .int p0, .int p1]) (n := 6) (Nat.le_of_ble_eq_true rfl)
  rw [lg_entry_eq]
  generalize (lg_sl ([.ref ot, .int p0, .int p1]) ++ List.replicate (6 - (lg_sl ([.ref ot, .int p0, .int p1])).length) Slot.unset).toArray = ls at hl ⊢
  have hl : lv_has ls 6 [(0, .ref ot), (1, .int p0), (2, .int p1)] := hl
  rw [f_X3_bring] at hf
  refine lv_iload_n hx hb dX3_bring_0 rfl (lv_at hl 2 rfl) ?_
  refine lv_istore_n (lv' := [(3, .int p1), (0, .ref ot), (1, .int p0), (2, .int p1)]) hx hb dX3_bring_1 rfl hl (by decide) rfl (fun ls hl => ?_)
  refine lv_iload_n hx hb dX3_bring_2 rfl (lv_at hl 2 rfl) ?_
  refine lv_istore (lv' := [(4, .int p0), (3, .int p1), (0, .ref ot), (1, .int p0), (2, .int p1)]) hx hb dX3_bring_3 hl (by decide) rfl (fun ls hl => ?_)
  have L5 : ∀ (k : Int32 → Int32 → TD → Option (TD)), (∀ (a29 : Int32) (a30 : Int32) (F31 : TD) (H : Heap) (locs : List Loc) (ls : Array Slot), va_P (dC, dI) vwCl (wTD cI cF cJ ot oh b ou od ow oa ob ok os F31) H → va_D A (wTD cI cF cJ ot oh b ou od ow oa ob ok os F31) → va_S A s.heap H locs → lv_has ls 6 [] → k a29 a30 F31 = some res → W p l e (headSpec (ws_ yX3_bring cX3_bring 6 none) rm_X3_bring).room s m ([.ref ot, .int p0, .int p1].toArray) below meth c H locs 0 0 (MQ below (va_Qv (fun (_ : Unit) => True) (sbEnd (dC, dI) (fun _ => wTD cI cF cJ ot oh b ou od ow oa ob ok os res) (A)) (A)) ([.ref ot, .int p0, .int p1].toArray) s 0 0 A) (F0 m 82 ls [])) → ∀ (n : Nat) (a29 : Int32) (a30 : Int32) (F31 : TD) (H : Heap) (locs : List Loc) (ls : Array Slot), va_P (dC, dI) vwCl (wTD cI cF cJ ot oh b ou od ow oa ob ok os F31) H → va_D A (wTD cI cF cJ ot oh b ou od ow oa ob ok os F31) → va_S A s.heap H locs → lv_has ls 6 [(3, .int a29), (4, .int a30), (0, .ref ot)] → l_X3_bring_5  k n a29 a30 F31 = some res → W p l e (headSpec (ws_ yX3_bring cX3_bring 6 none) rm_X3_bring).room s m ([.ref ot, .int p0, .int p1].toArray) below meth c H locs 0 0 (MQ below (va_Qv (fun (_ : Unit) => True) (sbEnd (dC, dI) (fun _ => wTD cI cF cJ ot oh b ou od ow oa ob ok os res) (A)) (A)) ([.ref ot, .int p0, .int p1].toArray) s 0 0 A) (F0 m 5 ls []) := by
    intro k hk n
    induction n with
    | zero =>
      intro a32 a33 F34 H locs ls hP hD hS hl hf
      rw [l_X3_bring_5] at hf
      cases hf
    | succ n ih =>
      intro a32 a33 F34 H locs ls hP hD hS hl hf
      rw [l_X3_bring_5] at hf
      refine lv_iload_n hx hb dX3_bring_5 rfl (lv_at hl 0 rfl) ?_
      refine lv_if_le (tgt := 82) hx hb dX3_bring_6 (by decide) (fun c35 => ?_) (fun c35 => ?_)
      · have hf := ite_t hf c35
        exact hk a32 a33 F34 _ _ _ hP hD hS (lv_sub hl [] rfl) hf
      · have hf := ite_f hf c35
        refine lv_iload hx hb dX3_bring_9 (lv_at hl 1 rfl) ?_
        refine lv_aload_n hx hb dX3_bring_11 rfl (lv_at hl 2 rfl) ?_
        refine va_get (D := (dC, dI)) (ci := 3) (v := .ref ou) (C := RX3) (T := TX3) (N := 12) hx hb hts iX3 hown hK hP 0 rfl rfl 5 (by decide) (hts _ q345) (fun _ h9 => h9) rfl dX3_bring_12 ?_
        refine va_alen (v := (nI (tN F34))) hx hb hK hP 1 0 rfl rfl rfl dX3_bring_15 ?_
        refine lv_icmp_lt (tgt := 30) hx hb dX3_bring_16 (by decide) (fun c36 => ?_) (fun c36 => ?_)
        · have hf := ite_t hf c36
          refine lv_aload_n hx hb dX3_bring_30 rfl (lv_at hl 2 rfl) ?_
          refine lv_iload hx hb dX3_bring_31 (lv_at hl 1 rfl) ?_
          obtain ⟨x37, hx37, hf⟩ := obd_e hf
          refine sb_Vi (As := [.int a33]) (rest := []) ⟨hx, hb, hml, hown, hts⟩ (fun sz => c_X3_value l dC dI cI cF cJ cD ot oh b ou od ow oa ob ok os F34 a33  x37 hx37 sz) (cwV 1 hts (g_V q369 q370 q371 q352 q366) rfl rfl rfl pc_X3_value ⟨Nat.le_of_ble_eq_true rfl, Nat.le_of_ble_eq_true rfl⟩) 0 3 rfl rfl hK hP hD hS hA [0, 1, 2, 3, 4, 5, 6] [] rfl rfl (by decide) (by decide) (by decide) (fun _ _ _ _ h => h) (fun _ _ _ => trivial) rfl rfl hl.1 (Nat.le_of_ble_eq_true rfl) dX3_bring_33 ⟨hkc, hks⟩ (fun r9 u H locs hr9 hP hD hS => ?_)
          have hr9 := Eq.symm hr9
          subst hr9
          have hP : va_P (dC, dI) vwCl (wTD cI cF cJ ot oh b ou od ow oa ob ok os F34) H := hP
          have hD : va_D A (wTD cI cF cJ ot oh b ou od ow oa ob ok os F34) := hD
          refine lv_iload_n hx hb dX3_bring_36 rfl (lv_at hl 0 rfl) ?_
          refine lv_iadd hx hb dX3_bring_37 ?_
          refine lv_topi (fun v38 ev38 => ?_)
          have hf := bnd_all hf v38 ev38
          refine lv_istore (lv' := [(5, .int v38), (3, .int a32), (4, .int a33), (0, .ref ot)]) hx hb dX3_bring_38 hl (by decide) rfl (fun ls hl => ?_)
          refine lv_iload hx hb dX3_bring_40 (lv_at hl 0 rfl) ?_
          refine lv_bipush (v := 9) hx hb dX3_bring_42 (by decide) ?_
          refine lv_icmp_le (tgt := 51) hx hb dX3_bring_44 (by decide) (fun c39 => ?_) (fun c39 => ?_)
          · have hf := ite_t hf c39
            refine lv_iconst (v := 0) hx hb dX3_bring_51 (by decide) ?_
            refine lv_istore_n (lv' := [(3, .int 0), (5, .int v38), (4, .int a33), (0, .ref ot)]) hx hb dX3_bring_52 rfl hl (by decide) rfl (fun ls hl => ?_)
            refine lv_aload_n hx hb dX3_bring_53 rfl (lv_at hl 3 rfl) ?_
            refine lv_iload hx hb dX3_bring_54 (lv_at hl 2 rfl) ?_
            refine lv_iload hx hb dX3_bring_56 (lv_at hl 1 rfl) ?_
            refine lv_bipush (v := 10) hx hb dX3_bring_58 (by decide) ?_
            refine lv_iload_n hx hb dX3_bring_60 rfl (lv_at hl 0 rfl) ?_
            refine lv_imul hx hb dX3_bring_61 ?_
            refine lv_topi (fun v40 ev40 => ?_)
            have hf := bnd_all hf v40 ev40
            refine lv_isub hx hb dX3_bring_62 ?_
            refine lv_topi (fun v41 ev41 => ?_)
            have hf := bnd_all hf v41 ev41
            obtain ⟨x42, hx42, hf⟩ := obd_e hf
            refine sb_Vv (As := [.int a33, .int v41]) (rest := []) ⟨hx, hb, hml, hown, hts⟩ (fun sz => c_X3_set l dC dI cI cF cJ cD ot oh b ou od ow oa ob ok os F34 a33 v41  x42 hx42 sz) (cwV 2 hts (g_V q394 q395 q396 q352 q393) rfl rfl rfl pc_X3_set ⟨Nat.le_of_ble_eq_true rfl, Nat.le_of_ble_eq_true rfl⟩) 0 3 rfl rfl hK hP hD hS hA [0, 1, 2, 3, 4, 5, 6] [] rfl rfl (by decide) (by decide) (by decide) (fun _ _ _ _ h => h) (fun _ _ _ => trivial) rfl rfl hl.1 (Nat.le_of_ble_eq_true rfl) dX3_bring_63 ⟨hkc, hks⟩ (fun u H locs hr9 hP hD hS => ?_)
            have hP : va_P (dC, dI) vwCl (wTD cI cF cJ ot oh b ou od ow oa ob ok os x42) H := hP
            have hD : va_D A (wTD cI cF cJ ot oh b ou od ow oa ob ok os x42) := hD
            refine lv_aload_n hx hb dX3_bring_66 rfl (lv_at hl 3 rfl) ?_
            refine va_get (D := (dC, dI)) (ci := 3) (v := .ref os) (C := RX3) (T := TX3) (N := 12) hx hb hts iX3 hown hK hP 0 rfl rfl 9 (by decide) (hts _ q331) (fun _ h9 => h9) rfl dX3_bring_67 ?_
            refine lv_iconst (v := 2) hx hb dX3_bring_70 (by decide) ?_
            refine lv_dup2_11 hx hb dX3_bring_71 rfl rfl ?_
            obtain ⟨g43, hf⟩ := gd_e hf
            refine va_iald hx hb hK hP 6 0 rfl rfl (gin_in g43) dX3_bring_72 ?_
            refine lv_topi (fun v44 ev44 => ?_)
            have hf := bnd_all hf v44 ev44
            refine lv_iload_n hx hb dX3_bring_73 rfl (lv_at hl 0 rfl) ?_
            refine lv_iadd hx hb dX3_bring_74 ?_
            refine lv_topi (fun v45 ev45 => ?_)
            have hf := bnd_all hf v45 ev45
            obtain ⟨g46, hf⟩ := gd_e hf
            refine va_iast hx hb hK hP hD hS 6 0 rfl rfl (gin_in g46) dX3_bring_75 (fun H locs hP hD hS => ?_)
            have hP : va_P (dC, dI) vwCl (wTD cI cF cJ ot oh b ou od ow oa ob ok os (stSm x42 (upd (tSm x42) (Int32.toNatClampNeg 2) v45))) H := hP
            have hD : va_D A (wTD cI cF cJ ot oh b ou od ow oa ob ok os (stSm x42 (upd (tSm x42) (Int32.toNatClampNeg 2) v45))) := hD
            obtain ⟨v47, ev47⟩ : ∃ y : Int32, y = a33 + 1 := ⟨_, rfl⟩
            have hf := bnd_all hf v47 ev47
            refine lv_iinc (v := v47) (lv' := [(4, .int v47), (3, .int 0), (5, .int v38), (0, .ref ot)]) hx hb dX3_bring_76 hl (k := 2) rfl (by rw [ev47]; rfl) (by decide) rfl (fun ls hl => ?_)
            refine lv_goto (tgt := 5) hx hb dX3_bring_79 (by decide) ?_
            exact ih 0 v47 (stSm x42 (upd (tSm x42) (Int32.toNatClampNeg 2) v45)) _ _ _ hP hD hS (lv_sub hl [1, 0, 3] rfl) hf
          · have hf := ite_f hf c39
            refine lv_iconst (v := 1) hx hb dX3_bring_47 (by decide) ?_
            refine lv_goto (tgt := 52) hx hb dX3_bring_48 (by decide) ?_
            refine lv_istore_n (lv' := [(3, .int 1), (5, .int v38), (4, .int a33), (0, .ref ot)]) hx hb dX3_bring_52 rfl hl (by decide) rfl (fun ls hl => ?_)
            refine lv_aload_n hx hb dX3_bring_53 rfl (lv_at hl 3 rfl) ?_
            refine lv_iload hx hb dX3_bring_54 (lv_at hl 2 rfl) ?_
            refine lv_iload hx hb dX3_bring_56 (lv_at hl 1 rfl) ?_
            refine lv_bipush (v := 10) hx hb dX3_bring_58 (by decide) ?_
            refine lv_iload_n hx hb dX3_bring_60 rfl (lv_at hl 0 rfl) ?_
            refine lv_imul hx hb dX3_bring_61 ?_
            refine lv_topi (fun v48 ev48 => ?_)
            have hf := bnd_all hf v48 ev48
            refine lv_isub hx hb dX3_bring_62 ?_
            refine lv_topi (fun v49 ev49 => ?_)
            have hf := bnd_all hf v49 ev49
            obtain ⟨x50, hx50, hf⟩ := obd_e hf
            refine sb_Vv (As := [.int a33, .int v49]) (rest := []) ⟨hx, hb, hml, hown, hts⟩ (fun sz => c_X3_set l dC dI cI cF cJ cD ot oh b ou od ow oa ob ok os F34 a33 v49  x50 hx50 sz) (cwV 2 hts (g_V q394 q395 q396 q352 q393) rfl rfl rfl pc_X3_set ⟨Nat.le_of_ble_eq_true rfl, Nat.le_of_ble_eq_true rfl⟩) 0 3 rfl rfl hK hP hD hS hA [0, 1, 2, 3, 4, 5, 6] [] rfl rfl (by decide) (by decide) (by decide) (fun _ _ _ _ h => h) (fun _ _ _ => trivial) rfl rfl hl.1 (Nat.le_of_ble_eq_true rfl) dX3_bring_63 ⟨hkc, hks⟩ (fun u H locs hr9 hP hD hS => ?_)
            have hP : va_P (dC, dI) vwCl (wTD cI cF cJ ot oh b ou od ow oa ob ok os x50) H := hP
            have hD : va_D A (wTD cI cF cJ ot oh b ou od ow oa ob ok os x50) := hD
            refine lv_aload_n hx hb dX3_bring_66 rfl (lv_at hl 3 rfl) ?_
            refine va_get (D := (dC, dI)) (ci := 3) (v := .ref os) (C := RX3) (T := TX3) (N := 12) hx hb hts iX3 hown hK hP 0 rfl rfl 9 (by decide) (hts _ q331) (fun _ h9 => h9) rfl dX3_bring_67 ?_
            refine lv_iconst (v := 2) hx hb dX3_bring_70 (by decide) ?_
            refine lv_dup2_11 hx hb dX3_bring_71 rfl rfl ?_
            obtain ⟨g51, hf⟩ := gd_e hf
            refine va_iald hx hb hK hP 6 0 rfl rfl (gin_in g51) dX3_bring_72 ?_
            refine lv_topi (fun v52 ev52 => ?_)
            have hf := bnd_all hf v52 ev52
            refine lv_iload_n hx hb dX3_bring_73 rfl (lv_at hl 0 rfl) ?_
            refine lv_iadd hx hb dX3_bring_74 ?_
            refine lv_topi (fun v53 ev53 => ?_)
            have hf := bnd_all hf v53 ev53
            obtain ⟨g54, hf⟩ := gd_e hf
            refine va_iast hx hb hK hP hD hS 6 0 rfl rfl (gin_in g54) dX3_bring_75 (fun H locs hP hD hS => ?_)
            have hP : va_P (dC, dI) vwCl (wTD cI cF cJ ot oh b ou od ow oa ob ok os (stSm x50 (upd (tSm x50) (Int32.toNatClampNeg 2) v53))) H := hP
            have hD : va_D A (wTD cI cF cJ ot oh b ou od ow oa ob ok os (stSm x50 (upd (tSm x50) (Int32.toNatClampNeg 2) v53))) := hD
            obtain ⟨v55, ev55⟩ : ∃ y : Int32, y = a33 + 1 := ⟨_, rfl⟩
            have hf := bnd_all hf v55 ev55
            refine lv_iinc (v := v55) (lv' := [(4, .int v55), (3, .int 1), (5, .int v38), (0, .ref ot)]) hx hb dX3_bring_76 hl (k := 2) rfl (by rw [ev55]; rfl) (by decide) rfl (fun ls hl => ?_)
            refine lv_goto (tgt := 5) hx hb dX3_bring_79 (by decide) ?_
            exact ih 1 v55 (stSm x50 (upd (tSm x50) (Int32.toNatClampNeg 2) v53)) _ _ _ hP hD hS (lv_sub hl [1, 0, 3] rfl) hf
        · have hf := ite_f hf c36
          refine lv_aload_n hx hb dX3_bring_19 rfl (lv_at hl 2 rfl) ?_
          refine va_get (D := (dC, dI)) (ci := 3) (v := .ref os) (C := RX3) (T := TX3) (N := 12) hx hb hts iX3 hown hK hP 0 rfl rfl 9 (by decide) (hts _ q331) (fun _ h9 => h9) rfl dX3_bring_20 ?_
          refine lv_iconst (v := 4) hx hb dX3_bring_23 (by decide) ?_
          refine lv_dup2_11 hx hb dX3_bring_24 rfl rfl ?_
          obtain ⟨g56, hf⟩ := gd_e hf
          refine va_iald hx hb hK hP 6 0 rfl rfl (gin_in g56) dX3_bring_25 ?_
          refine lv_topi (fun v57 ev57 => ?_)
          have hf := bnd_all hf v57 ev57
          refine lv_iload_n hx hb dX3_bring_26 rfl (lv_at hl 0 rfl) ?_
          refine lv_iadd hx hb dX3_bring_27 ?_
          refine lv_topi (fun v58 ev58 => ?_)
          have hf := bnd_all hf v58 ev58
          obtain ⟨g59, hf⟩ := gd_e hf
          refine va_iast hx hb hK hP hD hS 6 0 rfl rfl (gin_in g59) dX3_bring_28 (fun H locs hP hD hS => ?_)
          have hP : va_P (dC, dI) vwCl (wTD cI cF cJ ot oh b ou od ow oa ob ok os (stSm F34 (upd (tSm F34) (Int32.toNatClampNeg 4) v58))) H := hP
          have hD : va_D A (wTD cI cF cJ ot oh b ou od ow oa ob ok os (stSm F34 (upd (tSm F34) (Int32.toNatClampNeg 4) v58))) := hD
          obtain rfl := Option.some.inj hf
          exact W.vret hx hb hr (fun t ht hW => ⟨⟨(), rfl, trivial, by rw [ht]; exact hP, hD⟩, hS.F ht⟩) hS.2.2 dX3_bring_29
  refine L5 _ (fun a60 a61 F62 H locs ls hP hD hS hl hf => ?_) 16 p1 p0 T _ _ _ hP hD hS (lv_sub hl [1, 0, 2] rfl) hf
  obtain rfl := Option.some.inj hf
  exact W.vret hx hb hr (fun t ht hW => ⟨⟨(), rfl, trivial, by rw [ht]; exact hP, hD⟩, hS.F ht⟩) hS.2.2 dX3_bring_82
noncomputable def l_X3_digits_10 (c2 : Int32) (N0 : Nat) (k : Int64 → Int32 → (Nat → Int32) → Option (Nat → Int32)) : Nat → Int64 → Int32 → (Nat → Int32) → Option (Nat → Int32)
  | 0, _, _, _ => none
  | n + 1, a3, a4, F5 => if c2 ≤ a4 then (k a3 a4 F5) else (bnd (a3 - a3 / 10 * 10) fun (v8 : Int64) => bnd (v8.toInt32) fun (v9 : Int32) => gd (gin a4 N0) <| bnd (a4 + 1) fun (v11 : Int32) => bnd (a3 / 10) fun (v13 : Int64) => l_X3_digits_10 c2 N0 k n v13 v11 (upd F5 (Int32.toNatClampNeg a4) v9))
noncomputable def f_X3_digits (p0 : Int64) (p1 : Int32) : Option (Nat → Int32) := gd (glen p1 10) <| l_X3_digits_10 p1 (Int32.toNatClampNeg p1) (fun (a28 : Int64) (a29 : Int32) (F30 : (Nat → Int32)) => some F30) 16 p0 0 (fun _ => 0)
theorem ps_X3_digits : yX3_digits.cls ≠ "java/lang/invoke/MethodHandle" ∧ yX3_digits.cls ≠ "java/lang/invoke/VarHandle" ∧ (parseMethodDescriptor yX3_digits.desc).map (fun d => d.parameters.length) = some 2 := by decide +kernel
abbrev rm_X3_digits : Room := { frames := 1, cells := 1, slots := 10, locals := 21 }
set_option maxHeartbeats 4000000 in
set_option maxRecDepth 100000 in
theorem c_X3_digits (l : Launch) (dC : Nat → ClassId) (dI : Nat → Nat → Nat) (cI cF cJ cD : ClassId) (p0 : Int64) (p1 : Int32) (res : (Nat → Int32)) (hf : f_X3_digits p0 p1 = some res) (sz : Nat) : Met l yX3_digits (ws_ yX3_digits cX3_digits 7 (some (.array .int))) rm_X3_digits (sbPre (dC, dI) (TY cI cF cJ cD) (([] : va_W)) E0 sz [.long p0, .int p1]) (va_Qq (fun (r : Option Nat) (u : Nat) => r = some u) (sbEnd (dC, dI) (fun (u : Nat) => [(u, .inl (cI, (Int32.toNatClampNeg p1), .inl res))]) (va_A (([] : va_W)) sz)) (va_A (([] : va_W)) sz)) 1 10 (va_A (([] : va_W)) sz) := by
  refine Met.ofW (cc := cX3_digits) (maxL := 7) (ret := (some (.array .int))) (by decide) rfl ?_
  intro p e s m args below meth c s₁ B hml hv
  obtain ⟨rfl, hsz, hP, hK, hD0, hE⟩ := hv
  have hx := B.exec
  have hb := B.bytes
  have hr := B.returns
  have hts0 := atoms_spec (ws := ws_ yX3_digits cX3_digits 7 (some (.array .int))) B.pre
  have hts := fun (w : Cond) (h : w ∈ LW) => hts0 w (List.mem_cons_of_mem _ h)
  have hown : s.vm.findClass RX3 = some m.cls := findClass_of_methodNamed B.named
  have hlocks := B.notSynchronized
  subst hsz
  have hD := hD0.self (sz := s.heap.size)
  generalize hAe : va_A (([] : va_W)) s.heap.size = A at hD ⊢
  have hA : ∀ q : Nat, s.heap.size ≤ q → A q := fun q h => by rw [← hAe]; exact Or.inr h
  have hS : va_S A s.heap s.heap [] := va_S.rf
  have hkc := Nat.zero_le rm_X3_digits.cells
  have hks := Nat.zero_le rm_X3_digits.slots
  have hl := lv_entry ([.long p0, .int p1]) (n := 7) (Nat.le_of_ble_eq_true rfl)
  rw [lg_entry_eq]
  generalize (lg_sl ([.long p0, .int p1]) ++ List.replicate (7 - (lg_sl ([.long p0, .int p1])).length) Slot.unset).toArray = ls at hl ⊢
  have hl : lv_has ls 7 [(0, .long p0), (2, .int p1)] := hl
  rw [f_X3_digits] at hf
  refine lv_iload_n hx hb dX3_digits_0 rfl (lv_at hl 1 rfl) ?_
  obtain ⟨g2, hf⟩ := gd_e hf
  refine sb_newi hx hb (hts _ q4) hK hP hD hS hA (glen_0 g2) rfl (glen_b g2 (by decide)) (Nat.le_of_ble_eq_true rfl) (glen_s g2 (Nat.le_of_ble_eq_true rfl)) dX3_digits_1 (fun n1 H hP hD hS => ?_)
  refine W.widen (k := 1) (n := 10) (Nat.le_refl _) (glen_w g2) ?_
  have hP : va_P (dC, dI) vwCl ([(n1, .inl (cI, (Int32.toNatClampNeg p1), .inl (fun _ => 0)))]) H := hP
  have hD : va_D A ([(n1, .inl (cI, (Int32.toNatClampNeg p1), .inl (fun _ => 0)))]) := hD
  refine lv_astore_n (lv' := [(3, .ref n1), (0, .long p0), (2, .int p1)]) hx hb dX3_digits_3 rfl hl (by decide) rfl (fun ls hl => ?_)
  refine lv_lload_n hx hb dX3_digits_4 rfl (lv_at hl 1 rfl) ?_
  refine lv_lstore (lv' := [(4, .long p0), (3, .ref n1), (0, .long p0), (2, .int p1)]) hx hb dX3_digits_5 hl (by decide) rfl (fun ls hl => ?_)
  refine lv_iconst (v := 0) hx hb dX3_digits_7 (by decide) ?_
  refine lv_istore (lv' := [(6, .int 0), (4, .long p0), (3, .ref n1), (0, .long p0), (2, .int p1)]) hx hb dX3_digits_8 hl (by decide) rfl (fun ls hl => ?_)
  have L10 : ∀ (k : Int64 → Int32 → (Nat → Int32) → Option (Nat → Int32)), (∀ (a14 : Int64) (a15 : Int32) (F16 : (Nat → Int32)) (H : Heap) (locs : List Loc) (ls : Array Slot), va_P (dC, dI) vwCl ([(n1, .inl (cI, (Int32.toNatClampNeg p1), .inl F16))]) H → va_D A ([(n1, .inl (cI, (Int32.toNatClampNeg p1), .inl F16))]) → va_S A s.heap H locs → lv_has ls 7 [(3, .ref n1)] → k a14 a15 F16 = some res → W p l e (headSpec (ws_ yX3_digits cX3_digits 7 (some (.array .int))) rm_X3_digits).room s m ([.long p0, .int p1].toArray) below meth c H locs 1 10 (MQ below (va_Qq (fun (r : Option Nat) (u : Nat) => r = some u) (sbEnd (dC, dI) (fun (u : Nat) => [(u, .inl (cI, (Int32.toNatClampNeg p1), .inl res))]) (A)) (A)) ([.long p0, .int p1].toArray) s 1 10 A) (F0 m 41 ls [])) → ∀ (n : Nat) (a14 : Int64) (a15 : Int32) (F16 : (Nat → Int32)) (H : Heap) (locs : List Loc) (ls : Array Slot), va_P (dC, dI) vwCl ([(n1, .inl (cI, (Int32.toNatClampNeg p1), .inl F16))]) H → va_D A ([(n1, .inl (cI, (Int32.toNatClampNeg p1), .inl F16))]) → va_S A s.heap H locs → lv_has ls 7 [(4, .long a14), (6, .int a15), (2, .int p1), (3, .ref n1)] → l_X3_digits_10 p1 (Int32.toNatClampNeg p1) k n a14 a15 F16 = some res → W p l e (headSpec (ws_ yX3_digits cX3_digits 7 (some (.array .int))) rm_X3_digits).room s m ([.long p0, .int p1].toArray) below meth c H locs 1 10 (MQ below (va_Qq (fun (r : Option Nat) (u : Nat) => r = some u) (sbEnd (dC, dI) (fun (u : Nat) => [(u, .inl (cI, (Int32.toNatClampNeg p1), .inl res))]) (A)) (A)) ([.long p0, .int p1].toArray) s 1 10 A) (F0 m 10 ls []) := by
    intro k hk n
    induction n with
    | zero =>
      intro a17 a18 F19 H locs ls hP hD hS hl hf
      rw [l_X3_digits_10] at hf
      cases hf
    | succ n ih =>
      intro a17 a18 F19 H locs ls hP hD hS hl hf
      rw [l_X3_digits_10] at hf
      refine lv_iload hx hb dX3_digits_10 (lv_at hl 1 rfl) ?_
      refine lv_iload_n hx hb dX3_digits_12 rfl (lv_at hl 2 rfl) ?_
      refine lv_icmp_ge (tgt := 41) hx hb dX3_digits_13 (by decide) (fun c20 => ?_) (fun c20 => ?_)
      · have hf := ite_t hf c20
        exact hk a17 a18 F19 _ _ _ hP hD hS (lv_sub hl [3] rfl) hf
      · have hf := ite_f hf c20
        refine lv_aload_n hx hb dX3_digits_16 rfl (lv_at hl 3 rfl) ?_
        refine lv_iload hx hb dX3_digits_17 (lv_at hl 1 rfl) ?_
        refine lv_lload hx hb dX3_digits_19 (lv_at hl 0 rfl) ?_
        refine lv_ldc2 hx hb hown (hts _ q368) dX3_digits_21 ?_
        refine lv_lrem hx hb dX3_digits_24 (by decide) ?_
        refine lv_topl (fun v22 ev22 => ?_)
        have hf := bnd_all hf v22 ev22
        refine lv_l2i hx hb dX3_digits_25 rfl ?_
        refine lv_topi (fun v23 ev23 => ?_)
        have hf := bnd_all hf v23 ev23
        obtain ⟨g24, hf⟩ := gd_e hf
        refine va_iast hx hb hK hP hD hS 0 0 rfl rfl (gin_in g24) dX3_digits_26 (fun H locs hP hD hS => ?_)
        have hP : va_P (dC, dI) vwCl ([(n1, .inl (cI, (Int32.toNatClampNeg p1), .inl (upd F19 (Int32.toNatClampNeg a18) v23)))]) H := hP
        have hD : va_D A ([(n1, .inl (cI, (Int32.toNatClampNeg p1), .inl (upd F19 (Int32.toNatClampNeg a18) v23)))]) := hD
        obtain ⟨v25, ev25⟩ : ∃ y : Int32, y = a18 + 1 := ⟨_, rfl⟩
        have hf := bnd_all hf v25 ev25
        refine lv_iinc (v := v25) (lv' := [(6, .int v25), (4, .long a17), (2, .int p1), (3, .ref n1)]) hx hb dX3_digits_27 hl (k := 1) rfl (by rw [ev25]; rfl) (by decide) rfl (fun ls hl => ?_)
        refine lv_lload hx hb dX3_digits_30 (lv_at hl 1 rfl) ?_
        refine lv_ldc2 hx hb hown (hts _ q368) dX3_digits_32 ?_
        refine lv_ldiv hx hb dX3_digits_35 (by decide) ?_
        refine lv_topl (fun v27 ev27 => ?_)
        have hf := bnd_all hf v27 ev27
        refine lv_lstore (lv' := [(4, .long v27), (6, .int v25), (2, .int p1), (3, .ref n1)]) hx hb dX3_digits_36 hl (by decide) rfl (fun ls hl => ?_)
        refine lv_goto (tgt := 10) hx hb dX3_digits_38 (by decide) ?_
        exact ih v27 v25 (upd F19 (Int32.toNatClampNeg a18) v23) _ _ _ hP hD hS (lv_sub hl [0, 1, 2, 3] rfl) hf
  refine L10 _ (fun a28 a29 F30 H locs ls hP hD hS hl hf => ?_) 16 p0 0 (fun _ => 0) _ _ _ hP hD hS (lv_sub hl [1, 0, 4, 2] rfl) hf
  refine lv_aload_n hx hb dX3_digits_41 rfl (lv_at hl 0 rfl) ?_
  obtain rfl := Option.some.inj hf
  have hP : va_P (dC, dI) vwCl [(n1, .inl (cI, (Int32.toNatClampNeg p1), .inl F30))] H := hP.sub [0] rfl
  have hD : va_D A [(n1, .inl (cI, (Int32.toNatClampNeg p1), .inl F30))] := hD.sub [0] (by decide) rfl
  exact W.aret (v := .ref n1) hx hb hr (Or.inr ⟨_, rfl⟩) (Or.inr ⟨_, rfl⟩) (fun t ht hW => ⟨⟨some n1, n1, rfl, rfl, by rw [ht]; exact hP, hD⟩, hS.F ht⟩) hS.2.2 dX3_digits_42
noncomputable def l_X3_adds_19 (R1 : (Nat → Int32)) (N1 : Nat) (k : Int32 → TD → Option (TD)) : Nat → Int32 → TD → Option (TD)
  | 0, _, _ => none
  | n + 1, a5, F6 => if a5 < 0 then (k a5 F6) else (gd (gin a5 N1) <| bnd (R1 (Int32.toNatClampNeg a5)) fun (v9 : Int32) => obd (f_X3_bring F6 a5 v9) fun x10 => bnd (a5 + (-1)) fun (v11 : Int32) => l_X3_adds_19 R1 N1 k n v11 x10)
noncomputable def f_X3_adds (T : TD) (p0 : Int32) : Option (TD) := bnd (p0.toInt64) fun (v1 : Int64) => obd (f_X3_digits v1 (nI (tN T))) fun x2 => bnd ((nI (tN T)) - 1) fun (v4 : Int32) => l_X3_adds_19 x2 (Int32.toNatClampNeg (nI (tN T))) (fun (a21 : Int32) (F22 : TD) => some F22) 16 v4 T
theorem pc_X3_adds : yX3_adds.cls = RX3 ∧ yX3_adds.cls ≠ "java/lang/invoke/MethodHandle" ∧ yX3_adds.cls ≠ "java/lang/invoke/VarHandle" ∧ (parseMethodDescriptor yX3_adds.desc).map (fun d => d.parameters.length) = some 1 := by decide +kernel
abbrev rm_X3_adds : Room := { frames := 4, cells := 1, slots := 10, locals := 95 }
set_option maxHeartbeats 4000000 in
set_option maxRecDepth 100000 in
theorem c_X3_adds (l : Launch) (dC : Nat → ClassId) (dI : Nat → Nat → Nat) (cI cF cJ cD : ClassId) (ot oh b ou od ow oa ob ok os : Nat) (T : TD) (p0 : Int32) (res : (TD)) (hf : f_X3_adds T p0 = some res) (sz : Nat) : Met l yX3_adds (ws_ yX3_adds cX3_adds 4 none) rm_X3_adds (sbPre (dC, dI) (TY cI cF cJ cD) (wTD cI cF cJ ot oh b ou od ow oa ob ok os T) E0 sz [.ref ot, .int p0]) (va_Qv (fun (_ : Unit) => True) (sbEnd (dC, dI) (fun _ => wTD cI cF cJ ot oh b ou od ow oa ob ok os res) (va_A (wTD cI cF cJ ot oh b ou od ow oa ob ok os T) sz)) (va_A (wTD cI cF cJ ot oh b ou od ow oa ob ok os T) sz)) 1 10 (va_A (wTD cI cF cJ ot oh b ou od ow oa ob ok os T) sz) := by
  refine Met.ofW (cc := cX3_adds) (maxL := 4) (ret := none) (by decide) rfl ?_
  intro p e s m args below meth c s₁ B hml hv
  obtain ⟨rfl, hsz, hP, hK, hD0, hE⟩ := hv
  have hx := B.exec
  have hb := B.bytes
  have hr := B.returns
  have hts0 := atoms_spec (ws := ws_ yX3_adds cX3_adds 4 none) B.pre
  have hts := fun (w : Cond) (h : w ∈ LW) => hts0 w (List.mem_cons_of_mem _ h)
  have hown : s.vm.findClass RX3 = some m.cls := findClass_of_methodNamed B.named
  have hlocks := B.notSynchronized
  subst hsz
  have hD := hD0.self (sz := s.heap.size)
  generalize hAe : va_A (wTD cI cF cJ ot oh b ou od ow oa ob ok os T) s.heap.size = A at hD ⊢
  have hA : ∀ q : Nat, s.heap.size ≤ q → A q := fun q h => by rw [← hAe]; exact Or.inr h
  have hS : va_S A s.heap s.heap [] := va_S.rf
  have hkc := Nat.zero_le rm_X3_adds.cells
  have hks := Nat.zero_le rm_X3_adds.slots
  have hl := lv_entry ([.ref ot, .int p0]) (n := 4) (Nat.le_of_ble_eq_true rfl)
  rw [lg_entry_eq]
  generalize (lg_sl ([.ref ot, .int p0]) ++ List.replicate (4 - (lg_sl ([.ref ot, .int p0])).length) Slot.unset).toArray = ls at hl ⊢
  have hl : lv_has ls 4 [(0, .ref ot), (1, .int p0)] := hl
  rw [f_X3_adds] at hf
  refine lv_iload_n hx hb dX3_adds_0 rfl (lv_at hl 1 rfl) ?_
  refine lv_i2l hx hb dX3_adds_1 rfl ?_
  refine lv_topl (fun v1 ev1 => ?_)
  have hf := bnd_all hf v1 ev1
  refine lv_aload_n hx hb dX3_adds_2 rfl (lv_at hl 0 rfl) ?_
  refine va_get (D := (dC, dI)) (ci := 3) (v := .ref ou) (C := RX3) (T := TX3) (N := 12) hx hb hts iX3 hown hK hP 0 rfl rfl 5 (by decide) (hts _ q345) (fun _ h9 => h9) rfl dX3_adds_3 ?_
  refine va_alen (v := (nI (tN T))) hx hb hK hP 1 0 rfl rfl rfl dX3_adds_6 ?_
  obtain ⟨x2, hx2, hf⟩ := obd_e hf
  refine sb_Sq (As := [.long v1, .int (nI (tN T))]) (rest := []) ⟨hx, hb, hml, hown, hts⟩ (fun sz => c_X3_digits l dC dI cI cF cJ cD  v1 (nI (tN T))  x2 hx2 sz) (va_cwS 2 hts (g_S q399 q400 q352 q398) rfl rfl rfl ps_X3_digits ⟨Nat.le_of_ble_eq_true rfl, Nat.le_of_ble_eq_true rfl⟩)  hK hP hD hS hA [] [0, 1, 2, 3, 4, 5, 6] rfl rfl (by decide) (by decide) (by decide) (fun _ _ _ _ h => h) (fun _ _ _ => trivial) rfl rfl hl.1 (Nat.le_of_ble_eq_true rfl) dX3_adds_7 ⟨Nat.le_of_ble_eq_true rfl, Nat.le_of_ble_eq_true rfl⟩ (fun r9 u H locs hr9 hP hD hS => ?_)
  refine W.widen (k := 1) (n := 10) (Nat.le_refl _) (Nat.le_refl _) ?_
  have hr9 := Eq.symm hr9
  subst hr9
  obtain ⟨n3, en3⟩ : ∃ z, z = u := ⟨_, rfl⟩
  subst en3
  have hP : va_P (dC, dI) vwCl (wTD cI cF cJ ot oh b ou od ow oa ob ok os T ++ ([(n3, .inl (cI, (Int32.toNatClampNeg (nI (tN T))), .inl x2))])) H := hP
  have hD : va_D A (wTD cI cF cJ ot oh b ou od ow oa ob ok os T ++ ([(n3, .inl (cI, (Int32.toNatClampNeg (nI (tN T))), .inl x2))])) := hD
  refine lv_astore_n (lv' := [(2, .ref n3), (0, .ref ot), (1, .int p0)]) hx hb dX3_adds_10 rfl hl (by decide) rfl (fun ls hl => ?_)
  refine lv_aload_n hx hb dX3_adds_11 rfl (lv_at hl 1 rfl) ?_
  refine va_get (D := (dC, dI)) (ci := 3) (v := .ref ou) (C := RX3) (T := TX3) (N := 12) hx hb hts iX3 hown hK hP 0 rfl rfl 5 (by decide) (hts _ q345) (fun _ h9 => h9) rfl dX3_adds_12 ?_
  refine va_alen (v := (nI (tN T))) hx hb hK hP 1 0 rfl rfl rfl dX3_adds_15 ?_
  refine lv_iconst (v := 1) hx hb dX3_adds_16 (by decide) ?_
  refine lv_isub hx hb dX3_adds_17 ?_
  refine lv_topi (fun v4 ev4 => ?_)
  have hf := bnd_all hf v4 ev4
  refine lv_istore_n (lv' := [(3, .int v4), (2, .ref n3), (0, .ref ot), (1, .int p0)]) hx hb dX3_adds_18 rfl hl (by decide) rfl (fun ls hl => ?_)
  have L19 : ∀ (k : Int32 → TD → Option (TD)), (∀ (a12 : Int32) (F13 : TD) (H : Heap) (locs : List Loc) (ls : Array Slot), va_P (dC, dI) vwCl (wTD cI cF cJ ot oh b ou od ow oa ob ok os F13 ++ ([(n3, .inl (cI, (Int32.toNatClampNeg (nI (tN T))), .inl x2))])) H → va_D A (wTD cI cF cJ ot oh b ou od ow oa ob ok os F13 ++ ([(n3, .inl (cI, (Int32.toNatClampNeg (nI (tN T))), .inl x2))])) → va_S A s.heap H locs → lv_has ls 4 [] → k a12 F13 = some res → W p l e (headSpec (ws_ yX3_adds cX3_adds 4 none) rm_X3_adds).room s m ([.ref ot, .int p0].toArray) below meth c H locs 1 10 (MQ below (va_Qv (fun (_ : Unit) => True) (sbEnd (dC, dI) (fun _ => wTD cI cF cJ ot oh b ou od ow oa ob ok os res) (A)) (A)) ([.ref ot, .int p0].toArray) s 1 10 A) (F0 m 37 ls [])) → ∀ (n : Nat) (a12 : Int32) (F13 : TD) (H : Heap) (locs : List Loc) (ls : Array Slot), va_P (dC, dI) vwCl (wTD cI cF cJ ot oh b ou od ow oa ob ok os F13 ++ ([(n3, .inl (cI, (Int32.toNatClampNeg (nI (tN T))), .inl x2))])) H → va_D A (wTD cI cF cJ ot oh b ou od ow oa ob ok os F13 ++ ([(n3, .inl (cI, (Int32.toNatClampNeg (nI (tN T))), .inl x2))])) → va_S A s.heap H locs → lv_has ls 4 [(3, .int a12), (0, .ref ot), (2, .ref n3)] → l_X3_adds_19 x2 (Int32.toNatClampNeg (nI (tN T))) k n a12 F13 = some res → W p l e (headSpec (ws_ yX3_adds cX3_adds 4 none) rm_X3_adds).room s m ([.ref ot, .int p0].toArray) below meth c H locs 1 10 (MQ below (va_Qv (fun (_ : Unit) => True) (sbEnd (dC, dI) (fun _ => wTD cI cF cJ ot oh b ou od ow oa ob ok os res) (A)) (A)) ([.ref ot, .int p0].toArray) s 1 10 A) (F0 m 19 ls []) := by
    intro k hk n
    induction n with
    | zero =>
      intro a14 F15 H locs ls hP hD hS hl hf
      rw [l_X3_adds_19] at hf
      cases hf
    | succ n ih =>
      intro a14 F15 H locs ls hP hD hS hl hf
      rw [l_X3_adds_19] at hf
      refine lv_iload_n hx hb dX3_adds_19 rfl (lv_at hl 0 rfl) ?_
      refine lv_if_lt (tgt := 37) hx hb dX3_adds_20 (by decide) (fun c16 => ?_) (fun c16 => ?_)
      · have hf := ite_t hf c16
        exact hk a14 F15 _ _ _ hP hD hS (lv_sub hl [] rfl) hf
      · have hf := ite_f hf c16
        refine lv_aload_n hx hb dX3_adds_23 rfl (lv_at hl 1 rfl) ?_
        refine lv_iload_n hx hb dX3_adds_24 rfl (lv_at hl 0 rfl) ?_
        refine lv_aload_n hx hb dX3_adds_25 rfl (lv_at hl 2 rfl) ?_
        refine lv_iload_n hx hb dX3_adds_26 rfl (lv_at hl 0 rfl) ?_
        obtain ⟨g17, hf⟩ := gd_e hf
        refine va_iald hx hb hK hP 7 0 rfl rfl (gin_in g17) dX3_adds_27 ?_
        refine lv_topi (fun v18 ev18 => ?_)
        have hf := bnd_all hf v18 ev18
        obtain ⟨x19, hx19, hf⟩ := obd_e hf
        refine sb_Vv (As := [.int a14, .int v18]) (rest := []) ⟨hx, hb, hml, hown, hts⟩ (fun sz => c_X3_bring l dC dI cI cF cJ cD ot oh b ou od ow oa ob ok os F15 a14 v18  x19 hx19 sz) (cwV 2 hts (g_V q401 q402 q403 q352 q397) rfl rfl rfl pc_X3_bring ⟨Nat.le_of_ble_eq_true rfl, Nat.le_of_ble_eq_true rfl⟩) 0 3 rfl rfl hK hP hD hS hA [0, 1, 2, 3, 4, 5, 6] [7] rfl rfl (by decide) (by decide) (by decide) (fun _ _ _ _ h => h) (fun _ _ _ => trivial) rfl rfl hl.1 (Nat.le_of_ble_eq_true rfl) dX3_adds_28 ⟨Nat.le_of_ble_eq_true rfl, Nat.le_of_ble_eq_true rfl⟩ (fun u H locs hr9 hP hD hS => ?_)
        have hP : va_P (dC, dI) vwCl (wTD cI cF cJ ot oh b ou od ow oa ob ok os x19 ++ ([(n3, .inl (cI, (Int32.toNatClampNeg (nI (tN T))), .inl x2))])) H := hP.sub [1, 2, 3, 4, 5, 6, 7, 0] rfl
        have hD : va_D A (wTD cI cF cJ ot oh b ou od ow oa ob ok os x19 ++ ([(n3, .inl (cI, (Int32.toNatClampNeg (nI (tN T))), .inl x2))])) := hD.sub [1, 2, 3, 4, 5, 6, 7, 0] (by decide) rfl
        obtain ⟨v20, ev20⟩ : ∃ y : Int32, y = a14 + (-1) := ⟨_, rfl⟩
        have hf := bnd_all hf v20 ev20
        refine lv_iinc (v := v20) (lv' := [(3, .int v20), (0, .ref ot), (2, .ref n3)]) hx hb dX3_adds_31 hl (k := 0) rfl (by rw [ev20]; rfl) (by decide) rfl (fun ls hl => ?_)
        refine lv_goto (tgt := 19) hx hb dX3_adds_34 (by decide) ?_
        exact ih v20 x19 _ _ _ hP hD hS (lv_sub hl [0, 1, 2] rfl) hf
  refine L19 _ (fun a21 F22 H locs ls hP hD hS hl hf => ?_) 16 v4 T _ _ _ hP hD hS (lv_sub hl [0, 2, 1] rfl) hf
  have hP : va_P (dC, dI) vwCl (wTD cI cF cJ ot oh b ou od ow oa ob ok os F22) H := hP.sub [0, 1, 2, 3, 4, 5, 6] rfl
  have hD : va_D A (wTD cI cF cJ ot oh b ou od ow oa ob ok os F22) := hD.sub [0, 1, 2, 3, 4, 5, 6] (by decide) rfl
  obtain rfl := Option.some.inj hf
  exact W.vret hx hb hr (fun t ht hW => ⟨⟨(), rfl, trivial, by rw [ht]; exact hP, hD⟩, hS.F ht⟩) hS.2.2 dX3_adds_37
noncomputable def l_X3_some_16 (c1 : Int32) (L : Nat) (xs : (Nat → Int32)) (k : Int32 → Int32 → TD → Option (Int32 × TD)) : Nat → Int32 → Int32 → TD → Option (Int32 × TD)
  | 0, _, _, _ => none
  | n + 1, a3, a4, F5 => if c1 ≤ a4 then (k a3 a4 F5) else (bnd (10 * a3) fun (v7 : Int32) => obd (f_X3_draw L xs F5 3) fun x8 => if x8.1 = 0 then (obd (f_X3_draw L xs x8.2 3) fun x13 => bnd (v7 + x13.1) fun (v14 : Int32) => bnd (a4 + 1) fun (v15 : Int32) => l_X3_some_16 c1 L xs k n v14 v15 x13.2) else (obd (f_X3_draw L xs x8.2 10) fun x10 => bnd (v7 + x10.1) fun (v11 : Int32) => bnd (a4 + 1) fun (v12 : Int32) => l_X3_some_16 c1 L xs k n v11 v12 x10.2))
noncomputable def f_X3_some (L : Nat) (xs : Nat → Int32) (T : TD) : Option (Int32 × TD) := obd (f_X3_draw L xs T (nI (tN T))) fun x1 => bnd (1 + x1.1) fun (v2 : Int32) => l_X3_some_16 v2 L xs (fun (a32 : Int32) (a33 : Int32) (F34 : TD) => some (a32, F34)) 16 0 0 x1.2
theorem pc_X3_some : yX3_some.cls = RX3 ∧ yX3_some.cls ≠ "java/lang/invoke/MethodHandle" ∧ yX3_some.cls ≠ "java/lang/invoke/VarHandle" ∧ (parseMethodDescriptor yX3_some.desc).map (fun d => d.parameters.length) = some 0 := by decide +kernel
abbrev rm_X3_some : Room := { frames := 3, cells := 0, slots := 0, locals := 64 }
set_option maxHeartbeats 4000000 in
set_option maxRecDepth 100000 in
theorem c_X3_some (l : Launch) (dC : Nat → ClassId) (dI : Nat → Nat → Nat) (cI cF cJ cD : ClassId) (b L : Nat) (xs : Nat → Int32) (tA tB : Nat) (ot oh ou od ow oa ob ok os : Nat) (T : TD) (res : (Int32 × TD)) (hf : f_X3_some L xs T = some res) (sz : Nat) : Met l yX3_some (ws_ yX3_some cX3_some 4 (some .int)) rm_X3_some (sbPre (dC, dI) (TY cI cF cJ cD) (wTD cI cF cJ ot oh b ou od ow oa ob ok os T) (fun sz U => EX b L xs tA tB (va_A (wTD cI cF cJ ot oh b ou od ow oa ob ok os T) sz) U) sz [.ref ot]) (va_Qi (fun (r : Int32) (_ : Unit) => r = res.1) (sbEnd (dC, dI) (fun _ => wTD cI cF cJ ot oh b ou od ow oa ob ok os res.2) (va_A (wTD cI cF cJ ot oh b ou od ow oa ob ok os T) sz)) (va_A (wTD cI cF cJ ot oh b ou od ow oa ob ok os T) sz)) 0 0 (va_A (wTD cI cF cJ ot oh b ou od ow oa ob ok os T) sz) := by
  refine Met.ofW (cc := cX3_some) (maxL := 4) (ret := (some .int)) (by decide) rfl ?_
  intro p e s m args below meth c s₁ B hml hv
  obtain ⟨rfl, hsz, hP, hK, hD0, hE⟩ := hv
  have hx := B.exec
  have hb := B.bytes
  have hr := B.returns
  have hts0 := atoms_spec (ws := ws_ yX3_some cX3_some 4 (some .int)) B.pre
  have hts := fun (w : Cond) (h : w ∈ LW) => hts0 w (List.mem_cons_of_mem _ h)
  have hown : s.vm.findClass RX3 = some m.cls := findClass_of_methodNamed B.named
  have hlocks := B.notSynchronized
  subst hsz
  have hD := hD0.self (sz := s.heap.size)
  have hE : EX b L xs tA tB (va_A (wTD cI cF cJ ot oh b ou od ow oa ob ok os T) s.heap.size) s := hE
  generalize hAe : va_A (wTD cI cF cJ ot oh b ou od ow oa ob ok os T) s.heap.size = A at hD hE ⊢
  have hA : ∀ q : Nat, s.heap.size ≤ q → A q := fun q h => by rw [← hAe]; exact Or.inr h
  have hS : va_S A s.heap s.heap [] := va_S.rf
  have hkc := Nat.zero_le rm_X3_some.cells
  have hks := Nat.zero_le rm_X3_some.slots
  have hl := lv_entry ([.ref ot]) (n := 4) (Nat.le_of_ble_eq_true rfl)
  rw [lg_entry_eq]
  generalize (lg_sl ([.ref ot]) ++ List.replicate (4 - (lg_sl ([.ref ot])).length) Slot.unset).toArray = ls at hl ⊢
  have hl : lv_has ls 4 [(0, .ref ot)] := hl
  rw [f_X3_some] at hf
  refine lv_iconst (v := 1) hx hb dX3_some_0 (by decide) ?_
  refine lv_aload_n hx hb dX3_some_1 rfl (lv_at hl 0 rfl) ?_
  refine lv_aload_n hx hb dX3_some_2 rfl (lv_at hl 0 rfl) ?_
  refine va_get (D := (dC, dI)) (ci := 3) (v := .ref ou) (C := RX3) (T := TX3) (N := 12) hx hb hts iX3 hown hK hP 0 rfl rfl 5 (by decide) (hts _ q345) (fun _ h9 => h9) rfl dX3_some_3 ?_
  refine va_alen (v := (nI (tN T))) hx hb hK hP 1 0 rfl rfl rfl dX3_some_6 ?_
  obtain ⟨x1, hx1, hf⟩ := obd_e hf
  refine sb_Vi (As := [.int (nI (tN T))]) (rest := [.int 1]) ⟨hx, hb, hml, hown, hts⟩ (fun sz => c_X3_draw l dC dI cI cF cJ cD b L xs tA tB ot oh ou od ow oa ob ok os T (nI (tN T))  x1 hx1 sz) (cwV 1 hts (g_V q349 q350 q351 q352 q339) rfl rfl rfl pc_X3_draw ⟨Nat.le_of_ble_eq_true rfl, Nat.le_of_ble_eq_true rfl⟩) 0 3 rfl rfl hK hP hD hS hA [0, 1, 2, 3, 4, 5, 6] [] rfl rfl (by decide) (by decide) (by decide) EX_blind (fun U hU hW => EX_pass hE hS (va_free hD hS hA [0, 1, 2, 3, 4, 5, 6] rfl) hU hW) rfl rfl hl.1 (Nat.le_of_ble_eq_true rfl) dX3_some_7 ⟨hkc, hks⟩ (fun r9 u H locs hr9 hP hD hS => ?_)
  have hr9 := Eq.symm hr9
  subst hr9
  have hP : va_P (dC, dI) vwCl (wTD cI cF cJ ot oh b ou od ow oa ob ok os x1.2) H := hP
  have hD : va_D A (wTD cI cF cJ ot oh b ou od ow oa ob ok os x1.2) := hD
  refine lv_iadd hx hb dX3_some_10 ?_
  refine lv_topi (fun v2 ev2 => ?_)
  have hf := bnd_all hf v2 ev2
  refine lv_istore_n (lv' := [(1, .int v2), (0, .ref ot)]) hx hb dX3_some_11 rfl hl (by decide) rfl (fun ls hl => ?_)
  refine lv_iconst (v := 0) hx hb dX3_some_12 (by decide) ?_
  refine lv_istore_n (lv' := [(2, .int 0), (1, .int v2), (0, .ref ot)]) hx hb dX3_some_13 rfl hl (by decide) rfl (fun ls hl => ?_)
  refine lv_iconst (v := 0) hx hb dX3_some_14 (by decide) ?_
  refine lv_istore_n (lv' := [(3, .int 0), (2, .int 0), (1, .int v2), (0, .ref ot)]) hx hb dX3_some_15 rfl hl (by decide) rfl (fun ls hl => ?_)
  have L16 : ∀ (k : Int32 → Int32 → TD → Option (Int32 × TD)), (∀ (a16 : Int32) (a17 : Int32) (F18 : TD) (H : Heap) (locs : List Loc) (ls : Array Slot), va_P (dC, dI) vwCl (wTD cI cF cJ ot oh b ou od ow oa ob ok os F18) H → va_D A (wTD cI cF cJ ot oh b ou od ow oa ob ok os F18) → va_S A s.heap H locs → lv_has ls 4 [(2, .int a16)] → k a16 a17 F18 = some res → W p l e (headSpec (ws_ yX3_some cX3_some 4 (some .int)) rm_X3_some).room s m ([.ref ot].toArray) below meth c H locs 0 0 (MQ below (va_Qi (fun (r : Int32) (_ : Unit) => r = res.1) (sbEnd (dC, dI) (fun _ => wTD cI cF cJ ot oh b ou od ow oa ob ok os res.2) (A)) (A)) ([.ref ot].toArray) s 0 0 A) (F0 m 51 ls [])) → ∀ (n : Nat) (a16 : Int32) (a17 : Int32) (F18 : TD) (H : Heap) (locs : List Loc) (ls : Array Slot), va_P (dC, dI) vwCl (wTD cI cF cJ ot oh b ou od ow oa ob ok os F18) H → va_D A (wTD cI cF cJ ot oh b ou od ow oa ob ok os F18) → va_S A s.heap H locs → lv_has ls 4 [(2, .int a16), (3, .int a17), (0, .ref ot), (1, .int v2)] → l_X3_some_16 v2 L xs k n a16 a17 F18 = some res → W p l e (headSpec (ws_ yX3_some cX3_some 4 (some .int)) rm_X3_some).room s m ([.ref ot].toArray) below meth c H locs 0 0 (MQ below (va_Qi (fun (r : Int32) (_ : Unit) => r = res.1) (sbEnd (dC, dI) (fun _ => wTD cI cF cJ ot oh b ou od ow oa ob ok os res.2) (A)) (A)) ([.ref ot].toArray) s 0 0 A) (F0 m 16 ls []) := by
    intro k hk n
    induction n with
    | zero =>
      intro a19 a20 F21 H locs ls hP hD hS hl hf
      rw [l_X3_some_16] at hf
      cases hf
    | succ n ih =>
      intro a19 a20 F21 H locs ls hP hD hS hl hf
      rw [l_X3_some_16] at hf
      refine lv_iload_n hx hb dX3_some_16 rfl (lv_at hl 1 rfl) ?_
      refine lv_iload_n hx hb dX3_some_17 rfl (lv_at hl 3 rfl) ?_
      refine lv_icmp_ge (tgt := 51) hx hb dX3_some_18 (by decide) (fun c22 => ?_) (fun c22 => ?_)
      · have hf := ite_t hf c22
        exact hk a19 a20 F21 _ _ _ hP hD hS (lv_sub hl [0] rfl) hf
      · have hf := ite_f hf c22
        refine lv_bipush (v := 10) hx hb dX3_some_21 (by decide) ?_
        refine lv_iload_n hx hb dX3_some_23 rfl (lv_at hl 0 rfl) ?_
        refine lv_imul hx hb dX3_some_24 ?_
        refine lv_topi (fun v23 ev23 => ?_)
        have hf := bnd_all hf v23 ev23
        refine lv_aload_n hx hb dX3_some_25 rfl (lv_at hl 2 rfl) ?_
        refine lv_aload_n hx hb dX3_some_26 rfl (lv_at hl 2 rfl) ?_
        refine lv_iconst (v := 3) hx hb dX3_some_27 (by decide) ?_
        obtain ⟨x24, hx24, hf⟩ := obd_e hf
        refine sb_Vi (As := [.int 3]) (rest := [.ref ot, .int v23]) ⟨hx, hb, hml, hown, hts⟩ (fun sz => c_X3_draw l dC dI cI cF cJ cD b L xs tA tB ot oh ou od ow oa ob ok os F21 3  x24 hx24 sz) (cwV 1 hts (g_V q349 q350 q351 q352 q339) rfl rfl rfl pc_X3_draw ⟨Nat.le_of_ble_eq_true rfl, Nat.le_of_ble_eq_true rfl⟩) 0 3 rfl rfl hK hP hD hS hA [0, 1, 2, 3, 4, 5, 6] [] rfl rfl (by decide) (by decide) (by decide) EX_blind (fun U hU hW => EX_pass hE hS (va_free hD hS hA [0, 1, 2, 3, 4, 5, 6] rfl) hU hW) rfl rfl hl.1 (Nat.le_of_ble_eq_true rfl) dX3_some_28 ⟨hkc, hks⟩ (fun r9 u H locs hr9 hP hD hS => ?_)
        have hr9 := Eq.symm hr9
        subst hr9
        have hP : va_P (dC, dI) vwCl (wTD cI cF cJ ot oh b ou od ow oa ob ok os x24.2) H := hP
        have hD : va_D A (wTD cI cF cJ ot oh b ou od ow oa ob ok os x24.2) := hD
        refine lv_if_ne (tgt := 38) hx hb dX3_some_31 (by decide) (fun c25 => ?_) (fun c25 => ?_)
        · have hf := ite_f hf c25
          refine lv_bipush (v := 10) hx hb dX3_some_38 (by decide) ?_
          obtain ⟨x26, hx26, hf⟩ := obd_e hf
          refine sb_Vi (As := [.int 10]) (rest := [.int v23]) ⟨hx, hb, hml, hown, hts⟩ (fun sz => c_X3_draw l dC dI cI cF cJ cD b L xs tA tB ot oh ou od ow oa ob ok os x24.2 10  x26 hx26 sz) (cwV 1 hts (g_V q349 q350 q351 q352 q339) rfl rfl rfl pc_X3_draw ⟨Nat.le_of_ble_eq_true rfl, Nat.le_of_ble_eq_true rfl⟩) 0 3 rfl rfl hK hP hD hS hA [0, 1, 2, 3, 4, 5, 6] [] rfl rfl (by decide) (by decide) (by decide) EX_blind (fun U hU hW => EX_pass hE hS (va_free hD hS hA [0, 1, 2, 3, 4, 5, 6] rfl) hU hW) rfl rfl hl.1 (Nat.le_of_ble_eq_true rfl) dX3_some_40 ⟨hkc, hks⟩ (fun r9 u H locs hr9 hP hD hS => ?_)
          have hr9 := Eq.symm hr9
          subst hr9
          have hP : va_P (dC, dI) vwCl (wTD cI cF cJ ot oh b ou od ow oa ob ok os x26.2) H := hP
          have hD : va_D A (wTD cI cF cJ ot oh b ou od ow oa ob ok os x26.2) := hD
          refine lv_iadd hx hb dX3_some_43 ?_
          refine lv_topi (fun v27 ev27 => ?_)
          have hf := bnd_all hf v27 ev27
          refine lv_istore_n (lv' := [(2, .int v27), (3, .int a20), (0, .ref ot), (1, .int v2)]) hx hb dX3_some_44 rfl hl (by decide) rfl (fun ls hl => ?_)
          obtain ⟨v28, ev28⟩ : ∃ y : Int32, y = a20 + 1 := ⟨_, rfl⟩
          have hf := bnd_all hf v28 ev28
          refine lv_iinc (v := v28) (lv' := [(3, .int v28), (2, .int v27), (0, .ref ot), (1, .int v2)]) hx hb dX3_some_45 hl (k := 1) rfl (by rw [ev28]; rfl) (by decide) rfl (fun ls hl => ?_)
          refine lv_goto (tgt := 16) hx hb dX3_some_48 (by decide) ?_
          exact ih v27 v28 x26.2 _ _ _ hP hD hS (lv_sub hl [1, 0, 2, 3] rfl) hf
        · have hf := ite_t hf c25
          refine lv_iconst (v := 3) hx hb dX3_some_34 (by decide) ?_
          refine lv_goto (tgt := 40) hx hb dX3_some_35 (by decide) ?_
          obtain ⟨x29, hx29, hf⟩ := obd_e hf
          refine sb_Vi (As := [.int 3]) (rest := [.int v23]) ⟨hx, hb, hml, hown, hts⟩ (fun sz => c_X3_draw l dC dI cI cF cJ cD b L xs tA tB ot oh ou od ow oa ob ok os x24.2 3  x29 hx29 sz) (cwV 1 hts (g_V q349 q350 q351 q352 q339) rfl rfl rfl pc_X3_draw ⟨Nat.le_of_ble_eq_true rfl, Nat.le_of_ble_eq_true rfl⟩) 0 3 rfl rfl hK hP hD hS hA [0, 1, 2, 3, 4, 5, 6] [] rfl rfl (by decide) (by decide) (by decide) EX_blind (fun U hU hW => EX_pass hE hS (va_free hD hS hA [0, 1, 2, 3, 4, 5, 6] rfl) hU hW) rfl rfl hl.1 (Nat.le_of_ble_eq_true rfl) dX3_some_40 ⟨hkc, hks⟩ (fun r9 u H locs hr9 hP hD hS => ?_)
          have hr9 := Eq.symm hr9
          subst hr9
          have hP : va_P (dC, dI) vwCl (wTD cI cF cJ ot oh b ou od ow oa ob ok os x29.2) H := hP
          have hD : va_D A (wTD cI cF cJ ot oh b ou od ow oa ob ok os x29.2) := hD
          refine lv_iadd hx hb dX3_some_43 ?_
          refine lv_topi (fun v30 ev30 => ?_)
          have hf := bnd_all hf v30 ev30
          refine lv_istore_n (lv' := [(2, .int v30), (3, .int a20), (0, .ref ot), (1, .int v2)]) hx hb dX3_some_44 rfl hl (by decide) rfl (fun ls hl => ?_)
          obtain ⟨v31, ev31⟩ : ∃ y : Int32, y = a20 + 1 := ⟨_, rfl⟩
          have hf := bnd_all hf v31 ev31
          refine lv_iinc (v := v31) (lv' := [(3, .int v31), (2, .int v30), (0, .ref ot), (1, .int v2)]) hx hb dX3_some_45 hl (k := 1) rfl (by rw [ev31]; rfl) (by decide) rfl (fun ls hl => ?_)
          refine lv_goto (tgt := 16) hx hb dX3_some_48 (by decide) ?_
          exact ih v30 v31 x29.2 _ _ _ hP hD hS (lv_sub hl [1, 0, 2, 3] rfl) hf
  refine L16 _ (fun a32 a33 F34 H locs ls hP hD hS hl hf => ?_) 16 0 0 x1.2 _ _ _ hP hD hS (lv_sub hl [1, 0, 3, 2] rfl) hf
  refine lv_iload_n hx hb dX3_some_51 rfl (lv_at hl 0 rfl) ?_
  obtain rfl := Option.some.inj hf
  exact W.iret (v := a32) hx hb hr (fun t ht hW => ⟨⟨_, (), rfl, rfl, by rw [ht]; exact hP, hD⟩, hS.F ht⟩) hS.2.2 dX3_some_52
