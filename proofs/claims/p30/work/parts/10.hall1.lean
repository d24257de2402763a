-- laid by wip/p30/specs.py
noncomputable def f_X2_frameAt (rw : Nat → Option Nat) (p0 : Int32) : Option (Option Nat) := if p0 < 0 then (some none) else (if (4 : Int32) ≤ p0 then (some none) else (gd (gin p0 4) <| some (rw (Int32.toNatClampNeg p0))))
theorem pc_X2_frameAt : yX2_frameAt.cls = RX2 ∧ yX2_frameAt.cls ≠ "java/lang/invoke/MethodHandle" ∧ yX2_frameAt.cls ≠ "java/lang/invoke/VarHandle" ∧ (parseMethodDescriptor yX2_frameAt.desc).map (fun d => d.parameters.length) = some 1 := by decide +kernel
abbrev rm_X2_frameAt : Room := { frames := 1, cells := 0, slots := 0, locals := 21 }
set_option maxHeartbeats 4000000 in
set_option maxRecDepth 100000 in
theorem c_X2_frameAt (l : Launch) (dC : Nat → ClassId) (dI : Nat → Nat → Nat) (cI cF cJ cD : ClassId) (h fa tr : Nat) (rw : Nat → Option Nat) (Hb : HB) (p0 : Int32) (res : (Option Nat)) (hf : f_X2_frameAt rw p0 = some res) (sz : Nat) : Met l yX2_frameAt (ws_ yX2_frameAt cX2_frameAt 2 (some (.object "SorobanHall$Frame"))) rm_X2_frameAt (sbPre (dC, dI) (TY cI cF cJ cD) (wHB cI cF cJ h fa tr rw Hb) E0 sz [.ref h, .int p0]) (va_Qq (fun (r : Option Nat) (_ : Unit) => r = res) (sbEnd (dC, dI) (fun _ => wHB cI cF cJ h fa tr rw Hb) (va_A (wHB cI cF cJ h fa tr rw Hb) sz)) (va_A (wHB cI cF cJ h fa tr rw Hb) sz)) 0 0 (va_A (wHB cI cF cJ h fa tr rw Hb) sz) := by
  refine Met.ofW (cc := cX2_frameAt) (maxL := 2) (ret := (some (.object "SorobanHall$Frame"))) (by decide) rfl ?_
  intro p e s m args below meth c s₁ B hml hv
  obtain ⟨rfl, hsz, hP, hK, hD0, hE⟩ := hv
  have hx := B.exec
  have hb := B.bytes
  have hr := B.returns
  have hts0 := atoms_spec (ws := ws_ yX2_frameAt cX2_frameAt 2 (some (.object "SorobanHall$Frame"))) B.pre
  have hts := fun (w : Cond) (h : w ∈ LW) => hts0 w (List.mem_cons_of_mem _ h)
  have hown : s.vm.findClass RX2 = some m.cls := findClass_of_methodNamed B.named
  have hlocks := B.notSynchronized
  subst hsz
  have hD := hD0.self (sz := s.heap.size)
  generalize hAe : va_A (wHB cI cF cJ h fa tr rw Hb) s.heap.size = A at hD ⊢
  have hA : ∀ q : Nat, s.heap.size ≤ q → A q := fun q h => by rw [← hAe]; exact Or.inr h
  have hS : va_S A s.heap s.heap [] := va_S.rf
  have hkc := Nat.zero_le rm_X2_frameAt.cells
  have hks := Nat.zero_le rm_X2_frameAt.slots
  have hl := lv_entry ([.ref h, .int p0]) (n := 2) (Nat.le_of_ble_eq_true rfl)
  rw [lg_entry_eq]
  generalize (lg_sl ([.ref h, .int p0]) ++ List.replicate (2 - (lg_sl ([.ref h, .int p0])).length) Slot.unset).toArray = ls at hl ⊢
  have hl : lv_has ls 2 [(0, .ref h), (1, .int p0)] := hl
  rw [f_X2_frameAt] at hf
  refine lv_iload_n hx hb dX2_frameAt_0 rfl (lv_at hl 1 rfl) ?_
  refine lv_if_lt (tgt := 22) hx hb dX2_frameAt_1 (by decide) (fun c1 => ?_) (fun c1 => ?_)
  · have hf := ite_t hf c1
    refine lv_null hx hb dX2_frameAt_22 ?_
    obtain rfl := Option.some.inj hf
    exact W.aret (v := va_rf none) hx hb hr (Or.inl ⟨_, rfl⟩) (va_rf_or none) (fun t ht hW => ⟨⟨none, (), rfl, rfl, by rw [ht]; exact hP, hD⟩, hS.F ht⟩) hS.2.2 dX2_frameAt_23
  · have hf := ite_f hf c1
    refine lv_iload_n hx hb dX2_frameAt_4 rfl (lv_at hl 1 rfl) ?_
    refine lv_aload_n hx hb dX2_frameAt_5 rfl (lv_at hl 0 rfl) ?_
    refine va_get (D := (dC, dI)) (ci := 2) (v := .ref fa) (C := RX2) (T := TX2) (N := 4) hx hb hts iX2 hown hK hP 0 rfl rfl 0 (by decide) (hts _ q152) (fun _ h9 => h9) rfl dX2_frameAt_6 ?_
    refine va_alen (v := 4) hx hb hK hP 1 1 rfl rfl rfl dX2_frameAt_9 ?_
    refine lv_icmp_ge (tgt := 22) hx hb dX2_frameAt_10 (by decide) (fun c2 => ?_) (fun c2 => ?_)
    · have hf := ite_t hf c2
      refine lv_null hx hb dX2_frameAt_22 ?_
      obtain rfl := Option.some.inj hf
      exact W.aret (v := va_rf none) hx hb hr (Or.inl ⟨_, rfl⟩) (va_rf_or none) (fun t ht hW => ⟨⟨none, (), rfl, rfl, by rw [ht]; exact hP, hD⟩, hS.F ht⟩) hS.2.2 dX2_frameAt_23
    · have hf := ite_f hf c2
      refine lv_aload_n hx hb dX2_frameAt_13 rfl (lv_at hl 0 rfl) ?_
      refine va_get (D := (dC, dI)) (ci := 2) (v := .ref fa) (C := RX2) (T := TX2) (N := 4) hx hb hts iX2 hown hK hP 0 rfl rfl 0 (by decide) (hts _ q152) (fun _ h9 => h9) rfl dX2_frameAt_14 ?_
      refine lv_iload_n hx hb dX2_frameAt_17 rfl (lv_at hl 1 rfl) ?_
      obtain ⟨g3, hf⟩ := gd_e hf
      refine va_aldq hx hb hK hP 1 1 rfl rfl (gin_in g3) dX2_frameAt_18 ?_
      refine lv_goto (tgt := 23) hx hb dX2_frameAt_19 (by decide) ?_
      obtain rfl := Option.some.inj hf
      exact W.aret (v := va_rf (rw (Int32.toNatClampNeg p0))) hx hb hr (Or.inl ⟨_, rfl⟩) (va_rf_or (rw (Int32.toNatClampNeg p0))) (fun t ht hW => ⟨⟨(rw (Int32.toNatClampNeg p0)), (), rfl, rfl, by rw [ht]; exact hP, hD⟩, hS.F ht⟩) hS.2.2 dX2_frameAt_23
noncomputable def f_X2_foundFrame (Hb : HB) (p0 : Int32) : Option Unit := some ()
theorem pc_X2_foundFrame : yX2_foundFrame.cls = RX2 ∧ yX2_foundFrame.cls ≠ "java/lang/invoke/MethodHandle" ∧ yX2_foundFrame.cls ≠ "java/lang/invoke/VarHandle" ∧ (parseMethodDescriptor yX2_foundFrame.desc).map (fun d => d.parameters.length) = some 1 := by decide +kernel
abbrev rm_X2_foundFrame : Room := { frames := 2, cells := 0, slots := 0, locals := 42 }
set_option maxHeartbeats 4000000 in
set_option maxRecDepth 100000 in
theorem c_X2_foundFrame (l : Launch) (dC : Nat → ClassId) (dI : Nat → Nat → Nat) (cI cF cJ cD : ClassId) (h fa tr q0 : Nat) (rw : Nat → Option Nat) (Hb : HB) (p0 : Int32) (hq : f_X2_frameAt rw p0 = some (some q0)) (res : Unit) (hf : f_X2_foundFrame Hb p0 = some res) (sz : Nat) : Met l yX2_foundFrame (ws_ yX2_foundFrame cX2_foundFrame 3 (some (.object "SorobanHall$Frame"))) rm_X2_foundFrame (sbPre (dC, dI) (TY cI cF cJ cD) (wHB cI cF cJ h fa tr rw Hb) E0 sz [.ref h, .int p0]) (va_Qq (fun (r : Option Nat) (_ : Unit) => r = some q0) (sbEnd (dC, dI) (fun _ => wHB cI cF cJ h fa tr rw Hb) (va_A (wHB cI cF cJ h fa tr rw Hb) sz)) (va_A (wHB cI cF cJ h fa tr rw Hb) sz)) 0 0 (va_A (wHB cI cF cJ h fa tr rw Hb) sz) := by
  refine Met.ofW (cc := cX2_foundFrame) (maxL := 3) (ret := (some (.object "SorobanHall$Frame"))) (by decide) rfl ?_
  intro p e s m args below meth c s₁ B hml hv
  obtain ⟨rfl, hsz, hP, hK, hD0, hE⟩ := hv
  have hx := B.exec
  have hb := B.bytes
  have hr := B.returns
  have hts0 := atoms_spec (ws := ws_ yX2_foundFrame cX2_foundFrame 3 (some (.object "SorobanHall$Frame"))) B.pre
  have hts := fun (w : Cond) (h : w ∈ LW) => hts0 w (List.mem_cons_of_mem _ h)
  have hown : s.vm.findClass RX2 = some m.cls := findClass_of_methodNamed B.named
  have hlocks := B.notSynchronized
  subst hsz
  have hD := hD0.self (sz := s.heap.size)
  generalize hAe : va_A (wHB cI cF cJ h fa tr rw Hb) s.heap.size = A at hD ⊢
  have hA : ∀ q : Nat, s.heap.size ≤ q → A q := fun q h => by rw [← hAe]; exact Or.inr h
  have hS : va_S A s.heap s.heap [] := va_S.rf
  have hkc := Nat.zero_le rm_X2_foundFrame.cells
  have hks := Nat.zero_le rm_X2_foundFrame.slots
  have hl := lv_entry ([.ref h, .int p0]) (n := 3) (Nat.le_of_ble_eq_true rfl)
  rw [lg_entry_eq]
  generalize (lg_sl ([.ref h, .int p0]) ++ List.replicate (3 - (lg_sl ([.ref h, .int p0])).length) Slot.unset).toArray = ls at hl ⊢
  have hl : lv_has ls 3 [(0, .ref h), (1, .int p0)] := hl
  rw [f_X2_foundFrame] at hf
  refine lv_aload_n hx hb dX2_foundFrame_0 rfl (lv_at hl 0 rfl) ?_
  refine lv_iload_n hx hb dX2_foundFrame_1 rfl (lv_at hl 1 rfl) ?_
  refine sb_Vq (As := [.int p0]) (rest := []) ⟨hx, hb, hml, hown, hts⟩ (fun sz => c_X2_frameAt l dC dI cI cF cJ cD h fa tr rw Hb p0 _ hq sz) (cwV 1 hts (g_V q169 q170 q171 q172 q165) rfl rfl rfl pc_X2_frameAt ⟨Nat.le_of_ble_eq_true rfl, Nat.le_of_ble_eq_true rfl⟩) 0 2 rfl rfl hK hP hD hS hA [0, 1] [] rfl rfl (by decide) (by decide) (by decide) (fun _ _ _ _ h => h) (fun _ _ _ => trivial) rfl rfl hl.1 (Nat.le_of_ble_eq_true rfl) dX2_foundFrame_2 ⟨hkc, hks⟩ (fun r9 u H locs hr9 hP hD hS => ?_)
  have hr9 := Eq.symm hr9
  subst hr9
  have hP : va_P (dC, dI) vwCl (wHB cI cF cJ h fa tr rw Hb) H := hP.sub [0, 1] rfl
  have hD : va_D A (wHB cI cF cJ h fa tr rw Hb) := hD.sub [0, 1] (by decide) rfl
  refine sb_topv (v' := .ref q0) rfl ?_
  refine lv_astore_n (lv' := [(2, .ref q0), (0, .ref h), (1, .int p0)]) hx hb dX2_foundFrame_5 rfl hl (by decide) rfl (fun ls hl => ?_)
  refine lv_aload_n hx hb dX2_foundFrame_6 rfl (lv_at hl 0 rfl) ?_
  refine lv_ifnonnull (tgt := 20) hx hb dX2_foundFrame_7 (by decide) ?_
  refine lv_aload_n hx hb dX2_foundFrame_20 rfl (lv_at hl 0 rfl) ?_
  obtain rfl := Option.some.inj hf
  exact W.aret (v := .ref q0) hx hb hr (Or.inl ⟨_, rfl⟩) (Or.inr ⟨_, rfl⟩) (fun t ht hW => ⟨⟨(some q0), (), rfl, rfl, by rw [ht]; exact hP, hD⟩, hS.F ht⟩) hS.2.2 dX2_foundFrame_21
noncomputable def f_X2_foundFrameWithRod (Hb : HB) (F : FR) (p0 : Int32) (p1 : Int32) : Option Unit := obd (f_X2_foundFrame Hb p0) fun x1 => obd (f_X1_hasRod F p1) fun x2 => if x2 = 0 then (none) else (some ())
theorem pc_X2_foundFrameWithRod : yX2_foundFrameWithRod.cls = RX2 ∧ yX2_foundFrameWithRod.cls ≠ "java/lang/invoke/MethodHandle" ∧ yX2_foundFrameWithRod.cls ≠ "java/lang/invoke/VarHandle" ∧ (parseMethodDescriptor yX2_foundFrameWithRod.desc).map (fun d => d.parameters.length) = some 2 := by decide +kernel
abbrev rm_X2_foundFrameWithRod : Room := { frames := 3, cells := 0, slots := 0, locals := 64 }
set_option maxHeartbeats 4000000 in
set_option maxRecDepth 100000 in
theorem c_X2_foundFrameWithRod (l : Launch) (dC : Nat → ClassId) (dI : Nat → Nat → Nat) (cI cF cJ cD : ClassId) (h fa tr q0 q1 q2 q3 q4 q5 q6 q7 q8 : Nat) (rw : Nat → Option Nat) (Hb : HB) (F : FR) (p0 : Int32) (p1 : Int32) (hq : f_X2_frameAt rw p0 = some (some q0)) (res : Unit) (hf : f_X2_foundFrameWithRod Hb F p0 p1 = some res) (sz : Nat) : Met l yX2_foundFrameWithRod (ws_ yX2_foundFrameWithRod cX2_foundFrameWithRod 4 (some (.object "SorobanHall$Frame"))) rm_X2_foundFrameWithRod (sbPre (dC, dI) (TY cI cF cJ cD) (wHB cI cF cJ h fa tr rw Hb ++ (wFR cI cF cJ q0 q1 q2 q3 q4 q5 q6 q7 q8 F)) E0 sz [.ref h, .int p0, .int p1]) (va_Qq (fun (r : Option Nat) (_ : Unit) => r = some q0) (sbEnd (dC, dI) (fun _ => wHB cI cF cJ h fa tr rw Hb ++ (wFR cI cF cJ q0 q1 q2 q3 q4 q5 q6 q7 q8 F)) (va_A (wHB cI cF cJ h fa tr rw Hb ++ (wFR cI cF cJ q0 q1 q2 q3 q4 q5 q6 q7 q8 F)) sz)) (va_A (wHB cI cF cJ h fa tr rw Hb ++ (wFR cI cF cJ q0 q1 q2 q3 q4 q5 q6 q7 q8 F)) sz)) 0 0 (va_A (wHB cI cF cJ h fa tr rw Hb ++ (wFR cI cF cJ q0 q1 q2 q3 q4 q5 q6 q7 q8 F)) sz) := by
  refine Met.ofW (cc := cX2_foundFrameWithRod) (maxL := 4) (ret := (some (.object "SorobanHall$Frame"))) (by decide) rfl ?_
  intro p e s m args below meth c s₁ B hml hv
  obtain ⟨rfl, hsz, hP, hK, hD0, hE⟩ := hv
  have hx := B.exec
  have hb := B.bytes
  have hr := B.returns
  have hts0 := atoms_spec (ws := ws_ yX2_foundFrameWithRod cX2_foundFrameWithRod 4 (some (.object "SorobanHall$Frame"))) B.pre
  have hts := fun (w : Cond) (h : w ∈ LW) => hts0 w (List.mem_cons_of_mem _ h)
  have hown : s.vm.findClass RX2 = some m.cls := findClass_of_methodNamed B.named
  have hlocks := B.notSynchronized
  subst hsz
  have hD := hD0.self (sz := s.heap.size)
  generalize hAe : va_A (wHB cI cF cJ h fa tr rw Hb ++ (wFR cI cF cJ q0 q1 q2 q3 q4 q5 q6 q7 q8 F)) s.heap.size = A at hD ⊢
  have hA : ∀ q : Nat, s.heap.size ≤ q → A q := fun q h => by rw [← hAe]; exact Or.inr h
  have hS : va_S A s.heap s.heap [] := va_S.rf
  have hkc := Nat.zero_le rm_X2_foundFrameWithRod.cells
  have hks := Nat.zero_le rm_X2_foundFrameWithRod.slots
  have hl := lv_entry ([.ref h, .int p0, .int p1]) (n := 4) (Nat.le_of_ble_eq_true rfl)
  rw [lg_entry_eq]
  generalize (lg_sl ([.ref h, .int p0, .int p1]) ++ List.replicate (4 - (lg_sl ([.ref h, .int p0, .int p1])).length) Slot.unset).toArray = ls at hl ⊢
  have hl : lv_has ls 4 [(0, .ref h), (1, .int p0), (2, .int p1)] := hl
  rw [f_X2_foundFrameWithRod] at hf
  refine lv_aload_n hx hb dX2_foundFrameWithRod_0 rfl (lv_at hl 0 rfl) ?_
  refine lv_iload_n hx hb dX2_foundFrameWithRod_1 rfl (lv_at hl 1 rfl) ?_
  obtain ⟨x1, hx1, hf⟩ := obd_e hf
  refine sb_Vq (As := [.int p0]) (rest := []) ⟨hx, hb, hml, hown, hts⟩ (fun sz => c_X2_foundFrame l dC dI cI cF cJ cD h fa tr q0 rw Hb p0 hq x1 hx1 sz) (cwV 1 hts (g_V q174 q175 q176 q172 q166) rfl rfl rfl pc_X2_foundFrame ⟨Nat.le_of_ble_eq_true rfl, Nat.le_of_ble_eq_true rfl⟩) 0 2 rfl rfl hK hP hD hS hA [0, 1] [2, 3, 4, 5, 6, 7, 8, 9, 10] rfl rfl (by decide) (by decide) (by decide) (fun _ _ _ _ h => h) (fun _ _ _ => trivial) rfl rfl hl.1 (Nat.le_of_ble_eq_true rfl) dX2_foundFrameWithRod_2 ⟨hkc, hks⟩ (fun r9 u H locs hr9 hP hD hS => ?_)
  have hr9 := Eq.symm hr9
  subst hr9
  have hP : va_P (dC, dI) vwCl (wHB cI cF cJ h fa tr rw Hb ++ (wFR cI cF cJ q0 q1 q2 q3 q4 q5 q6 q7 q8 F)) H := hP.sub [9, 10, 0, 1, 2, 3, 4, 5, 6, 7, 8] rfl
  have hD : va_D A (wHB cI cF cJ h fa tr rw Hb ++ (wFR cI cF cJ q0 q1 q2 q3 q4 q5 q6 q7 q8 F)) := hD.sub [9, 10, 0, 1, 2, 3, 4, 5, 6, 7, 8] (by decide) rfl
  refine lv_astore_n (lv' := [(3, .ref q0), (0, .ref h), (1, .int p0), (2, .int p1)]) hx hb dX2_foundFrameWithRod_5 rfl hl (by decide) rfl (fun ls hl => ?_)
  refine lv_aload_n hx hb dX2_foundFrameWithRod_6 rfl (lv_at hl 0 rfl) ?_
  refine lv_iload_n hx hb dX2_foundFrameWithRod_7 rfl (lv_at hl 3 rfl) ?_
  obtain ⟨x2, hx2, hf⟩ := obd_e hf
  refine sb_Vi (As := [.int p1]) (rest := []) ⟨hx, hb, hml, hown, hts⟩ (fun sz => c_X1_hasRod l dC dI cI cF cJ cD q0 q1 q2 q3 q4 q5 q6 q7 q8 F p1  x2 hx2 sz) (cwV 1 hts (g_V q177 q178 q179 q56 q45) rfl rfl rfl pc_X1_hasRod ⟨Nat.le_of_ble_eq_true rfl, Nat.le_of_ble_eq_true rfl⟩) 0 1 rfl rfl hK hP hD hS hA [2, 3, 4, 5, 6, 7, 8, 9, 10] [0, 1] rfl rfl (by decide) (by decide) (by decide) (fun _ _ _ _ h => h) (fun _ _ _ => trivial) rfl rfl hl.1 (Nat.le_of_ble_eq_true rfl) dX2_foundFrameWithRod_8 ⟨hkc, hks⟩ (fun r9 u H locs hr9 hP hD hS => ?_)
  have hr9 := Eq.symm hr9
  subst hr9
  have hP : va_P (dC, dI) vwCl (wHB cI cF cJ h fa tr rw Hb ++ (wFR cI cF cJ q0 q1 q2 q3 q4 q5 q6 q7 q8 F)) H := hP
  have hD : va_D A (wHB cI cF cJ h fa tr rw Hb ++ (wFR cI cF cJ q0 q1 q2 q3 q4 q5 q6 q7 q8 F)) := hD
  refine lv_if_ne (tgt := 24) hx hb dX2_foundFrameWithRod_11 (by decide) (fun c3 => ?_) (fun c3 => ?_)
  · have hf := ite_f hf c3
    refine lv_aload_n hx hb dX2_foundFrameWithRod_24 rfl (lv_at hl 0 rfl) ?_
    obtain rfl := Option.some.inj hf
    exact W.aret (v := .ref q0) hx hb hr (Or.inl ⟨_, rfl⟩) (Or.inr ⟨_, rfl⟩) (fun t ht hW => ⟨⟨(some q0), (), rfl, rfl, by rw [ht]; exact hP, hD⟩, hS.F ht⟩) hS.2.2 dX2_foundFrameWithRod_25
  · have hf := ite_t hf c3
    cases hf
noncomputable def f_X2_refuseUnlessFits (F : FR) (p0 : Int32) : Option Unit := bnd (p0.toInt64) fun (v1 : Int64) => obd (f_X1_hasRodsFor F v1) fun x2 => if x2 = 0 then (none) else (some ())
theorem ps_X2_refuseUnlessFits : yX2_refuseUnlessFits.cls ≠ "java/lang/invoke/MethodHandle" ∧ yX2_refuseUnlessFits.cls ≠ "java/lang/invoke/VarHandle" ∧ (parseMethodDescriptor yX2_refuseUnlessFits.desc).map (fun d => d.parameters.length) = some 2 := by decide +kernel
abbrev rm_X2_refuseUnlessFits : Room := { frames := 2, cells := 0, slots := 0, locals := 46 }
set_option maxHeartbeats 4000000 in
set_option maxRecDepth 100000 in
theorem c_X2_refuseUnlessFits (l : Launch) (dC : Nat → ClassId) (dI : Nat → Nat → Nat) (cI cF cJ cD : ClassId) (q0 q1 q2 q3 q4 q5 q6 q7 q8 : Nat) (F : FR) (p0 : Int32) (res : Unit) (hf : f_X2_refuseUnlessFits F p0 = some res) (sz : Nat) : Met l yX2_refuseUnlessFits (ws_ yX2_refuseUnlessFits cX2_refuseUnlessFits 2 none) rm_X2_refuseUnlessFits (sbPre (dC, dI) (TY cI cF cJ cD) (wFR cI cF cJ q0 q1 q2 q3 q4 q5 q6 q7 q8 F) E0 sz [.ref q0, .int p0]) (va_Qv (fun (_ : Unit) => True) (sbEnd (dC, dI) (fun _ => wFR cI cF cJ q0 q1 q2 q3 q4 q5 q6 q7 q8 F) (va_A (wFR cI cF cJ q0 q1 q2 q3 q4 q5 q6 q7 q8 F) sz)) (va_A (wFR cI cF cJ q0 q1 q2 q3 q4 q5 q6 q7 q8 F) sz)) 0 0 (va_A (wFR cI cF cJ q0 q1 q2 q3 q4 q5 q6 q7 q8 F) sz) := by
  refine Met.ofW (cc := cX2_refuseUnlessFits) (maxL := 2) (ret := none) (by decide) rfl ?_
  intro p e s m args below meth c s₁ B hml hv
  obtain ⟨rfl, hsz, hP, hK, hD0, hE⟩ := hv
  have hx := B.exec
  have hb := B.bytes
  have hr := B.returns
  have hts0 := atoms_spec (ws := ws_ yX2_refuseUnlessFits cX2_refuseUnlessFits 2 none) B.pre
  have hts := fun (w : Cond) (h : w ∈ LW) => hts0 w (List.mem_cons_of_mem _ h)
  have hown : s.vm.findClass RX2 = some m.cls := findClass_of_methodNamed B.named
  have hlocks := B.notSynchronized
  subst hsz
  have hD := hD0.self (sz := s.heap.size)
  generalize hAe : va_A (wFR cI cF cJ q0 q1 q2 q3 q4 q5 q6 q7 q8 F) s.heap.size = A at hD ⊢
  have hA : ∀ q : Nat, s.heap.size ≤ q → A q := fun q h => by rw [← hAe]; exact Or.inr h
  have hS : va_S A s.heap s.heap [] := va_S.rf
  have hkc := Nat.zero_le rm_X2_refuseUnlessFits.cells
  have hks := Nat.zero_le rm_X2_refuseUnlessFits.slots
  have hl := lv_entry ([.ref q0, .int p0]) (n := 2) (Nat.le_of_ble_eq_true rfl)
  rw [lg_entry_eq]
  generalize (lg_sl ([.ref q0, .int p0]) ++ List.replicate (2 - (lg_sl ([.ref q0, .int p0])).length) Slot.unset).toArray = ls at hl ⊢
  have hl : lv_has ls 2 [(0, .ref q0), (1, .int p0)] := hl
  rw [f_X2_refuseUnlessFits] at hf
  refine lv_aload_n hx hb dX2_refuseUnlessFits_0 rfl (lv_at hl 0 rfl) ?_
  refine lv_iload_n hx hb dX2_refuseUnlessFits_1 rfl (lv_at hl 1 rfl) ?_
  refine lv_i2l hx hb dX2_refuseUnlessFits_2 rfl ?_
  refine lv_topl (fun v1 ev1 => ?_)
  have hf := bnd_all hf v1 ev1
  obtain ⟨x2, hx2, hf⟩ := obd_e hf
  refine sb_Vi (As := [.long v1]) (rest := []) ⟨hx, hb, hml, hown, hts⟩ (fun sz => c_X1_hasRodsFor l dC dI cI cF cJ cD q0 q1 q2 q3 q4 q5 q6 q7 q8 F v1  x2 hx2 sz) (cwV 1 hts (g_V q202 q203 q204 q56 q46) rfl rfl rfl pc_X1_hasRodsFor ⟨Nat.le_of_ble_eq_true rfl, Nat.le_of_ble_eq_true rfl⟩) 0 1 rfl rfl hK hP hD hS hA [0, 1, 2, 3, 4, 5, 6, 7, 8] [] rfl rfl (by decide) (by decide) (by decide) (fun _ _ _ _ h => h) (fun _ _ _ => trivial) rfl rfl hl.1 (Nat.le_of_ble_eq_true rfl) dX2_refuseUnlessFits_3 ⟨hkc, hks⟩ (fun r9 u H locs hr9 hP hD hS => ?_)
  have hr9 := Eq.symm hr9
  subst hr9
  have hP : va_P (dC, dI) vwCl (wFR cI cF cJ q0 q1 q2 q3 q4 q5 q6 q7 q8 F) H := hP
  have hD : va_D A (wFR cI cF cJ q0 q1 q2 q3 q4 q5 q6 q7 q8 F) := hD
  refine lv_if_ne (tgt := 19) hx hb dX2_refuseUnlessFits_6 (by decide) (fun c3 => ?_) (fun c3 => ?_)
  · have hf := ite_f hf c3
    obtain rfl := Option.some.inj hf
    exact W.vret hx hb hr (fun t ht hW => ⟨⟨(), rfl, trivial, by rw [ht]; exact hP, hD⟩, hS.F ht⟩) hS.2.2 dX2_refuseUnlessFits_19
  · have hf := ite_t hf c3
    cases hf
noncomputable def f_X2_refuseUnlessBelow (p0 : Int32) (p1 : Int32) : Option Unit := if p0 < 0 then (none) else (if p0 < p1 then (some ()) else (none))
theorem ps_X2_refuseUnlessBelow : yX2_refuseUnlessBelow.cls ≠ "java/lang/invoke/MethodHandle" ∧ yX2_refuseUnlessBelow.cls ≠ "java/lang/invoke/VarHandle" ∧ (parseMethodDescriptor yX2_refuseUnlessBelow.desc).map (fun d => d.parameters.length) = some 2 := by decide +kernel
abbrev rm_X2_refuseUnlessBelow : Room := { frames := 1, cells := 0, slots := 0, locals := 21 }
set_option maxHeartbeats 4000000 in
set_option maxRecDepth 100000 in
theorem c_X2_refuseUnlessBelow (l : Launch) (dC : Nat → ClassId) (dI : Nat → Nat → Nat) (cI cF cJ cD : ClassId) (p0 : Int32) (p1 : Int32) (res : Unit) (hf : f_X2_refuseUnlessBelow p0 p1 = some res) (sz : Nat) : Met l yX2_refuseUnlessBelow (ws_ yX2_refuseUnlessBelow cX2_refuseUnlessBelow 2 none) rm_X2_refuseUnlessBelow (sbPre (dC, dI) (TY cI cF cJ cD) (([] : va_W)) E0 sz [.int p0, .int p1]) (va_Qv (fun (_ : Unit) => True) (sbEnd (dC, dI) (fun _ => ([] : va_W)) (va_A (([] : va_W)) sz)) (va_A (([] : va_W)) sz)) 0 0 (va_A (([] : va_W)) sz) := by
  refine Met.ofW (cc := cX2_refuseUnlessBelow) (maxL := 2) (ret := none) (by decide) rfl ?_
  intro p e s m args below meth c s₁ B hml hv
  obtain ⟨rfl, hsz, hP, hK, hD0, hE⟩ := hv
  have hx := B.exec
  have hb := B.bytes
  have hr := B.returns
  have hts0 := atoms_spec (ws := ws_ yX2_refuseUnlessBelow cX2_refuseUnlessBelow 2 none) B.pre
  have hts := fun (w : Cond) (h : w ∈ LW) => hts0 w (List.mem_cons_of_mem _ h)
  have hown : s.vm.findClass RX2 = some m.cls := findClass_of_methodNamed B.named
  have hlocks := B.notSynchronized
  subst hsz
  have hD := hD0.self (sz := s.heap.size)
  generalize hAe : va_A (([] : va_W)) s.heap.size = A at hD ⊢
  have hA : ∀ q : Nat, s.heap.size ≤ q → A q := fun q h => by rw [← hAe]; exact Or.inr h
  have hS : va_S A s.heap s.heap [] := va_S.rf
  have hkc := Nat.zero_le rm_X2_refuseUnlessBelow.cells
  have hks := Nat.zero_le rm_X2_refuseUnlessBelow.slots
  have hl := lv_entry ([.int p0, .int p1]) (n := 2) (Nat.le_of_ble_eq_true rfl)
  rw [lg_entry_eq]
  generalize (lg_sl ([.int p0, .int p1]) ++ List.replicate (2 - (lg_sl ([.int p0, .int p1])).length) Slot.unset).toArray = ls at hl ⊢
  have hl : lv_has ls 2 [(0, .int p0), (1, .int p1)] := hl
  rw [f_X2_refuseUnlessBelow] at hf
  refine lv_iload_n hx hb dX2_refuseUnlessBelow_0 rfl (lv_at hl 0 rfl) ?_
  refine lv_if_lt (tgt := 9) hx hb dX2_refuseUnlessBelow_1 (by decide) (fun c1 => ?_) (fun c1 => ?_)
  · have hf := ite_t hf c1
    cases hf
  · have hf := ite_f hf c1
    refine lv_iload_n hx hb dX2_refuseUnlessBelow_4 rfl (lv_at hl 0 rfl) ?_
    refine lv_iload_n hx hb dX2_refuseUnlessBelow_5 rfl (lv_at hl 1 rfl) ?_
    refine lv_icmp_lt (tgt := 19) hx hb dX2_refuseUnlessBelow_6 (by decide) (fun c2 => ?_) (fun c2 => ?_)
    · have hf := ite_t hf c2
      obtain rfl := Option.some.inj hf
      exact W.vret hx hb hr (fun t ht hW => ⟨⟨(), rfl, trivial, by rw [ht]; exact hP, hD⟩, hS.F ht⟩) hS.2.2 dX2_refuseUnlessBelow_19
    · have hf := ite_f hf c2
      cases hf
noncomputable def f_X2_push (Hb : HB) (F : FR) (p0 : Int32) (p1 : Int32) (p2 : Int32) (p3 : Int32) : Option (Int32 × FR) := obd (f_X2_foundFrameWithRod Hb F p0 p1) fun x1 => if p3 = 0 then (none) else (if p2 = 0 then (obd (f_X0_canMove (fBe F) p1 p3) fun x4 => if x4 = 0 then (none) else (obd (f_X1_keepBeads F) fun x6 => obd (f_X1_moveHand x6 p1) fun x7 => obd (f_X1_pushDeckB x7 p1 p3) fun x8 => obd (f_X1_valueAt x8 p1) fun x9 => some (x9, x8))) else (obd (f_X0_canMove (fAb F) p1 p3) fun x10 => if x10 = 0 then (none) else (obd (f_X1_keepBeads F) fun x12 => obd (f_X1_moveHand x12 p1) fun x13 => obd (f_X1_pushDeck x13 p1 p3) fun x14 => obd (f_X1_valueAt x14 p1) fun x15 => some (x15, x14))))
theorem pc_X2_push : yX2_push.cls = RX2 ∧ yX2_push.cls ≠ "java/lang/invoke/MethodHandle" ∧ yX2_push.cls ≠ "java/lang/invoke/VarHandle" ∧ (parseMethodDescriptor yX2_push.desc).map (fun d => d.parameters.length) = some 4 := by decide +kernel
abbrev rm_X2_push : Room := { frames := 4, cells := 0, slots := 0, locals := 87 }
set_option maxHeartbeats 4000000 in
set_option maxRecDepth 100000 in
theorem c_X2_push (l : Launch) (dC : Nat → ClassId) (dI : Nat → Nat → Nat) (cI cF cJ cD : ClassId) (h fa tr q0 q1 q2 q3 q4 q5 q6 q7 q8 : Nat) (rw : Nat → Option Nat) (Hb : HB) (F : FR) (p0 : Int32) (p1 : Int32) (p2 : Int32) (p3 : Int32) (hq : f_X2_frameAt rw p0 = some (some q0)) (res : (Int32 × FR)) (hf : f_X2_push Hb F p0 p1 p2 p3 = some res) (sz : Nat) : Met l yX2_push (ws_ yX2_push cX2_push 7 (some .int)) rm_X2_push (sbPre (dC, dI) (TY cI cF cJ cD) (wHB cI cF cJ h fa tr rw Hb ++ (wFR cI cF cJ q0 q1 q2 q3 q4 q5 q6 q7 q8 F)) E0 sz [.ref h, .int p0, .int p1, .int p2, .int p3]) (va_Qi (fun (r : Int32) (_ : Unit) => r = res.1) (sbEnd (dC, dI) (fun _ => wHB cI cF cJ h fa tr rw Hb ++ (wFR cI cF cJ q0 q1 q2 q3 q4 q5 q6 q7 q8 res.2)) (va_A (wHB cI cF cJ h fa tr rw Hb ++ (wFR cI cF cJ q0 q1 q2 q3 q4 q5 q6 q7 q8 F)) sz)) (va_A (wHB cI cF cJ h fa tr rw Hb ++ (wFR cI cF cJ q0 q1 q2 q3 q4 q5 q6 q7 q8 F)) sz)) 0 0 (va_A (wHB cI cF cJ h fa tr rw Hb ++ (wFR cI cF cJ q0 q1 q2 q3 q4 q5 q6 q7 q8 F)) sz) := by
  refine Met.ofW (cc := cX2_push) (maxL := 7) (ret := (some .int)) (by decide) rfl ?_
  intro p e s m args below meth c s₁ B hml hv
  obtain ⟨rfl, hsz, hP, hK, hD0, hE⟩ := hv
  have hx := B.exec
  have hb := B.bytes
  have hr := B.returns
  have hts0 := atoms_spec (ws := ws_ yX2_push cX2_push 7 (some .int)) B.pre
  have hts := fun (w : Cond) (h : w ∈ LW) => hts0 w (List.mem_cons_of_mem _ h)
  have hown : s.vm.findClass RX2 = some m.cls := findClass_of_methodNamed B.named
  have hlocks := B.notSynchronized
  subst hsz
  have hD := hD0.self (sz := s.heap.size)
  generalize hAe : va_A (wHB cI cF cJ h fa tr rw Hb ++ (wFR cI cF cJ q0 q1 q2 q3 q4 q5 q6 q7 q8 F)) s.heap.size = A at hD ⊢
  have hA : ∀ q : Nat, s.heap.size ≤ q → A q := fun q h => by rw [← hAe]; exact Or.inr h
  have hS : va_S A s.heap s.heap [] := va_S.rf
  have hkc := Nat.zero_le rm_X2_push.cells
  have hks := Nat.zero_le rm_X2_push.slots
  have hl := lv_entry ([.ref h, .int p0, .int p1, .int p2, .int p3]) (n := 7) (Nat.le_of_ble_eq_true rfl)
  rw [lg_entry_eq]
  generalize (lg_sl ([.ref h, .int p0, .int p1, .int p2, .int p3]) ++ List.replicate (7 - (lg_sl ([.ref h, .int p0, .int p1, .int p2, .int p3])).length) Slot.unset).toArray = ls at hl ⊢
  have hl : lv_has ls 7 [(0, .ref h), (1, .int p0), (2, .int p1), (3, .int p2), (4, .int p3)] := hl
  rw [f_X2_push] at hf
  refine lv_aload_n hx hb dX2_push_0 rfl (lv_at hl 0 rfl) ?_
  refine lv_iload_n hx hb dX2_push_1 rfl (lv_at hl 1 rfl) ?_
  refine lv_iload_n hx hb dX2_push_2 rfl (lv_at hl 2 rfl) ?_
  obtain ⟨x1, hx1, hf⟩ := obd_e hf
  refine sb_Vq (As := [.int p0, .int p1]) (rest := []) ⟨hx, hb, hml, hown, hts⟩ (fun sz => c_X2_foundFrameWithRod l dC dI cI cF cJ cD h fa tr q0 q1 q2 q3 q4 q5 q6 q7 q8 rw Hb F p0 p1 hq x1 hx1 sz) (cwV 2 hts (g_V q182 q183 q184 q172 q173) rfl rfl rfl pc_X2_foundFrameWithRod ⟨Nat.le_of_ble_eq_true rfl, Nat.le_of_ble_eq_true rfl⟩) 0 2 rfl rfl hK hP hD hS hA [0, 1, 2, 3, 4, 5, 6, 7, 8, 9, 10] [] rfl rfl (by decide) (by decide) (by decide) (fun _ _ _ _ h => h) (fun _ _ _ => trivial) rfl rfl hl.1 (Nat.le_of_ble_eq_true rfl) dX2_push_3 ⟨hkc, hks⟩ (fun r9 u H locs hr9 hP hD hS => ?_)
  have hr9 := Eq.symm hr9
  subst hr9
  have hP : va_P (dC, dI) vwCl (wHB cI cF cJ h fa tr rw Hb ++ (wFR cI cF cJ q0 q1 q2 q3 q4 q5 q6 q7 q8 F)) H := hP
  have hD : va_D A (wHB cI cF cJ h fa tr rw Hb ++ (wFR cI cF cJ q0 q1 q2 q3 q4 q5 q6 q7 q8 F)) := hD
  refine lv_astore (lv' := [(5, .ref q0), (0, .ref h), (1, .int p0), (2, .int p1), (3, .int p2), (4, .int p3)]) hx hb dX2_push_6 hl (by decide) rfl (fun ls hl => ?_)
  refine lv_iload hx hb dX2_push_8 (lv_at hl 5 rfl) ?_
  refine lv_if_ne (tgt := 23) hx hb dX2_push_10 (by decide) (fun c2 => ?_) (fun c2 => ?_)
  · have hf := ite_f hf c2
    refine lv_iload_n hx hb dX2_push_23 rfl (lv_at hl 4 rfl) ?_
    refine lv_if_eq (tgt := 35) hx hb dX2_push_24 (by decide) (fun c3 => ?_) (fun c3 => ?_)
    · have hf := ite_t hf c3
      refine lv_aload hx hb dX2_push_35 (lv_at hl 0 rfl) ?_
      refine va_get (D := (dC, dI)) (ci := 1) (v := .ref q5) (C := RX1) (T := TX1) (N := 13) hx hb hts iX1 hown hK hP 2 rfl rfl 3 (by decide) (hts _ q181) (fun _ h9 => h9) rfl dX2_push_37 ?_
      refine lv_astore (lv' := [(6, .ref q5), (5, .ref q0), (0, .ref h), (1, .int p0), (2, .int p1), (3, .int p2), (4, .int p3)]) hx hb dX2_push_40 hl (by decide) rfl (fun ls hl => ?_)
      refine lv_aload hx hb dX2_push_42 (lv_at hl 0 rfl) ?_
      refine lv_iload_n hx hb dX2_push_44 rfl (lv_at hl 4 rfl) ?_
      refine lv_iload hx hb dX2_push_45 (lv_at hl 6 rfl) ?_
      obtain ⟨x4, hx4, hf⟩ := obd_e hf
      refine sb_Vi (As := [.int p1, .int p3]) (rest := []) ⟨hx, hb, hml, hown, hts⟩ (fun sz => c_X0_canMove l dC dI cI cF cJ cD q5 q6 q7 q8 (fBe F) p1 p3  x4 hx4 sz) (cwV 2 hts (g_V q185 q186 q187 q15 q16) rfl rfl rfl pc_X0_canMove ⟨Nat.le_of_ble_eq_true rfl, Nat.le_of_ble_eq_true rfl⟩) 0 0 rfl rfl hK hP hD hS hA [7, 8, 9, 10] [0, 1, 2, 3, 4, 5, 6] rfl rfl (by decide) (by decide) (by decide) (fun _ _ _ _ h => h) (fun _ _ _ => trivial) rfl rfl hl.1 (Nat.le_of_ble_eq_true rfl) dX2_push_47 ⟨hkc, hks⟩ (fun r9 u H locs hr9 hP hD hS => ?_)
      have hr9 := Eq.symm hr9
      subst hr9
      have hP : va_P (dC, dI) vwCl (wHB cI cF cJ h fa tr rw Hb ++ (wFR cI cF cJ q0 q1 q2 q3 q4 q5 q6 q7 q8 F)) H := hP
      have hD : va_D A (wHB cI cF cJ h fa tr rw Hb ++ (wFR cI cF cJ q0 q1 q2 q3 q4 q5 q6 q7 q8 F)) := hD
      refine lv_if_ne (tgt := 63) hx hb dX2_push_50 (by decide) (fun c5 => ?_) (fun c5 => ?_)
      · have hf := ite_f hf c5
        refine lv_aload hx hb dX2_push_63 (lv_at hl 1 rfl) ?_
        obtain ⟨x6, hx6, hf⟩ := obd_e hf
        refine sb_Vv (As := []) (rest := []) ⟨hx, hb, hml, hown, hts⟩ (fun sz => c_X1_keepBeads l dC dI cI cF cJ cD q0 q1 q2 q3 q4 q5 q6 q7 q8 F  x6 hx6 sz) (cwV 0 hts (g_V q188 q189 q190 q56 q102) rfl rfl rfl pc_X1_keepBeads ⟨Nat.le_of_ble_eq_true rfl, Nat.le_of_ble_eq_true rfl⟩) 0 1 rfl rfl hK hP hD hS hA [2, 3, 4, 5, 6, 7, 8, 9, 10] [0, 1] rfl rfl (by decide) (by decide) (by decide) (fun _ _ _ _ h => h) (fun _ _ _ => trivial) rfl rfl hl.1 (Nat.le_of_ble_eq_true rfl) dX2_push_65 ⟨hkc, hks⟩ (fun u H locs hr9 hP hD hS => ?_)
        have hP : va_P (dC, dI) vwCl (wHB cI cF cJ h fa tr rw Hb ++ (wFR cI cF cJ q0 q1 q2 q3 q4 q5 q6 q7 q8 x6)) H := hP
        have hD : va_D A (wHB cI cF cJ h fa tr rw Hb ++ (wFR cI cF cJ q0 q1 q2 q3 q4 q5 q6 q7 q8 x6)) := hD
        refine lv_aload hx hb dX2_push_68 (lv_at hl 1 rfl) ?_
        refine lv_iload_n hx hb dX2_push_70 rfl (lv_at hl 4 rfl) ?_
        obtain ⟨x7, hx7, hf⟩ := obd_e hf
        refine sb_Vv (As := [.int p1]) (rest := []) ⟨hx, hb, hml, hown, hts⟩ (fun sz => c_X1_moveHand l dC dI cI cF cJ cD q0 q1 q2 q3 q4 q5 q6 q7 q8 x6 p1  x7 hx7 sz) (cwV 1 hts (g_V q191 q74 q75 q56 q58) rfl rfl rfl pc_X1_moveHand ⟨Nat.le_of_ble_eq_true rfl, Nat.le_of_ble_eq_true rfl⟩) 0 1 rfl rfl hK hP hD hS hA [2, 3, 4, 5, 6, 7, 8, 9, 10] [0, 1] rfl rfl (by decide) (by decide) (by decide) (fun _ _ _ _ h => h) (fun _ _ _ => trivial) rfl rfl hl.1 (Nat.le_of_ble_eq_true rfl) dX2_push_71 ⟨hkc, hks⟩ (fun u H locs hr9 hP hD hS => ?_)
        have hP : va_P (dC, dI) vwCl (wHB cI cF cJ h fa tr rw Hb ++ (wFR cI cF cJ q0 q1 q2 q3 q4 q5 q6 q7 q8 x7)) H := hP
        have hD : va_D A (wHB cI cF cJ h fa tr rw Hb ++ (wFR cI cF cJ q0 q1 q2 q3 q4 q5 q6 q7 q8 x7)) := hD
        refine lv_aload hx hb dX2_push_74 (lv_at hl 1 rfl) ?_
        refine lv_aload hx hb dX2_push_76 (lv_at hl 0 rfl) ?_
        refine lv_iload_n hx hb dX2_push_78 rfl (lv_at hl 4 rfl) ?_
        refine lv_iload hx hb dX2_push_79 (lv_at hl 6 rfl) ?_
        obtain ⟨x8, hx8, hf⟩ := obd_e hf
        refine sb_Vv (As := [.ref q5, .int p1, .int p3]) (rest := []) ⟨hx, hb, hml, hown, hts⟩ (fun sz => c_X1_pushDeckB l dC dI cI cF cJ cD q0 q1 q2 q3 q4 q5 q6 q7 q8 x7 p1 p3  x8 hx8 sz) (cwV 3 hts (g_V q192 q77 q78 q56 q64) rfl rfl rfl pc_X1_pushDeck ⟨Nat.le_of_ble_eq_true rfl, Nat.le_of_ble_eq_true rfl⟩) 0 1 rfl rfl hK hP hD hS hA [2, 3, 4, 5, 6, 7, 8, 9, 10] [0, 1] rfl rfl (by decide) (by decide) (by decide) (fun _ _ _ _ h => h) (fun _ _ _ => trivial) rfl rfl hl.1 (Nat.le_of_ble_eq_true rfl) dX2_push_81 ⟨hkc, hks⟩ (fun u H locs hr9 hP hD hS => ?_)
        have hP : va_P (dC, dI) vwCl (wHB cI cF cJ h fa tr rw Hb ++ (wFR cI cF cJ q0 q1 q2 q3 q4 q5 q6 q7 q8 x8)) H := hP
        have hD : va_D A (wHB cI cF cJ h fa tr rw Hb ++ (wFR cI cF cJ q0 q1 q2 q3 q4 q5 q6 q7 q8 x8)) := hD
        refine lv_aload hx hb dX2_push_84 (lv_at hl 1 rfl) ?_
        refine lv_iload_n hx hb dX2_push_86 rfl (lv_at hl 4 rfl) ?_
        obtain ⟨x9, hx9, hf⟩ := obd_e hf
        refine sb_Vi (As := [.int p1]) (rest := []) ⟨hx, hb, hml, hown, hts⟩ (fun sz => c_X1_valueAt l dC dI cI cF cJ cD q0 q1 q2 q3 q4 q5 q6 q7 q8 x8 p1  x9 hx9 sz) (cwV 1 hts (g_V q193 q54 q55 q56 q48) rfl rfl rfl pc_X1_valueAt ⟨Nat.le_of_ble_eq_true rfl, Nat.le_of_ble_eq_true rfl⟩) 0 1 rfl rfl hK hP hD hS hA [2, 3, 4, 5, 6, 7, 8, 9, 10] [0, 1] rfl rfl (by decide) (by decide) (by decide) (fun _ _ _ _ h => h) (fun _ _ _ => trivial) rfl rfl hl.1 (Nat.le_of_ble_eq_true rfl) dX2_push_87 ⟨hkc, hks⟩ (fun r9 u H locs hr9 hP hD hS => ?_)
        have hr9 := Eq.symm hr9
        subst hr9
        have hP : va_P (dC, dI) vwCl (wHB cI cF cJ h fa tr rw Hb ++ (wFR cI cF cJ q0 q1 q2 q3 q4 q5 q6 q7 q8 x8)) H := hP
        have hD : va_D A (wHB cI cF cJ h fa tr rw Hb ++ (wFR cI cF cJ q0 q1 q2 q3 q4 q5 q6 q7 q8 x8)) := hD
        obtain rfl := Option.some.inj hf
        exact W.iret (v := x9) hx hb hr (fun t ht hW => ⟨⟨_, (), rfl, rfl, by rw [ht]; exact hP, hD⟩, hS.F ht⟩) hS.2.2 dX2_push_90
      · have hf := ite_t hf c5
        cases hf
    · have hf := ite_f hf c3
      refine lv_aload hx hb dX2_push_27 (lv_at hl 0 rfl) ?_
      refine va_get (D := (dC, dI)) (ci := 1) (v := .ref q1) (C := RX1) (T := TX1) (N := 13) hx hb hts iX1 hown hK hP 2 rfl rfl 2 (by decide) (hts _ q180) (fun _ h9 => h9) rfl dX2_push_29 ?_
      refine lv_goto (tgt := 40) hx hb dX2_push_32 (by decide) ?_
      refine lv_astore (lv' := [(6, .ref q1), (5, .ref q0), (0, .ref h), (1, .int p0), (2, .int p1), (3, .int p2), (4, .int p3)]) hx hb dX2_push_40 hl (by decide) rfl (fun ls hl => ?_)
      refine lv_aload hx hb dX2_push_42 (lv_at hl 0 rfl) ?_
      refine lv_iload_n hx hb dX2_push_44 rfl (lv_at hl 4 rfl) ?_
      refine lv_iload hx hb dX2_push_45 (lv_at hl 6 rfl) ?_
      obtain ⟨x10, hx10, hf⟩ := obd_e hf
      refine sb_Vi (As := [.int p1, .int p3]) (rest := []) ⟨hx, hb, hml, hown, hts⟩ (fun sz => c_X0_canMove l dC dI cI cF cJ cD q1 q2 q3 q4 (fAb F) p1 p3  x10 hx10 sz) (cwV 2 hts (g_V q185 q186 q187 q15 q16) rfl rfl rfl pc_X0_canMove ⟨Nat.le_of_ble_eq_true rfl, Nat.le_of_ble_eq_true rfl⟩) 0 0 rfl rfl hK hP hD hS hA [3, 4, 5, 6] [0, 1, 2, 7, 8, 9, 10] rfl rfl (by decide) (by decide) (by decide) (fun _ _ _ _ h => h) (fun _ _ _ => trivial) rfl rfl hl.1 (Nat.le_of_ble_eq_true rfl) dX2_push_47 ⟨hkc, hks⟩ (fun r9 u H locs hr9 hP hD hS => ?_)
      have hr9 := Eq.symm hr9
      subst hr9
      have hP : va_P (dC, dI) vwCl (wHB cI cF cJ h fa tr rw Hb ++ (wFR cI cF cJ q0 q1 q2 q3 q4 q5 q6 q7 q8 F)) H := hP.sub [0, 1, 2, 7, 8, 9, 10, 3, 4, 5, 6] rfl
      have hD : va_D A (wHB cI cF cJ h fa tr rw Hb ++ (wFR cI cF cJ q0 q1 q2 q3 q4 q5 q6 q7 q8 F)) := hD.sub [0, 1, 2, 7, 8, 9, 10, 3, 4, 5, 6] (by decide) rfl
      refine lv_if_ne (tgt := 63) hx hb dX2_push_50 (by decide) (fun c11 => ?_) (fun c11 => ?_)
      · have hf := ite_f hf c11
        refine lv_aload hx hb dX2_push_63 (lv_at hl 1 rfl) ?_
        obtain ⟨x12, hx12, hf⟩ := obd_e hf
        refine sb_Vv (As := []) (rest := []) ⟨hx, hb, hml, hown, hts⟩ (fun sz => c_X1_keepBeads l dC dI cI cF cJ cD q0 q1 q2 q3 q4 q5 q6 q7 q8 F  x12 hx12 sz) (cwV 0 hts (g_V q188 q189 q190 q56 q102) rfl rfl rfl pc_X1_keepBeads ⟨Nat.le_of_ble_eq_true rfl, Nat.le_of_ble_eq_true rfl⟩) 0 1 rfl rfl hK hP hD hS hA [2, 3, 4, 5, 6, 7, 8, 9, 10] [0, 1] rfl rfl (by decide) (by decide) (by decide) (fun _ _ _ _ h => h) (fun _ _ _ => trivial) rfl rfl hl.1 (Nat.le_of_ble_eq_true rfl) dX2_push_65 ⟨hkc, hks⟩ (fun u H locs hr9 hP hD hS => ?_)
        have hP : va_P (dC, dI) vwCl (wHB cI cF cJ h fa tr rw Hb ++ (wFR cI cF cJ q0 q1 q2 q3 q4 q5 q6 q7 q8 x12)) H := hP
        have hD : va_D A (wHB cI cF cJ h fa tr rw Hb ++ (wFR cI cF cJ q0 q1 q2 q3 q4 q5 q6 q7 q8 x12)) := hD
        refine lv_aload hx hb dX2_push_68 (lv_at hl 1 rfl) ?_
        refine lv_iload_n hx hb dX2_push_70 rfl (lv_at hl 4 rfl) ?_
        obtain ⟨x13, hx13, hf⟩ := obd_e hf
        refine sb_Vv (As := [.int p1]) (rest := []) ⟨hx, hb, hml, hown, hts⟩ (fun sz => c_X1_moveHand l dC dI cI cF cJ cD q0 q1 q2 q3 q4 q5 q6 q7 q8 x12 p1  x13 hx13 sz) (cwV 1 hts (g_V q191 q74 q75 q56 q58) rfl rfl rfl pc_X1_moveHand ⟨Nat.le_of_ble_eq_true rfl, Nat.le_of_ble_eq_true rfl⟩) 0 1 rfl rfl hK hP hD hS hA [2, 3, 4, 5, 6, 7, 8, 9, 10] [0, 1] rfl rfl (by decide) (by decide) (by decide) (fun _ _ _ _ h => h) (fun _ _ _ => trivial) rfl rfl hl.1 (Nat.le_of_ble_eq_true rfl) dX2_push_71 ⟨hkc, hks⟩ (fun u H locs hr9 hP hD hS => ?_)
        have hP : va_P (dC, dI) vwCl (wHB cI cF cJ h fa tr rw Hb ++ (wFR cI cF cJ q0 q1 q2 q3 q4 q5 q6 q7 q8 x13)) H := hP
        have hD : va_D A (wHB cI cF cJ h fa tr rw Hb ++ (wFR cI cF cJ q0 q1 q2 q3 q4 q5 q6 q7 q8 x13)) := hD
        refine lv_aload hx hb dX2_push_74 (lv_at hl 1 rfl) ?_
        refine lv_aload hx hb dX2_push_76 (lv_at hl 0 rfl) ?_
        refine lv_iload_n hx hb dX2_push_78 rfl (lv_at hl 4 rfl) ?_
        refine lv_iload hx hb dX2_push_79 (lv_at hl 6 rfl) ?_
        obtain ⟨x14, hx14, hf⟩ := obd_e hf
        refine sb_Vv (As := [.ref q1, .int p1, .int p3]) (rest := []) ⟨hx, hb, hml, hown, hts⟩ (fun sz => c_X1_pushDeck l dC dI cI cF cJ cD q0 q1 q2 q3 q4 q5 q6 q7 q8 x13 p1 p3  x14 hx14 sz) (cwV 3 hts (g_V q192 q77 q78 q56 q64) rfl rfl rfl pc_X1_pushDeck ⟨Nat.le_of_ble_eq_true rfl, Nat.le_of_ble_eq_true rfl⟩) 0 1 rfl rfl hK hP hD hS hA [2, 3, 4, 5, 6, 7, 8, 9, 10] [0, 1] rfl rfl (by decide) (by decide) (by decide) (fun _ _ _ _ h => h) (fun _ _ _ => trivial) rfl rfl hl.1 (Nat.le_of_ble_eq_true rfl) dX2_push_81 ⟨hkc, hks⟩ (fun u H locs hr9 hP hD hS => ?_)
        have hP : va_P (dC, dI) vwCl (wHB cI cF cJ h fa tr rw Hb ++ (wFR cI cF cJ q0 q1 q2 q3 q4 q5 q6 q7 q8 x14)) H := hP
        have hD : va_D A (wHB cI cF cJ h fa tr rw Hb ++ (wFR cI cF cJ q0 q1 q2 q3 q4 q5 q6 q7 q8 x14)) := hD
        refine lv_aload hx hb dX2_push_84 (lv_at hl 1 rfl) ?_
        refine lv_iload_n hx hb dX2_push_86 rfl (lv_at hl 4 rfl) ?_
        obtain ⟨x15, hx15, hf⟩ := obd_e hf
        refine sb_Vi (As := [.int p1]) (rest := []) ⟨hx, hb, hml, hown, hts⟩ (fun sz => c_X1_valueAt l dC dI cI cF cJ cD q0 q1 q2 q3 q4 q5 q6 q7 q8 x14 p1  x15 hx15 sz) (cwV 1 hts (g_V q193 q54 q55 q56 q48) rfl rfl rfl pc_X1_valueAt ⟨Nat.le_of_ble_eq_true rfl, Nat.le_of_ble_eq_true rfl⟩) 0 1 rfl rfl hK hP hD hS hA [2, 3, 4, 5, 6, 7, 8, 9, 10] [0, 1] rfl rfl (by decide) (by decide) (by decide) (fun _ _ _ _ h => h) (fun _ _ _ => trivial) rfl rfl hl.1 (Nat.le_of_ble_eq_true rfl) dX2_push_87 ⟨hkc, hks⟩ (fun r9 u H locs hr9 hP hD hS => ?_)
        have hr9 := Eq.symm hr9
        subst hr9
        have hP : va_P (dC, dI) vwCl (wHB cI cF cJ h fa tr rw Hb ++ (wFR cI cF cJ q0 q1 q2 q3 q4 q5 q6 q7 q8 x14)) H := hP
        have hD : va_D A (wHB cI cF cJ h fa tr rw Hb ++ (wFR cI cF cJ q0 q1 q2 q3 q4 q5 q6 q7 q8 x14)) := hD
        obtain rfl := Option.some.inj hf
        exact W.iret (v := x15) hx hb hr (fun t ht hW => ⟨⟨_, (), rfl, rfl, by rw [ht]; exact hP, hD⟩, hS.F ht⟩) hS.2.2 dX2_push_90
      · have hf := ite_t hf c11
        cases hf
  · have hf := ite_t hf c2
    cases hf
noncomputable def f_X2_set (Hb : HB) (F : FR) (p0 : Int32) (p1 : Int32) (p2 : Int32) : Option (Int32 × FR) := obd (f_X2_foundFrameWithRod Hb F p0 p1) fun x1 => if p2 < 0 then (none) else (obd (f_X1_mostOfRod F) fun x3 => if p2 ≤ x3 then (obd (f_X1_keepBeads F) fun x5 => obd (f_X1_setRod x5 p1 p2) fun x6 => bnd ((fPu x6) - (fPu F)) fun (v7 : Int32) => some (v7, x6)) else (none))
theorem pc_X2_set : yX2_set.cls = RX2 ∧ yX2_set.cls ≠ "java/lang/invoke/MethodHandle" ∧ yX2_set.cls ≠ "java/lang/invoke/VarHandle" ∧ (parseMethodDescriptor yX2_set.desc).map (fun d => d.parameters.length) = some 3 := by decide +kernel
abbrev rm_X2_set : Room := { frames := 4, cells := 0, slots := 0, locals := 87 }
set_option maxHeartbeats 4000000 in
set_option maxRecDepth 100000 in
theorem c_X2_set (l : Launch) (dC : Nat → ClassId) (dI : Nat → Nat → Nat) (cI cF cJ cD : ClassId) (h fa tr q0 q1 q2 q3 q4 q5 q6 q7 q8 : Nat) (rw : Nat → Option Nat) (Hb : HB) (F : FR) (p0 : Int32) (p1 : Int32) (p2 : Int32) (hq : f_X2_frameAt rw p0 = some (some q0)) (res : (Int32 × FR)) (hf : f_X2_set Hb F p0 p1 p2 = some res) (sz : Nat) : Met l yX2_set (ws_ yX2_set cX2_set 6 (some .int)) rm_X2_set (sbPre (dC, dI) (TY cI cF cJ cD) (wHB cI cF cJ h fa tr rw Hb ++ (wFR cI cF cJ q0 q1 q2 q3 q4 q5 q6 q7 q8 F)) E0 sz [.ref h, .int p0, .int p1, .int p2]) (va_Qi (fun (r : Int32) (_ : Unit) => r = res.1) (sbEnd (dC, dI) (fun _ => wHB cI cF cJ h fa tr rw Hb ++ (wFR cI cF cJ q0 q1 q2 q3 q4 q5 q6 q7 q8 res.2)) (va_A (wHB cI cF cJ h fa tr rw Hb ++ (wFR cI cF cJ q0 q1 q2 q3 q4 q5 q6 q7 q8 F)) sz)) (va_A (wHB cI cF cJ h fa tr rw Hb ++ (wFR cI cF cJ q0 q1 q2 q3 q4 q5 q6 q7 q8 F)) sz)) 0 0 (va_A (wHB cI cF cJ h fa tr rw Hb ++ (wFR cI cF cJ q0 q1 q2 q3 q4 q5 q6 q7 q8 F)) sz) := by
  refine Met.ofW (cc := cX2_set) (maxL := 6) (ret := (some .int)) (by decide) rfl ?_
  intro p e s m args below meth c s₁ B hml hv
  obtain ⟨rfl, hsz, hP, hK, hD0, hE⟩ := hv
  have hx := B.exec
  have hb := B.bytes
  have hr := B.returns
  have hts0 := atoms_spec (ws := ws_ yX2_set cX2_set 6 (some .int)) B.pre
  have hts := fun (w : Cond) (h : w ∈ LW) => hts0 w (List.mem_cons_of_mem _ h)
  have hown : s.vm.findClass RX2 = some m.cls := findClass_of_methodNamed B.named
  have hlocks := B.notSynchronized
  subst hsz
  have hD := hD0.self (sz := s.heap.size)
  generalize hAe : va_A (wHB cI cF cJ h fa tr rw Hb ++ (wFR cI cF cJ q0 q1 q2 q3 q4 q5 q6 q7 q8 F)) s.heap.size = A at hD ⊢
  have hA : ∀ q : Nat, s.heap.size ≤ q → A q := fun q h => by rw [← hAe]; exact Or.inr h
  have hS : va_S A s.heap s.heap [] := va_S.rf
  have hkc := Nat.zero_le rm_X2_set.cells
  have hks := Nat.zero_le rm_X2_set.slots
  have hl := lv_entry ([.ref h, .int p0, .int p1, .int p2]) (n := 6) (Nat.le_of_ble_eq_true rfl)
  rw [lg_entry_eq]
  generalize (lg_sl ([.ref h, .int p0, .int p1, .int p2]) ++ List.replicate (6 - (lg_sl ([.ref h, .int p0, .int p1, .int p2])).length) Slot.unset).toArray = ls at hl ⊢
  have hl : lv_has ls 6 [(0, .ref h), (1, .int p0), (2, .int p1), (3, .int p2)] := hl
  rw [f_X2_set] at hf
  refine lv_aload_n hx hb dX2_set_0 rfl (lv_at hl 0 rfl) ?_
  refine lv_iload_n hx hb dX2_set_1 rfl (lv_at hl 1 rfl) ?_
  refine lv_iload_n hx hb dX2_set_2 rfl (lv_at hl 2 rfl) ?_
  obtain ⟨x1, hx1, hf⟩ := obd_e hf
  refine sb_Vq (As := [.int p0, .int p1]) (rest := []) ⟨hx, hb, hml, hown, hts⟩ (fun sz => c_X2_foundFrameWithRod l dC dI cI cF cJ cD h fa tr q0 q1 q2 q3 q4 q5 q6 q7 q8 rw Hb F p0 p1 hq x1 hx1 sz) (cwV 2 hts (g_V q182 q183 q184 q172 q173) rfl rfl rfl pc_X2_foundFrameWithRod ⟨Nat.le_of_ble_eq_true rfl, Nat.le_of_ble_eq_true rfl⟩) 0 2 rfl rfl hK hP hD hS hA [0, 1, 2, 3, 4, 5, 6, 7, 8, 9, 10] [] rfl rfl (by decide) (by decide) (by decide) (fun _ _ _ _ h => h) (fun _ _ _ => trivial) rfl rfl hl.1 (Nat.le_of_ble_eq_true rfl) dX2_set_3 ⟨hkc, hks⟩ (fun r9 u H locs hr9 hP hD hS => ?_)
  have hr9 := Eq.symm hr9
  subst hr9
  have hP : va_P (dC, dI) vwCl (wHB cI cF cJ h fa tr rw Hb ++ (wFR cI cF cJ q0 q1 q2 q3 q4 q5 q6 q7 q8 F)) H := hP
  have hD : va_D A (wHB cI cF cJ h fa tr rw Hb ++ (wFR cI cF cJ q0 q1 q2 q3 q4 q5 q6 q7 q8 F)) := hD
  refine lv_astore (lv' := [(4, .ref q0), (0, .ref h), (1, .int p0), (2, .int p1), (3, .int p2)]) hx hb dX2_set_6 hl (by decide) rfl (fun ls hl => ?_)
  refine lv_iload_n hx hb dX2_set_8 rfl (lv_at hl 4 rfl) ?_
  refine lv_if_lt (tgt := 21) hx hb dX2_set_9 (by decide) (fun c2 => ?_) (fun c2 => ?_)
  · have hf := ite_t hf c2
    cases hf
  · have hf := ite_f hf c2
    refine lv_iload_n hx hb dX2_set_12 rfl (lv_at hl 4 rfl) ?_
    refine lv_aload hx hb dX2_set_13 (lv_at hl 0 rfl) ?_
    obtain ⟨x3, hx3, hf⟩ := obd_e hf
    refine sb_Vi (As := []) (rest := [.int p2]) ⟨hx, hb, hml, hown, hts⟩ (fun sz => c_X1_mostOfRod l dC dI cI cF cJ cD q0 q1 q2 q3 q4 q5 q6 q7 q8 F  x3 hx3 sz) (cwV 0 hts (g_V q196 q197 q198 q56 q50) rfl rfl rfl pc_X1_mostOfRod ⟨Nat.le_of_ble_eq_true rfl, Nat.le_of_ble_eq_true rfl⟩) 0 1 rfl rfl hK hP hD hS hA [2, 3, 4, 5, 6, 7, 8, 9, 10] [0, 1] rfl rfl (by decide) (by decide) (by decide) (fun _ _ _ _ h => h) (fun _ _ _ => trivial) rfl rfl hl.1 (Nat.le_of_ble_eq_true rfl) dX2_set_15 ⟨hkc, hks⟩ (fun r9 u H locs hr9 hP hD hS => ?_)
    have hr9 := Eq.symm hr9
    subst hr9
    have hP : va_P (dC, dI) vwCl (wHB cI cF cJ h fa tr rw Hb ++ (wFR cI cF cJ q0 q1 q2 q3 q4 q5 q6 q7 q8 F)) H := hP
    have hD : va_D A (wHB cI cF cJ h fa tr rw Hb ++ (wFR cI cF cJ q0 q1 q2 q3 q4 q5 q6 q7 q8 F)) := hD
    refine lv_icmp_le (tgt := 31) hx hb dX2_set_18 (by decide) (fun c4 => ?_) (fun c4 => ?_)
    · have hf := ite_t hf c4
      refine lv_aload hx hb dX2_set_31 (lv_at hl 0 rfl) ?_
      refine va_get (D := (dC, dI)) (ci := 1) (v := .int (fPu F)) (C := RX1) (T := TX1) (N := 13) hx hb hts iX1 hown hK hP 2 rfl rfl 6 (by decide) (hts _ q195) (fun _ h9 => h9) rfl dX2_set_33 ?_
      refine lv_istore (lv' := [(5, .int (fPu F)), (4, .ref q0), (0, .ref h), (1, .int p0), (2, .int p1), (3, .int p2)]) hx hb dX2_set_36 hl (by decide) rfl (fun ls hl => ?_)
      refine lv_aload hx hb dX2_set_38 (lv_at hl 1 rfl) ?_
      obtain ⟨x5, hx5, hf⟩ := obd_e hf
      refine sb_Vv (As := []) (rest := []) ⟨hx, hb, hml, hown, hts⟩ (fun sz => c_X1_keepBeads l dC dI cI cF cJ cD q0 q1 q2 q3 q4 q5 q6 q7 q8 F  x5 hx5 sz) (cwV 0 hts (g_V q188 q189 q190 q56 q102) rfl rfl rfl pc_X1_keepBeads ⟨Nat.le_of_ble_eq_true rfl, Nat.le_of_ble_eq_true rfl⟩) 0 1 rfl rfl hK hP hD hS hA [2, 3, 4, 5, 6, 7, 8, 9, 10] [0, 1] rfl rfl (by decide) (by decide) (by decide) (fun _ _ _ _ h => h) (fun _ _ _ => trivial) rfl rfl hl.1 (Nat.le_of_ble_eq_true rfl) dX2_set_40 ⟨hkc, hks⟩ (fun u H locs hr9 hP hD hS => ?_)
      have hP : va_P (dC, dI) vwCl (wHB cI cF cJ h fa tr rw Hb ++ (wFR cI cF cJ q0 q1 q2 q3 q4 q5 q6 q7 q8 x5)) H := hP
      have hD : va_D A (wHB cI cF cJ h fa tr rw Hb ++ (wFR cI cF cJ q0 q1 q2 q3 q4 q5 q6 q7 q8 x5)) := hD
      refine lv_aload hx hb dX2_set_43 (lv_at hl 1 rfl) ?_
      refine lv_iload_n hx hb dX2_set_45 rfl (lv_at hl 4 rfl) ?_
      refine lv_iload_n hx hb dX2_set_46 rfl (lv_at hl 5 rfl) ?_
      obtain ⟨x6, hx6, hf⟩ := obd_e hf
      refine sb_Vv (As := [.int p1, .int p2]) (rest := []) ⟨hx, hb, hml, hown, hts⟩ (fun sz => c_X1_setRod l dC dI cI cF cJ cD q0 q1 q2 q3 q4 q5 q6 q7 q8 x5 p1 p2  x6 hx6 sz) (cwV 2 hts (g_V q199 q84 q85 q56 q79) rfl rfl rfl pc_X1_setRod ⟨Nat.le_of_ble_eq_true rfl, Nat.le_of_ble_eq_true rfl⟩) 0 1 rfl rfl hK hP hD hS hA [2, 3, 4, 5, 6, 7, 8, 9, 10] [0, 1] rfl rfl (by decide) (by decide) (by decide) (fun _ _ _ _ h => h) (fun _ _ _ => trivial) rfl rfl hl.1 (Nat.le_of_ble_eq_true rfl) dX2_set_47 ⟨hkc, hks⟩ (fun u H locs hr9 hP hD hS => ?_)
      have hP : va_P (dC, dI) vwCl (wHB cI cF cJ h fa tr rw Hb ++ (wFR cI cF cJ q0 q1 q2 q3 q4 q5 q6 q7 q8 x6)) H := hP
      have hD : va_D A (wHB cI cF cJ h fa tr rw Hb ++ (wFR cI cF cJ q0 q1 q2 q3 q4 q5 q6 q7 q8 x6)) := hD
      refine lv_aload hx hb dX2_set_50 (lv_at hl 1 rfl) ?_
      refine va_get (D := (dC, dI)) (ci := 1) (v := .int (fPu x6)) (C := RX1) (T := TX1) (N := 13) hx hb hts iX1 hown hK hP 2 rfl rfl 6 (by decide) (hts _ q195) (fun _ h9 => h9) rfl dX2_set_52 ?_
      refine lv_iload hx hb dX2_set_55 (lv_at hl 0 rfl) ?_
      refine lv_isub hx hb dX2_set_57 ?_
      refine lv_topi (fun v7 ev7 => ?_)
      have hf := bnd_all hf v7 ev7
      obtain rfl := Option.some.inj hf
      exact W.iret (v := v7) hx hb hr (fun t ht hW => ⟨⟨_, (), rfl, rfl, by rw [ht]; exact hP, hD⟩, hS.F ht⟩) hS.2.2 dX2_set_58
    · have hf := ite_f hf c4
      cases hf
noncomputable def f_X2_add (Hb : HB) (F : FR) (p0 : Int32) (p1 : Int32) : Option (Int32 × FR) := obd (f_X2_foundFrame Hb p0) fun x1 => obd (f_X2_refuseUnlessFits F p1) fun x2 => obd (f_X1_keepBeads F) fun x3 => bnd (p1.toInt64) fun (v4 : Int64) => obd (f_X1_bringNumber x3 v4) fun x5 => bnd ((fPu x5) - (fPu F)) fun (v6 : Int32) => some (v6, x5)
theorem pc_X2_add : yX2_add.cls = RX2 ∧ yX2_add.cls ≠ "java/lang/invoke/MethodHandle" ∧ yX2_add.cls ≠ "java/lang/invoke/VarHandle" ∧ (parseMethodDescriptor yX2_add.desc).map (fun d => d.parameters.length) = some 2 := by decide +kernel
abbrev rm_X2_add : Room := { frames := 5, cells := 0, slots := 0, locals := 128 }
set_option maxHeartbeats 4000000 in
set_option maxRecDepth 100000 in
theorem c_X2_add (l : Launch) (dC : Nat → ClassId) (dI : Nat → Nat → Nat) (cI cF cJ cD : ClassId) (h fa tr q0 q1 q2 q3 q4 q5 q6 q7 q8 : Nat) (rw : Nat → Option Nat) (Hb : HB) (F : FR) (p0 : Int32) (p1 : Int32) (hq : f_X2_frameAt rw p0 = some (some q0)) (res : (Int32 × FR)) (hf : f_X2_add Hb F p0 p1 = some res) (sz : Nat) : Met l yX2_add (ws_ yX2_add cX2_add 5 (some .int)) rm_X2_add (sbPre (dC, dI) (TY cI cF cJ cD) (wHB cI cF cJ h fa tr rw Hb ++ (wFR cI cF cJ q0 q1 q2 q3 q4 q5 q6 q7 q8 F)) E0 sz [.ref h, .int p0, .int p1]) (va_Qi (fun (r : Int32) (_ : Unit) => r = res.1) (sbEnd (dC, dI) (fun _ => wHB cI cF cJ h fa tr rw Hb ++ (wFR cI cF cJ q0 q1 q2 q3 q4 q5 q6 q7 q8 res.2)) (va_A (wHB cI cF cJ h fa tr rw Hb ++ (wFR cI cF cJ q0 q1 q2 q3 q4 q5 q6 q7 q8 F)) sz)) (va_A (wHB cI cF cJ h fa tr rw Hb ++ (wFR cI cF cJ q0 q1 q2 q3 q4 q5 q6 q7 q8 F)) sz)) 0 0 (va_A (wHB cI cF cJ h fa tr rw Hb ++ (wFR cI cF cJ q0 q1 q2 q3 q4 q5 q6 q7 q8 F)) sz) := by
  refine Met.ofW (cc := cX2_add) (maxL := 5) (ret := (some .int)) (by decide) rfl ?_
  intro p e s m args below meth c s₁ B hml hv
  obtain ⟨rfl, hsz, hP, hK, hD0, hE⟩ := hv
  have hx := B.exec
  have hb := B.bytes
  have hr := B.returns
  have hts0 := atoms_spec (ws := ws_ yX2_add cX2_add 5 (some .int)) B.pre
  have hts := fun (w : Cond) (h : w ∈ LW) => hts0 w (List.mem_cons_of_mem _ h)
  have hown : s.vm.findClass RX2 = some m.cls := findClass_of_methodNamed B.named
  have hlocks := B.notSynchronized
  subst hsz
  have hD := hD0.self (sz := s.heap.size)
  generalize hAe : va_A (wHB cI cF cJ h fa tr rw Hb ++ (wFR cI cF cJ q0 q1 q2 q3 q4 q5 q6 q7 q8 F)) s.heap.size = A at hD ⊢
  have hA : ∀ q : Nat, s.heap.size ≤ q → A q := fun q h => by rw [← hAe]; exact Or.inr h
  have hS : va_S A s.heap s.heap [] := va_S.rf
  have hkc := Nat.zero_le rm_X2_add.cells
  have hks := Nat.zero_le rm_X2_add.slots
  have hl := lv_entry ([.ref h, .int p0, .int p1]) (n := 5) (Nat.le_of_ble_eq_true rfl)
  rw [lg_entry_eq]
  generalize (lg_sl ([.ref h, .int p0, .int p1]) ++ List.replicate (5 - (lg_sl ([.ref h, .int p0, .int p1])).length) Slot.unset).toArray = ls at hl ⊢
  have hl : lv_has ls 5 [(0, .ref h), (1, .int p0), (2, .int p1)] := hl
  rw [f_X2_add] at hf
  refine lv_aload_n hx hb dX2_add_0 rfl (lv_at hl 0 rfl) ?_
  refine lv_iload_n hx hb dX2_add_1 rfl (lv_at hl 1 rfl) ?_
  obtain ⟨x1, hx1, hf⟩ := obd_e hf
  refine sb_Vq (As := [.int p0]) (rest := []) ⟨hx, hb, hml, hown, hts⟩ (fun sz => c_X2_foundFrame l dC dI cI cF cJ cD h fa tr q0 rw Hb p0 hq x1 hx1 sz) (cwV 1 hts (g_V q174 q175 q176 q172 q166) rfl rfl rfl pc_X2_foundFrame ⟨Nat.le_of_ble_eq_true rfl, Nat.le_of_ble_eq_true rfl⟩) 0 2 rfl rfl hK hP hD hS hA [0, 1] [2, 3, 4, 5, 6, 7, 8, 9, 10] rfl rfl (by decide) (by decide) (by decide) (fun _ _ _ _ h => h) (fun _ _ _ => trivial) rfl rfl hl.1 (Nat.le_of_ble_eq_true rfl) dX2_add_2 ⟨hkc, hks⟩ (fun r9 u H locs hr9 hP hD hS => ?_)
  have hr9 := Eq.symm hr9
  subst hr9
  have hP : va_P (dC, dI) vwCl (wHB cI cF cJ h fa tr rw Hb ++ (wFR cI cF cJ q0 q1 q2 q3 q4 q5 q6 q7 q8 F)) H := hP.sub [9, 10, 0, 1, 2, 3, 4, 5, 6, 7, 8] rfl
  have hD : va_D A (wHB cI cF cJ h fa tr rw Hb ++ (wFR cI cF cJ q0 q1 q2 q3 q4 q5 q6 q7 q8 F)) := hD.sub [9, 10, 0, 1, 2, 3, 4, 5, 6, 7, 8] (by decide) rfl
  refine lv_astore_n (lv' := [(3, .ref q0), (0, .ref h), (1, .int p0), (2, .int p1)]) hx hb dX2_add_5 rfl hl (by decide) rfl (fun ls hl => ?_)
  refine lv_aload_n hx hb dX2_add_6 rfl (lv_at hl 0 rfl) ?_
  refine lv_iload_n hx hb dX2_add_7 rfl (lv_at hl 3 rfl) ?_
  obtain ⟨x2, hx2, hf⟩ := obd_e hf
  refine sb_Sv (As := [.ref q0, .int p1]) (rest := []) ⟨hx, hb, hml, hown, hts⟩ (fun sz => c_X2_refuseUnlessFits l dC dI cI cF cJ cD q0 q1 q2 q3 q4 q5 q6 q7 q8 F p1  x2 hx2 sz) (va_cwS 2 hts (g_S q205 q206 q172 q201) rfl rfl rfl ps_X2_refuseUnlessFits ⟨Nat.le_of_ble_eq_true rfl, Nat.le_of_ble_eq_true rfl⟩)  hK hP hD hS hA [2, 3, 4, 5, 6, 7, 8, 9, 10] [0, 1] rfl rfl (by decide) (by decide) (by decide) (fun _ _ _ _ h => h) (fun _ _ _ => trivial) rfl rfl hl.1 (Nat.le_of_ble_eq_true rfl) dX2_add_8 ⟨hkc, hks⟩ (fun u H locs hr9 hP hD hS => ?_)
  have hP : va_P (dC, dI) vwCl (wHB cI cF cJ h fa tr rw Hb ++ (wFR cI cF cJ q0 q1 q2 q3 q4 q5 q6 q7 q8 F)) H := hP
  have hD : va_D A (wHB cI cF cJ h fa tr rw Hb ++ (wFR cI cF cJ q0 q1 q2 q3 q4 q5 q6 q7 q8 F)) := hD
  refine lv_aload_n hx hb dX2_add_11 rfl (lv_at hl 0 rfl) ?_
  refine va_get (D := (dC, dI)) (ci := 1) (v := .int (fPu F)) (C := RX1) (T := TX1) (N := 13) hx hb hts iX1 hown hK hP 2 rfl rfl 6 (by decide) (hts _ q195) (fun _ h9 => h9) rfl dX2_add_12 ?_
  refine lv_istore (lv' := [(4, .int (fPu F)), (3, .ref q0), (0, .ref h), (1, .int p0), (2, .int p1)]) hx hb dX2_add_15 hl (by decide) rfl (fun ls hl => ?_)
  refine lv_aload_n hx hb dX2_add_17 rfl (lv_at hl 1 rfl) ?_
  obtain ⟨x3, hx3, hf⟩ := obd_e hf
  refine sb_Vv (As := []) (rest := []) ⟨hx, hb, hml, hown, hts⟩ (fun sz => c_X1_keepBeads l dC dI cI cF cJ cD q0 q1 q2 q3 q4 q5 q6 q7 q8 F  x3 hx3 sz) (cwV 0 hts (g_V q188 q189 q190 q56 q102) rfl rfl rfl pc_X1_keepBeads ⟨Nat.le_of_ble_eq_true rfl, Nat.le_of_ble_eq_true rfl⟩) 0 1 rfl rfl hK hP hD hS hA [2, 3, 4, 5, 6, 7, 8, 9, 10] [0, 1] rfl rfl (by decide) (by decide) (by decide) (fun _ _ _ _ h => h) (fun _ _ _ => trivial) rfl rfl hl.1 (Nat.le_of_ble_eq_true rfl) dX2_add_18 ⟨hkc, hks⟩ (fun u H locs hr9 hP hD hS => ?_)
  have hP : va_P (dC, dI) vwCl (wHB cI cF cJ h fa tr rw Hb ++ (wFR cI cF cJ q0 q1 q2 q3 q4 q5 q6 q7 q8 x3)) H := hP
  have hD : va_D A (wHB cI cF cJ h fa tr rw Hb ++ (wFR cI cF cJ q0 q1 q2 q3 q4 q5 q6 q7 q8 x3)) := hD
  refine lv_aload_n hx hb dX2_add_21 rfl (lv_at hl 1 rfl) ?_
  refine lv_iload_n hx hb dX2_add_22 rfl (lv_at hl 4 rfl) ?_
  refine lv_i2l hx hb dX2_add_23 rfl ?_
  refine lv_topl (fun v4 ev4 => ?_)
  have hf := bnd_all hf v4 ev4
  obtain ⟨x5, hx5, hf⟩ := obd_e hf
  refine sb_Vv (As := [.long v4]) (rest := []) ⟨hx, hb, hml, hown, hts⟩ (fun sz => c_X1_bringNumber l dC dI cI cF cJ cD q0 q1 q2 q3 q4 q5 q6 q7 q8 x3 v4  x5 hx5 sz) (cwV 1 hts (g_V q207 q208 q209 q56 q91) rfl rfl rfl pc_X1_bringNumber ⟨Nat.le_of_ble_eq_true rfl, Nat.le_of_ble_eq_true rfl⟩) 0 1 rfl rfl hK hP hD hS hA [2, 3, 4, 5, 6, 7, 8, 9, 10] [0, 1] rfl rfl (by decide) (by decide) (by decide) (fun _ _ _ _ h => h) (fun _ _ _ => trivial) rfl rfl hl.1 (Nat.le_of_ble_eq_true rfl) dX2_add_24 ⟨hkc, hks⟩ (fun u H locs hr9 hP hD hS => ?_)
  have hP : va_P (dC, dI) vwCl (wHB cI cF cJ h fa tr rw Hb ++ (wFR cI cF cJ q0 q1 q2 q3 q4 q5 q6 q7 q8 x5)) H := hP
  have hD : va_D A (wHB cI cF cJ h fa tr rw Hb ++ (wFR cI cF cJ q0 q1 q2 q3 q4 q5 q6 q7 q8 x5)) := hD
  refine lv_aload_n hx hb dX2_add_27 rfl (lv_at hl 1 rfl) ?_
  refine va_get (D := (dC, dI)) (ci := 1) (v := .int (fPu x5)) (C := RX1) (T := TX1) (N := 13) hx hb hts iX1 hown hK hP 2 rfl rfl 6 (by decide) (hts _ q195) (fun _ h9 => h9) rfl dX2_add_28 ?_
  refine lv_iload hx hb dX2_add_31 (lv_at hl 0 rfl) ?_
  refine lv_isub hx hb dX2_add_33 ?_
  refine lv_topi (fun v6 ev6 => ?_)
  have hf := bnd_all hf v6 ev6
  obtain rfl := Option.some.inj hf
  exact W.iret (v := v6) hx hb hr (fun t ht hW => ⟨⟨_, (), rfl, rfl, by rw [ht]; exact hP, hD⟩, hS.F ht⟩) hS.2.2 dX2_add_34
noncomputable def f_X2_off (Hb : HB) (F : FR) (p0 : Int32) (p1 : Int32) : Option (Int32 × FR) := obd (f_X2_foundFrame Hb p0) fun x1 => obd (f_X2_refuseUnlessFits F p1) fun x2 => obd (f_X1_isTidy F) fun x3 => if x3 = 0 then (some ((-2), F)) else (bnd (p1.toInt64) fun (v5 : Int64) => obd (f_X1_shownNumber F) fun x6 => bnd (lg_cmp v5 x6) fun (v7 : Int32) => if v7 ≤ 0 then (obd (f_X1_keepBeads F) fun x9 => bnd (p1.toInt64) fun (v10 : Int64) => obd (f_X1_takeNumber x9 v10) fun x11 => bnd ((fPu x11) - (fPu F)) fun (v12 : Int32) => some (v12, x11)) else (some ((-2), F)))
theorem pc_X2_off : yX2_off.cls = RX2 ∧ yX2_off.cls ≠ "java/lang/invoke/MethodHandle" ∧ yX2_off.cls ≠ "java/lang/invoke/VarHandle" ∧ (parseMethodDescriptor yX2_off.desc).map (fun d => d.parameters.length) = some 2 := by decide +kernel
abbrev rm_X2_off : Room := { frames := 5, cells := 0, slots := 0, locals := 128 }
set_option maxHeartbeats 4000000 in
set_option maxRecDepth 100000 in
theorem c_X2_off (l : Launch) (dC : Nat → ClassId) (dI : Nat → Nat → Nat) (cI cF cJ cD : ClassId) (h fa tr q0 q1 q2 q3 q4 q5 q6 q7 q8 : Nat) (rw : Nat → Option Nat) (Hb : HB) (F : FR) (p0 : Int32) (p1 : Int32) (hq : f_X2_frameAt rw p0 = some (some q0)) (res : (Int32 × FR)) (hf : f_X2_off Hb F p0 p1 = some res) (sz : Nat) : Met l yX2_off (ws_ yX2_off cX2_off 5 (some .int)) rm_X2_off (sbPre (dC, dI) (TY cI cF cJ cD) (wHB cI cF cJ h fa tr rw Hb ++ (wFR cI cF cJ q0 q1 q2 q3 q4 q5 q6 q7 q8 F)) E0 sz [.ref h, .int p0, .int p1]) (va_Qi (fun (r : Int32) (_ : Unit) => r = res.1) (sbEnd (dC, dI) (fun _ => wHB cI cF cJ h fa tr rw Hb ++ (wFR cI cF cJ q0 q1 q2 q3 q4 q5 q6 q7 q8 res.2)) (va_A (wHB cI cF cJ h fa tr rw Hb ++ (wFR cI cF cJ q0 q1 q2 q3 q4 q5 q6 q7 q8 F)) sz)) (va_A (wHB cI cF cJ h fa tr rw Hb ++ (wFR cI cF cJ q0 q1 q2 q3 q4 q5 q6 q7 q8 F)) sz)) 0 0 (va_A (wHB cI cF cJ h fa tr rw Hb ++ (wFR cI cF cJ q0 q1 q2 q3 q4 q5 q6 q7 q8 F)) sz) := by
  refine Met.ofW (cc := cX2_off) (maxL := 5) (ret := (some .int)) (by decide) rfl ?_
  intro p e s m args below meth c s₁ B hml hv
  obtain ⟨rfl, hsz, hP, hK, hD0, hE⟩ := hv
  have hx := B.exec
  have hb := B.bytes
  have hr := B.returns
  have hts0 := atoms_spec (ws := ws_ yX2_off cX2_off 5 (some .int)) B.pre
  have hts := fun (w : Cond) (h : w ∈ LW) => hts0 w (List.mem_cons_of_mem _ h)
  have hown : s.vm.findClass RX2 = some m.cls := findClass_of_methodNamed B.named
  have hlocks := B.notSynchronized
  subst hsz
  have hD := hD0.self (sz := s.heap.size)
  generalize hAe : va_A (wHB cI cF cJ h fa tr rw Hb ++ (wFR cI cF cJ q0 q1 q2 q3 q4 q5 q6 q7 q8 F)) s.heap.size = A at hD ⊢
  have hA : ∀ q : Nat, s.heap.size ≤ q → A q := fun q h => by rw [← hAe]; exact Or.inr h
  have hS : va_S A s.heap s.heap [] := va_S.rf
  have hkc := Nat.zero_le rm_X2_off.cells
  have hks := Nat.zero_le rm_X2_off.slots
  have hl := lv_entry ([.ref h, .int p0, .int p1]) (n := 5) (Nat.le_of_ble_eq_true rfl)
  rw [lg_entry_eq]
  generalize (lg_sl ([.ref h, .int p0, .int p1]) ++ List.replicate (5 - (lg_sl ([.ref h, .int p0, .int p1])).length) Slot.unset).toArray = ls at hl ⊢
  have hl : lv_has ls 5 [(0, .ref h), (1, .int p0), (2, .int p1)] := hl
  rw [f_X2_off] at hf
  refine lv_aload_n hx hb dX2_off_0 rfl (lv_at hl 0 rfl) ?_
  refine lv_iload_n hx hb dX2_off_1 rfl (lv_at hl 1 rfl) ?_
  obtain ⟨x1, hx1, hf⟩ := obd_e hf
  refine sb_Vq (As := [.int p0]) (rest := []) ⟨hx, hb, hml, hown, hts⟩ (fun sz => c_X2_foundFrame l dC dI cI cF cJ cD h fa tr q0 rw Hb p0 hq x1 hx1 sz) (cwV 1 hts (g_V q174 q175 q176 q172 q166) rfl rfl rfl pc_X2_foundFrame ⟨Nat.le_of_ble_eq_true rfl, Nat.le_of_ble_eq_true rfl⟩) 0 2 rfl rfl hK hP hD hS hA [0, 1] [2, 3, 4, 5, 6, 7, 8, 9, 10] rfl rfl (by decide) (by decide) (by decide) (fun _ _ _ _ h => h) (fun _ _ _ => trivial) rfl rfl hl.1 (Nat.le_of_ble_eq_true rfl) dX2_off_2 ⟨hkc, hks⟩ (fun r9 u H locs hr9 hP hD hS => ?_)
  have hr9 := Eq.symm hr9
  subst hr9
  have hP : va_P (dC, dI) vwCl (wHB cI cF cJ h fa tr rw Hb ++ (wFR cI cF cJ q0 q1 q2 q3 q4 q5 q6 q7 q8 F)) H := hP.sub [9, 10, 0, 1, 2, 3, 4, 5, 6, 7, 8] rfl
  have hD : va_D A (wHB cI cF cJ h fa tr rw Hb ++ (wFR cI cF cJ q0 q1 q2 q3 q4 q5 q6 q7 q8 F)) := hD.sub [9, 10, 0, 1, 2, 3, 4, 5, 6, 7, 8] (by decide) rfl
  refine lv_astore_n (lv' := [(3, .ref q0), (0, .ref h), (1, .int p0), (2, .int p1)]) hx hb dX2_off_5 rfl hl (by decide) rfl (fun ls hl => ?_)
  refine lv_aload_n hx hb dX2_off_6 rfl (lv_at hl 0 rfl) ?_
  refine lv_iload_n hx hb dX2_off_7 rfl (lv_at hl 3 rfl) ?_
  obtain ⟨x2, hx2, hf⟩ := obd_e hf
  refine sb_Sv (As := [.ref q0, .int p1]) (rest := []) ⟨hx, hb, hml, hown, hts⟩ (fun sz => c_X2_refuseUnlessFits l dC dI cI cF cJ cD q0 q1 q2 q3 q4 q5 q6 q7 q8 F p1  x2 hx2 sz) (va_cwS 2 hts (g_S q205 q206 q172 q201) rfl rfl rfl ps_X2_refuseUnlessFits ⟨Nat.le_of_ble_eq_true rfl, Nat.le_of_ble_eq_true rfl⟩)  hK hP hD hS hA [2, 3, 4, 5, 6, 7, 8, 9, 10] [0, 1] rfl rfl (by decide) (by decide) (by decide) (fun _ _ _ _ h => h) (fun _ _ _ => trivial) rfl rfl hl.1 (Nat.le_of_ble_eq_true rfl) dX2_off_8 ⟨hkc, hks⟩ (fun u H locs hr9 hP hD hS => ?_)
  have hP : va_P (dC, dI) vwCl (wHB cI cF cJ h fa tr rw Hb ++ (wFR cI cF cJ q0 q1 q2 q3 q4 q5 q6 q7 q8 F)) H := hP
  have hD : va_D A (wHB cI cF cJ h fa tr rw Hb ++ (wFR cI cF cJ q0 q1 q2 q3 q4 q5 q6 q7 q8 F)) := hD
  refine lv_aload_n hx hb dX2_off_11 rfl (lv_at hl 0 rfl) ?_
  obtain ⟨x3, hx3, hf⟩ := obd_e hf
  refine sb_Vi (As := []) (rest := []) ⟨hx, hb, hml, hown, hts⟩ (fun sz => c_X1_isTidy l dC dI cI cF cJ cD q0 q1 q2 q3 q4 q5 q6 q7 q8 F  x3 hx3 sz) (cwV 0 hts (g_V q211 q125 q126 q56 q57) rfl rfl rfl pc_X1_isTidy ⟨Nat.le_of_ble_eq_true rfl, Nat.le_of_ble_eq_true rfl⟩) 0 1 rfl rfl hK hP hD hS hA [2, 3, 4, 5, 6, 7, 8, 9, 10] [0, 1] rfl rfl (by decide) (by decide) (by decide) (fun _ _ _ _ h => h) (fun _ _ _ => trivial) rfl rfl hl.1 (Nat.le_of_ble_eq_true rfl) dX2_off_12 ⟨hkc, hks⟩ (fun r9 u H locs hr9 hP hD hS => ?_)
  have hr9 := Eq.symm hr9
  subst hr9
  have hP : va_P (dC, dI) vwCl (wHB cI cF cJ h fa tr rw Hb ++ (wFR cI cF cJ q0 q1 q2 q3 q4 q5 q6 q7 q8 F)) H := hP
  have hD : va_D A (wHB cI cF cJ h fa tr rw Hb ++ (wFR cI cF cJ q0 q1 q2 q3 q4 q5 q6 q7 q8 F)) := hD
  refine lv_if_eq (tgt := 28) hx hb dX2_off_15 (by decide) (fun c4 => ?_) (fun c4 => ?_)
  · have hf := ite_t hf c4
    refine lv_bipush (v := (-2)) hx hb dX2_off_28 (by decide) ?_
    obtain rfl := Option.some.inj hf
    exact W.iret (v := (-2)) hx hb hr (fun t ht hW => ⟨⟨_, (), rfl, rfl, by rw [ht]; exact hP, hD⟩, hS.F ht⟩) hS.2.2 dX2_off_30
  · have hf := ite_f hf c4
    refine lv_iload_n hx hb dX2_off_18 rfl (lv_at hl 3 rfl) ?_
    refine lv_i2l hx hb dX2_off_19 rfl ?_
    refine lv_topl (fun v5 ev5 => ?_)
    have hf := bnd_all hf v5 ev5
    refine lv_aload_n hx hb dX2_off_20 rfl (lv_at hl 0 rfl) ?_
    obtain ⟨x6, hx6, hf⟩ := obd_e hf
    refine sb_Vl (As := []) (rest := [.long v5]) ⟨hx, hb, hml, hown, hts⟩ (fun sz => c_X1_shownNumber l dC dI cI cF cJ cD q0 q1 q2 q3 q4 q5 q6 q7 q8 F  x6 hx6 sz) (cwV 0 hts (g_V q212 q131 q132 q56 q52) rfl rfl rfl pc_X1_shownNumber ⟨Nat.le_of_ble_eq_true rfl, Nat.le_of_ble_eq_true rfl⟩) 0 1 rfl rfl hK hP hD hS hA [2, 3, 4, 5, 6, 7, 8, 9, 10] [0, 1] rfl rfl (by decide) (by decide) (by decide) (fun _ _ _ _ h => h) (fun _ _ _ => trivial) rfl rfl hl.1 (Nat.le_of_ble_eq_true rfl) dX2_off_21 ⟨hkc, hks⟩ (fun r9 u H locs hr9 hP hD hS => ?_)
    have hr9 := Eq.symm hr9
    subst hr9
    have hP : va_P (dC, dI) vwCl (wHB cI cF cJ h fa tr rw Hb ++ (wFR cI cF cJ q0 q1 q2 q3 q4 q5 q6 q7 q8 F)) H := hP
    have hD : va_D A (wHB cI cF cJ h fa tr rw Hb ++ (wFR cI cF cJ q0 q1 q2 q3 q4 q5 q6 q7 q8 F)) := hD
    refine W.lcmp hx hb dX2_off_24 ?_
    refine lv_topi (fun v7 ev7 => ?_)
    have hf := bnd_all hf v7 ev7
    refine lv_if_le (tgt := 31) hx hb dX2_off_25 (by decide) (fun c8 => ?_) (fun c8 => ?_)
    · have hf := ite_t hf c8
      refine lv_aload_n hx hb dX2_off_31 rfl (lv_at hl 0 rfl) ?_
      refine va_get (D := (dC, dI)) (ci := 1) (v := .int (fPu F)) (C := RX1) (T := TX1) (N := 13) hx hb hts iX1 hown hK hP 2 rfl rfl 6 (by decide) (hts _ q195) (fun _ h9 => h9) rfl dX2_off_32 ?_
      refine lv_istore (lv' := [(4, .int (fPu F)), (3, .ref q0), (0, .ref h), (1, .int p0), (2, .int p1)]) hx hb dX2_off_35 hl (by decide) rfl (fun ls hl => ?_)
      refine lv_aload_n hx hb dX2_off_37 rfl (lv_at hl 1 rfl) ?_
      obtain ⟨x9, hx9, hf⟩ := obd_e hf
      refine sb_Vv (As := []) (rest := []) ⟨hx, hb, hml, hown, hts⟩ (fun sz => c_X1_keepBeads l dC dI cI cF cJ cD q0 q1 q2 q3 q4 q5 q6 q7 q8 F  x9 hx9 sz) (cwV 0 hts (g_V q188 q189 q190 q56 q102) rfl rfl rfl pc_X1_keepBeads ⟨Nat.le_of_ble_eq_true rfl, Nat.le_of_ble_eq_true rfl⟩) 0 1 rfl rfl hK hP hD hS hA [2, 3, 4, 5, 6, 7, 8, 9, 10] [0, 1] rfl rfl (by decide) (by decide) (by decide) (fun _ _ _ _ h => h) (fun _ _ _ => trivial) rfl rfl hl.1 (Nat.le_of_ble_eq_true rfl) dX2_off_38 ⟨hkc, hks⟩ (fun u H locs hr9 hP hD hS => ?_)
      have hP : va_P (dC, dI) vwCl (wHB cI cF cJ h fa tr rw Hb ++ (wFR cI cF cJ q0 q1 q2 q3 q4 q5 q6 q7 q8 x9)) H := hP
      have hD : va_D A (wHB cI cF cJ h fa tr rw Hb ++ (wFR cI cF cJ q0 q1 q2 q3 q4 q5 q6 q7 q8 x9)) := hD
      refine lv_aload_n hx hb dX2_off_41 rfl (lv_at hl 1 rfl) ?_
      refine lv_iload_n hx hb dX2_off_42 rfl (lv_at hl 4 rfl) ?_
      refine lv_i2l hx hb dX2_off_43 rfl ?_
      refine lv_topl (fun v10 ev10 => ?_)
      have hf := bnd_all hf v10 ev10
      obtain ⟨x11, hx11, hf⟩ := obd_e hf
      refine sb_Vv (As := [.long v10]) (rest := []) ⟨hx, hb, hml, hown, hts⟩ (fun sz => c_X1_takeNumber l dC dI cI cF cJ cD q0 q1 q2 q3 q4 q5 q6 q7 q8 x9 v10  x11 hx11 sz) (cwV 1 hts (g_V q213 q214 q215 q56 q96) rfl rfl rfl pc_X1_takeNumber ⟨Nat.le_of_ble_eq_true rfl, Nat.le_of_ble_eq_true rfl⟩) 0 1 rfl rfl hK hP hD hS hA [2, 3, 4, 5, 6, 7, 8, 9, 10] [0, 1] rfl rfl (by decide) (by decide) (by decide) (fun _ _ _ _ h => h) (fun _ _ _ => trivial) rfl rfl hl.1 (Nat.le_of_ble_eq_true rfl) dX2_off_44 ⟨hkc, hks⟩ (fun u H locs hr9 hP hD hS => ?_)
      have hP : va_P (dC, dI) vwCl (wHB cI cF cJ h fa tr rw Hb ++ (wFR cI cF cJ q0 q1 q2 q3 q4 q5 q6 q7 q8 x11)) H := hP
      have hD : va_D A (wHB cI cF cJ h fa tr rw Hb ++ (wFR cI cF cJ q0 q1 q2 q3 q4 q5 q6 q7 q8 x11)) := hD
      refine lv_aload_n hx hb dX2_off_47 rfl (lv_at hl 1 rfl) ?_
      refine va_get (D := (dC, dI)) (ci := 1) (v := .int (fPu x11)) (C := RX1) (T := TX1) (N := 13) hx hb hts iX1 hown hK hP 2 rfl rfl 6 (by decide) (hts _ q195) (fun _ h9 => h9) rfl dX2_off_48 ?_
      refine lv_iload hx hb dX2_off_51 (lv_at hl 0 rfl) ?_
      refine lv_isub hx hb dX2_off_53 ?_
      refine lv_topi (fun v12 ev12 => ?_)
      have hf := bnd_all hf v12 ev12
      obtain rfl := Option.some.inj hf
      exact W.iret (v := v12) hx hb hr (fun t ht hW => ⟨⟨_, (), rfl, rfl, by rw [ht]; exact hP, hD⟩, hS.F ht⟩) hS.2.2 dX2_off_54
    · have hf := ite_f hf c8
      refine lv_bipush (v := (-2)) hx hb dX2_off_28 (by decide) ?_
      obtain rfl := Option.some.inj hf
      exact W.iret (v := (-2)) hx hb hr (fun t ht hW => ⟨⟨_, (), rfl, rfl, by rw [ht]; exact hP, hD⟩, hS.F ht⟩) hS.2.2 dX2_off_30
noncomputable def f_X2_times (Hb : HB) (F : FR) (p0 : Int32) (p1 : Int32) : Option (Int32 × FR) := obd (f_X2_foundFrame Hb p0) fun x1 => if p1 < 0 then (none) else (if p1 ≤ 9 then (obd (f_X1_keepBeads F) fun x4 => obd (f_X1_multiply x4 p1) fun x5 => bnd ((fSp x5) - (fSp F)) fun (v6 : Int32) => some (v6, x5)) else (none))
theorem pc_X2_times : yX2_times.cls = RX2 ∧ yX2_times.cls ≠ "java/lang/invoke/MethodHandle" ∧ yX2_times.cls ≠ "java/lang/invoke/VarHandle" ∧ (parseMethodDescriptor yX2_times.desc).map (fun d => d.parameters.length) = some 2 := by decide +kernel
abbrev rm_X2_times : Room := { frames := 5, cells := 0, slots := 0, locals := 128 }
set_option maxHeartbeats 4000000 in
set_option maxRecDepth 100000 in
theorem c_X2_times (l : Launch) (dC : Nat → ClassId) (dI : Nat → Nat → Nat) (cI cF cJ cD : ClassId) (h fa tr q0 q1 q2 q3 q4 q5 q6 q7 q8 : Nat) (rw : Nat → Option Nat) (Hb : HB) (F : FR) (p0 : Int32) (p1 : Int32) (hq : f_X2_frameAt rw p0 = some (some q0)) (res : (Int32 × FR)) (hf : f_X2_times Hb F p0 p1 = some res) (sz : Nat) : Met l yX2_times (ws_ yX2_times cX2_times 5 (some .int)) rm_X2_times (sbPre (dC, dI) (TY cI cF cJ cD) (wHB cI cF cJ h fa tr rw Hb ++ (wFR cI cF cJ q0 q1 q2 q3 q4 q5 q6 q7 q8 F)) E0 sz [.ref h, .int p0, .int p1]) (va_Qi (fun (r : Int32) (_ : Unit) => r = res.1) (sbEnd (dC, dI) (fun _ => wHB cI cF cJ h fa tr rw Hb ++ (wFR cI cF cJ q0 q1 q2 q3 q4 q5 q6 q7 q8 res.2)) (va_A (wHB cI cF cJ h fa tr rw Hb ++ (wFR cI cF cJ q0 q1 q2 q3 q4 q5 q6 q7 q8 F)) sz)) (va_A (wHB cI cF cJ h fa tr rw Hb ++ (wFR cI cF cJ q0 q1 q2 q3 q4 q5 q6 q7 q8 F)) sz)) 0 0 (va_A (wHB cI cF cJ h fa tr rw Hb ++ (wFR cI cF cJ q0 q1 q2 q3 q4 q5 q6 q7 q8 F)) sz) := by
  refine Met.ofW (cc := cX2_times) (maxL := 5) (ret := (some .int)) (by decide) rfl ?_
  intro p e s m args below meth c s₁ B hml hv
  obtain ⟨rfl, hsz, hP, hK, hD0, hE⟩ := hv
  have hx := B.exec
  have hb := B.bytes
  have hr := B.returns
  have hts0 := atoms_spec (ws := ws_ yX2_times cX2_times 5 (some .int)) B.pre
  have hts := fun (w : Cond) (h : w ∈ LW) => hts0 w (List.mem_cons_of_mem _ h)
  have hown : s.vm.findClass RX2 = some m.cls := findClass_of_methodNamed B.named
  have hlocks := B.notSynchronized
  subst hsz
  have hD := hD0.self (sz := s.heap.size)
  generalize hAe : va_A (wHB cI cF cJ h fa tr rw Hb ++ (wFR cI cF cJ q0 q1 q2 q3 q4 q5 q6 q7 q8 F)) s.heap.size = A at hD ⊢
  have hA : ∀ q : Nat, s.heap.size ≤ q → A q := fun q h => by rw [← hAe]; exact Or.inr h
  have hS : va_S A s.heap s.heap [] := va_S.rf
  have hkc := Nat.zero_le rm_X2_times.cells
  have hks := Nat.zero_le rm_X2_times.slots
  have hl := lv_entry ([.ref h, .int p0, .int p1]) (n := 5) (Nat.le_of_ble_eq_true rfl)
  rw [lg_entry_eq]
  generalize (lg_sl ([.ref h, .int p0, .int p1]) ++ List.replicate (5 - (lg_sl ([.ref h, .int p0, .int p1])).length) Slot.unset).toArray = ls at hl ⊢
  have hl : lv_has ls 5 [(0, .ref h), (1, .int p0), (2, .int p1)] := hl
  rw [f_X2_times] at hf
  refine lv_aload_n hx hb dX2_times_0 rfl (lv_at hl 0 rfl) ?_
  refine lv_iload_n hx hb dX2_times_1 rfl (lv_at hl 1 rfl) ?_
  obtain ⟨x1, hx1, hf⟩ := obd_e hf
  refine sb_Vq (As := [.int p0]) (rest := []) ⟨hx, hb, hml, hown, hts⟩ (fun sz => c_X2_foundFrame l dC dI cI cF cJ cD h fa tr q0 rw Hb p0 hq x1 hx1 sz) (cwV 1 hts (g_V q174 q175 q176 q172 q166) rfl rfl rfl pc_X2_foundFrame ⟨Nat.le_of_ble_eq_true rfl, Nat.le_of_ble_eq_true rfl⟩) 0 2 rfl rfl hK hP hD hS hA [0, 1] [2, 3, 4, 5, 6, 7, 8, 9, 10] rfl rfl (by decide) (by decide) (by decide) (fun _ _ _ _ h => h) (fun _ _ _ => trivial) rfl rfl hl.1 (Nat.le_of_ble_eq_true rfl) dX2_times_2 ⟨hkc, hks⟩ (fun r9 u H locs hr9 hP hD hS => ?_)
  have hr9 := Eq.symm hr9
  subst hr9
  have hP : va_P (dC, dI) vwCl (wHB cI cF cJ h fa tr rw Hb ++ (wFR cI cF cJ q0 q1 q2 q3 q4 q5 q6 q7 q8 F)) H := hP.sub [9, 10, 0, 1, 2, 3, 4, 5, 6, 7, 8] rfl
  have hD : va_D A (wHB cI cF cJ h fa tr rw Hb ++ (wFR cI cF cJ q0 q1 q2 q3 q4 q5 q6 q7 q8 F)) := hD.sub [9, 10, 0, 1, 2, 3, 4, 5, 6, 7, 8] (by decide) rfl
  refine lv_astore_n (lv' := [(3, .ref q0), (0, .ref h), (1, .int p0), (2, .int p1)]) hx hb dX2_times_5 rfl hl (by decide) rfl (fun ls hl => ?_)
  refine lv_iload_n hx hb dX2_times_6 rfl (lv_at hl 3 rfl) ?_
  refine lv_if_lt (tgt := 16) hx hb dX2_times_7 (by decide) (fun c2 => ?_) (fun c2 => ?_)
  · have hf := ite_t hf c2
    cases hf
  · have hf := ite_f hf c2
    refine lv_iload_n hx hb dX2_times_10 rfl (lv_at hl 3 rfl) ?_
    refine lv_bipush (v := 9) hx hb dX2_times_11 (by decide) ?_
    refine lv_icmp_le (tgt := 26) hx hb dX2_times_13 (by decide) (fun c3 => ?_) (fun c3 => ?_)
    · have hf := ite_t hf c3
      refine lv_aload_n hx hb dX2_times_26 rfl (lv_at hl 0 rfl) ?_
      refine va_get (D := (dC, dI)) (ci := 1) (v := .int (fSp F)) (C := RX1) (T := TX1) (N := 13) hx hb hts iX1 hown hK hP 2 rfl rfl 10 (by decide) (hts _ q217) (fun _ h9 => h9) rfl dX2_times_27 ?_
      refine lv_istore (lv' := [(4, .int (fSp F)), (3, .ref q0), (0, .ref h), (1, .int p0), (2, .int p1)]) hx hb dX2_times_30 hl (by decide) rfl (fun ls hl => ?_)
      refine lv_aload_n hx hb dX2_times_32 rfl (lv_at hl 1 rfl) ?_
      obtain ⟨x4, hx4, hf⟩ := obd_e hf
      refine sb_Vv (As := []) (rest := []) ⟨hx, hb, hml, hown, hts⟩ (fun sz => c_X1_keepBeads l dC dI cI cF cJ cD q0 q1 q2 q3 q4 q5 q6 q7 q8 F  x4 hx4 sz) (cwV 0 hts (g_V q188 q189 q190 q56 q102) rfl rfl rfl pc_X1_keepBeads ⟨Nat.le_of_ble_eq_true rfl, Nat.le_of_ble_eq_true rfl⟩) 0 1 rfl rfl hK hP hD hS hA [2, 3, 4, 5, 6, 7, 8, 9, 10] [0, 1] rfl rfl (by decide) (by decide) (by decide) (fun _ _ _ _ h => h) (fun _ _ _ => trivial) rfl rfl hl.1 (Nat.le_of_ble_eq_true rfl) dX2_times_33 ⟨hkc, hks⟩ (fun u H locs hr9 hP hD hS => ?_)
      have hP : va_P (dC, dI) vwCl (wHB cI cF cJ h fa tr rw Hb ++ (wFR cI cF cJ q0 q1 q2 q3 q4 q5 q6 q7 q8 x4)) H := hP
      have hD : va_D A (wHB cI cF cJ h fa tr rw Hb ++ (wFR cI cF cJ q0 q1 q2 q3 q4 q5 q6 q7 q8 x4)) := hD
      refine lv_aload_n hx hb dX2_times_36 rfl (lv_at hl 1 rfl) ?_
      refine lv_iload_n hx hb dX2_times_37 rfl (lv_at hl 4 rfl) ?_
      obtain ⟨x5, hx5, hf⟩ := obd_e hf
      refine sb_Vv (As := [.int p1]) (rest := []) ⟨hx, hb, hml, hown, hts⟩ (fun sz => c_X1_multiply l dC dI cI cF cJ cD q0 q1 q2 q3 q4 q5 q6 q7 q8 x4 p1  x5 hx5 sz) (cwV 1 hts (g_V q218 q219 q220 q56 q97) rfl rfl rfl pc_X1_multiply ⟨Nat.le_of_ble_eq_true rfl, Nat.le_of_ble_eq_true rfl⟩) 0 1 rfl rfl hK hP hD hS hA [2, 3, 4, 5, 6, 7, 8, 9, 10] [0, 1] rfl rfl (by decide) (by decide) (by decide) (fun _ _ _ _ h => h) (fun _ _ _ => trivial) rfl rfl hl.1 (Nat.le_of_ble_eq_true rfl) dX2_times_38 ⟨hkc, hks⟩ (fun u H locs hr9 hP hD hS => ?_)
      have hP : va_P (dC, dI) vwCl (wHB cI cF cJ h fa tr rw Hb ++ (wFR cI cF cJ q0 q1 q2 q3 q4 q5 q6 q7 q8 x5)) H := hP
      have hD : va_D A (wHB cI cF cJ h fa tr rw Hb ++ (wFR cI cF cJ q0 q1 q2 q3 q4 q5 q6 q7 q8 x5)) := hD
      refine lv_aload_n hx hb dX2_times_41 rfl (lv_at hl 1 rfl) ?_
      refine va_get (D := (dC, dI)) (ci := 1) (v := .int (fSp x5)) (C := RX1) (T := TX1) (N := 13) hx hb hts iX1 hown hK hP 2 rfl rfl 10 (by decide) (hts _ q217) (fun _ h9 => h9) rfl dX2_times_42 ?_
      refine lv_iload hx hb dX2_times_45 (lv_at hl 0 rfl) ?_
      refine lv_isub hx hb dX2_times_47 ?_
      refine lv_topi (fun v6 ev6 => ?_)
      have hf := bnd_all hf v6 ev6
      obtain rfl := Option.some.inj hf
      exact W.iret (v := v6) hx hb hr (fun t ht hW => ⟨⟨_, (), rfl, rfl, by rw [ht]; exact hP, hD⟩, hS.F ht⟩) hS.2.2 dX2_times_48
    · have hf := ite_f hf c3
      cases hf
noncomputable def f_X2_divide (Hb : HB) (F : FR) (p0 : Int32) (p1 : Int32) : Option (Int32 × FR) := obd (f_X2_foundFrame Hb p0) fun x1 => if p1 < 1 then (none) else (if p1 ≤ 9 then (obd (f_X1_keepBeads F) fun x4 => obd (f_X1_splitBy x4 p1) fun x5 => some (x5.1, x5.2)) else (none))
theorem pc_X2_divide : yX2_divide.cls = RX2 ∧ yX2_divide.cls ≠ "java/lang/invoke/MethodHandle" ∧ yX2_divide.cls ≠ "java/lang/invoke/VarHandle" ∧ (parseMethodDescriptor yX2_divide.desc).map (fun d => d.parameters.length) = some 2 := by decide +kernel
abbrev rm_X2_divide : Room := { frames := 4, cells := 0, slots := 0, locals := 104 }
set_option maxHeartbeats 4000000 in
set_option maxRecDepth 100000 in
theorem c_X2_divide (l : Launch) (dC : Nat → ClassId) (dI : Nat → Nat → Nat) (cI cF cJ cD : ClassId) (h fa tr q0 q1 q2 q3 q4 q5 q6 q7 q8 : Nat) (rw : Nat → Option Nat) (Hb : HB) (F : FR) (p0 : Int32) (p1 : Int32) (hq : f_X2_frameAt rw p0 = some (some q0)) (res : (Int32 × FR)) (hf : f_X2_divide Hb F p0 p1 = some res) (sz : Nat) : Met l yX2_divide (ws_ yX2_divide cX2_divide 4 (some .int)) rm_X2_divide (sbPre (dC, dI) (TY cI cF cJ cD) (wHB cI cF cJ h fa tr rw Hb ++ (wFR cI cF cJ q0 q1 q2 q3 q4 q5 q6 q7 q8 F)) E0 sz [.ref h, .int p0, .int p1]) (va_Qi (fun (r : Int32) (_ : Unit) => r = res.1) (sbEnd (dC, dI) (fun _ => wHB cI cF cJ h fa tr rw Hb ++ (wFR cI cF cJ q0 q1 q2 q3 q4 q5 q6 q7 q8 res.2)) (va_A (wHB cI cF cJ h fa tr rw Hb ++ (wFR cI cF cJ q0 q1 q2 q3 q4 q5 q6 q7 q8 F)) sz)) (va_A (wHB cI cF cJ h fa tr rw Hb ++ (wFR cI cF cJ q0 q1 q2 q3 q4 q5 q6 q7 q8 F)) sz)) 0 0 (va_A (wHB cI cF cJ h fa tr rw Hb ++ (wFR cI cF cJ q0 q1 q2 q3 q4 q5 q6 q7 q8 F)) sz) := by
  refine Met.ofW (cc := cX2_divide) (maxL := 4) (ret := (some .int)) (by decide) rfl ?_
  intro p e s m args below meth c s₁ B hml hv
  obtain ⟨rfl, hsz, hP, hK, hD0, hE⟩ := hv
  have hx := B.exec
  have hb := B.bytes
  have hr := B.returns
  have hts0 := atoms_spec (ws := ws_ yX2_divide cX2_divide 4 (some .int)) B.pre
  have hts := fun (w : Cond) (h : w ∈ LW) => hts0 w (List.mem_cons_of_mem _ h)
  have hown : s.vm.findClass RX2 = some m.cls := findClass_of_methodNamed B.named
  have hlocks := B.notSynchronized
  subst hsz
  have hD := hD0.self (sz := s.heap.size)
  generalize hAe : va_A (wHB cI cF cJ h fa tr rw Hb ++ (wFR cI cF cJ q0 q1 q2 q3 q4 q5 q6 q7 q8 F)) s.heap.size = A at hD ⊢
  have hA : ∀ q : Nat, s.heap.size ≤ q → A q := fun q h => by rw [← hAe]; exact Or.inr h
  have hS : va_S A s.heap s.heap [] := va_S.rf
  have hkc := Nat.zero_le rm_X2_divide.cells
  have hks := Nat.zero_le rm_X2_divide.slots
  have hl := lv_entry ([.ref h, .int p0, .int p1]) (n := 4) (Nat.le_of_ble_eq_true rfl)
  rw [lg_entry_eq]
  generalize (lg_sl ([.ref h, .int p0, .int p1]) ++ List.replicate (4 - (lg_sl ([.ref h, .int p0, .int p1])).length) Slot.unset).toArray = ls at hl ⊢
  have hl : lv_has ls 4 [(0, .ref h), (1, .int p0), (2, .int p1)] := hl
  rw [f_X2_divide] at hf
  refine lv_aload_n hx hb dX2_divide_0 rfl (lv_at hl 0 rfl) ?_
  refine lv_iload_n hx hb dX2_divide_1 rfl (lv_at hl 1 rfl) ?_
  obtain ⟨x1, hx1, hf⟩ := obd_e hf
  refine sb_Vq (As := [.int p0]) (rest := []) ⟨hx, hb, hml, hown, hts⟩ (fun sz => c_X2_foundFrame l dC dI cI cF cJ cD h fa tr q0 rw Hb p0 hq x1 hx1 sz) (cwV 1 hts (g_V q174 q175 q176 q172 q166) rfl rfl rfl pc_X2_foundFrame ⟨Nat.le_of_ble_eq_true rfl, Nat.le_of_ble_eq_true rfl⟩) 0 2 rfl rfl hK hP hD hS hA [0, 1] [2, 3, 4, 5, 6, 7, 8, 9, 10] rfl rfl (by decide) (by decide) (by decide) (fun _ _ _ _ h => h) (fun _ _ _ => trivial) rfl rfl hl.1 (Nat.le_of_ble_eq_true rfl) dX2_divide_2 ⟨hkc, hks⟩ (fun r9 u H locs hr9 hP hD hS => ?_)
  have hr9 := Eq.symm hr9
  subst hr9
  have hP : va_P (dC, dI) vwCl (wHB cI cF cJ h fa tr rw Hb ++ (wFR cI cF cJ q0 q1 q2 q3 q4 q5 q6 q7 q8 F)) H := hP.sub [9, 10, 0, 1, 2, 3, 4, 5, 6, 7, 8] rfl
  have hD : va_D A (wHB cI cF cJ h fa tr rw Hb ++ (wFR cI cF cJ q0 q1 q2 q3 q4 q5 q6 q7 q8 F)) := hD.sub [9, 10, 0, 1, 2, 3, 4, 5, 6, 7, 8] (by decide) rfl
  refine lv_astore_n (lv' := [(3, .ref q0), (0, .ref h), (1, .int p0), (2, .int p1)]) hx hb dX2_divide_5 rfl hl (by decide) rfl (fun ls hl => ?_)
  refine lv_iload_n hx hb dX2_divide_6 rfl (lv_at hl 3 rfl) ?_
  refine lv_iconst (v := 1) hx hb dX2_divide_7 (by decide) ?_
  refine lv_icmp_lt (tgt := 17) hx hb dX2_divide_8 (by decide) (fun c2 => ?_) (fun c2 => ?_)
  · have hf := ite_t hf c2
    cases hf
  · have hf := ite_f hf c2
    refine lv_iload_n hx hb dX2_divide_11 rfl (lv_at hl 3 rfl) ?_
    refine lv_bipush (v := 9) hx hb dX2_divide_12 (by decide) ?_
    refine lv_icmp_le (tgt := 27) hx hb dX2_divide_14 (by decide) (fun c3 => ?_) (fun c3 => ?_)
    · have hf := ite_t hf c3
      refine lv_aload_n hx hb dX2_divide_27 rfl (lv_at hl 0 rfl) ?_
      obtain ⟨x4, hx4, hf⟩ := obd_e hf
      refine sb_Vv (As := []) (rest := []) ⟨hx, hb, hml, hown, hts⟩ (fun sz => c_X1_keepBeads l dC dI cI cF cJ cD q0 q1 q2 q3 q4 q5 q6 q7 q8 F  x4 hx4 sz) (cwV 0 hts (g_V q188 q189 q190 q56 q102) rfl rfl rfl pc_X1_keepBeads ⟨Nat.le_of_ble_eq_true rfl, Nat.le_of_ble_eq_true rfl⟩) 0 1 rfl rfl hK hP hD hS hA [2, 3, 4, 5, 6, 7, 8, 9, 10] [0, 1] rfl rfl (by decide) (by decide) (by decide) (fun _ _ _ _ h => h) (fun _ _ _ => trivial) rfl rfl hl.1 (Nat.le_of_ble_eq_true rfl) dX2_divide_28 ⟨hkc, hks⟩ (fun u H locs hr9 hP hD hS => ?_)
      have hP : va_P (dC, dI) vwCl (wHB cI cF cJ h fa tr rw Hb ++ (wFR cI cF cJ q0 q1 q2 q3 q4 q5 q6 q7 q8 x4)) H := hP
      have hD : va_D A (wHB cI cF cJ h fa tr rw Hb ++ (wFR cI cF cJ q0 q1 q2 q3 q4 q5 q6 q7 q8 x4)) := hD
      refine lv_aload_n hx hb dX2_divide_31 rfl (lv_at hl 0 rfl) ?_
      refine lv_iload_n hx hb dX2_divide_32 rfl (lv_at hl 3 rfl) ?_
      obtain ⟨x5, hx5, hf⟩ := obd_e hf
      refine sb_Vi (As := [.int p1]) (rest := []) ⟨hx, hb, hml, hown, hts⟩ (fun sz => c_X1_splitBy l dC dI cI cF cJ cD q0 q1 q2 q3 q4 q5 q6 q7 q8 x4 p1  x5 hx5 sz) (cwV 1 hts (g_V q222 q223 q224 q56 q98) rfl rfl rfl pc_X1_splitBy ⟨Nat.le_of_ble_eq_true rfl, Nat.le_of_ble_eq_true rfl⟩) 0 1 rfl rfl hK hP hD hS hA [2, 3, 4, 5, 6, 7, 8, 9, 10] [0, 1] rfl rfl (by decide) (by decide) (by decide) (fun _ _ _ _ h => h) (fun _ _ _ => trivial) rfl rfl hl.1 (Nat.le_of_ble_eq_true rfl) dX2_divide_33 ⟨hkc, hks⟩ (fun r9 u H locs hr9 hP hD hS => ?_)
      have hr9 := Eq.symm hr9
      subst hr9
      have hP : va_P (dC, dI) vwCl (wHB cI cF cJ h fa tr rw Hb ++ (wFR cI cF cJ q0 q1 q2 q3 q4 q5 q6 q7 q8 x5.2)) H := hP
      have hD : va_D A (wHB cI cF cJ h fa tr rw Hb ++ (wFR cI cF cJ q0 q1 q2 q3 q4 q5 q6 q7 q8 x5.2)) := hD
      obtain rfl := Option.some.inj hf
      exact W.iret (v := x5.1) hx hb hr (fun t ht hW => ⟨⟨_, (), rfl, rfl, by rw [ht]; exact hP, hD⟩, hS.F ht⟩) hS.2.2 dX2_divide_36
    · have hf := ite_f hf c3
      cases hf
noncomputable def f_X2_shift (Hb : HB) (F : FR) (p0 : Int32) (p1 : Int32) : Option (Int32 × FR) := obd (f_X2_foundFrame Hb p0) fun x1 => obd (f_X1_keepBeads F) fun x2 => if p1 = 0 then (obd (f_X1_shiftRight x2) fun x4 => some (x4.1, x4.2)) else (obd (f_X1_shiftLeft x2) fun x5 => some (x5.1, x5.2))
theorem pc_X2_shift : yX2_shift.cls = RX2 ∧ yX2_shift.cls ≠ "java/lang/invoke/MethodHandle" ∧ yX2_shift.cls ≠ "java/lang/invoke/VarHandle" ∧ (parseMethodDescriptor yX2_shift.desc).map (fun d => d.parameters.length) = some 2 := by decide +kernel
abbrev rm_X2_shift : Room := { frames := 4, cells := 0, slots := 0, locals := 102 }
set_option maxHeartbeats 4000000 in
set_option maxRecDepth 100000 in
theorem c_X2_shift (l : Launch) (dC : Nat → ClassId) (dI : Nat → Nat → Nat) (cI cF cJ cD : ClassId) (h fa tr q0 q1 q2 q3 q4 q5 q6 q7 q8 : Nat) (rw : Nat → Option Nat) (Hb : HB) (F : FR) (p0 : Int32) (p1 : Int32) (hq : f_X2_frameAt rw p0 = some (some q0)) (res : (Int32 × FR)) (hf : f_X2_shift Hb F p0 p1 = some res) (sz : Nat) : Met l yX2_shift (ws_ yX2_shift cX2_shift 4 (some .int)) rm_X2_shift (sbPre (dC, dI) (TY cI cF cJ cD) (wHB cI cF cJ h fa tr rw Hb ++ (wFR cI cF cJ q0 q1 q2 q3 q4 q5 q6 q7 q8 F)) E0 sz [.ref h, .int p0, .int p1]) (va_Qi (fun (r : Int32) (_ : Unit) => r = res.1) (sbEnd (dC, dI) (fun _ => wHB cI cF cJ h fa tr rw Hb ++ (wFR cI cF cJ q0 q1 q2 q3 q4 q5 q6 q7 q8 res.2)) (va_A (wHB cI cF cJ h fa tr rw Hb ++ (wFR cI cF cJ q0 q1 q2 q3 q4 q5 q6 q7 q8 F)) sz)) (va_A (wHB cI cF cJ h fa tr rw Hb ++ (wFR cI cF cJ q0 q1 q2 q3 q4 q5 q6 q7 q8 F)) sz)) 0 0 (va_A (wHB cI cF cJ h fa tr rw Hb ++ (wFR cI cF cJ q0 q1 q2 q3 q4 q5 q6 q7 q8 F)) sz) := by
  refine Met.ofW (cc := cX2_shift) (maxL := 4) (ret := (some .int)) (by decide) rfl ?_
  intro p e s m args below meth c s₁ B hml hv
  obtain ⟨rfl, hsz, hP, hK, hD0, hE⟩ := hv
  have hx := B.exec
  have hb := B.bytes
  have hr := B.returns
  have hts0 := atoms_spec (ws := ws_ yX2_shift cX2_shift 4 (some .int)) B.pre
  have hts := fun (w : Cond) (h : w ∈ LW) => hts0 w (List.mem_cons_of_mem _ h)
  have hown : s.vm.findClass RX2 = some m.cls := findClass_of_methodNamed B.named
  have hlocks := B.notSynchronized
  subst hsz
  have hD := hD0.self (sz := s.heap.size)
  generalize hAe : va_A (wHB cI cF cJ h fa tr rw Hb ++ (wFR cI cF cJ q0 q1 q2 q3 q4 q5 q6 q7 q8 F)) s.heap.size = A at hD ⊢
  have hA : ∀ q : Nat, s.heap.size ≤ q → A q := fun q h => by rw [← hAe]; exact Or.inr h
  have hS : va_S A s.heap s.heap [] := va_S.rf
  have hkc := Nat.zero_le rm_X2_shift.cells
  have hks := Nat.zero_le rm_X2_shift.slots
  have hl := lv_entry ([.ref h, .int p0, .int p1]) (n := 4) (Nat.le_of_ble_eq_true rfl)
  rw [lg_entry_eq]
  generalize (lg_sl ([.ref h, .int p0, .int p1]) ++ List.replicate (4 - (lg_sl ([.ref h, .int p0, .int p1])).length) Slot.unset).toArray = ls at hl ⊢
  have hl : lv_has ls 4 [(0, .ref h), (1, .int p0), (2, .int p1)] := hl
  rw [f_X2_shift] at hf
  refine lv_aload_n hx hb dX2_shift_0 rfl (lv_at hl 0 rfl) ?_
  refine lv_iload_n hx hb dX2_shift_1 rfl (lv_at hl 1 rfl) ?_
  obtain ⟨x1, hx1, hf⟩ := obd_e hf
  refine sb_Vq (As := [.int p0]) (rest := []) ⟨hx, hb, hml, hown, hts⟩ (fun sz => c_X2_foundFrame l dC dI cI cF cJ cD h fa tr q0 rw Hb p0 hq x1 hx1 sz) (cwV 1 hts (g_V q174 q175 q176 q172 q166) rfl rfl rfl pc_X2_foundFrame ⟨Nat.le_of_ble_eq_true rfl, Nat.le_of_ble_eq_true rfl⟩) 0 2 rfl rfl hK hP hD hS hA [0, 1] [2, 3, 4, 5, 6, 7, 8, 9, 10] rfl rfl (by decide) (by decide) (by decide) (fun _ _ _ _ h => h) (fun _ _ _ => trivial) rfl rfl hl.1 (Nat.le_of_ble_eq_true rfl) dX2_shift_2 ⟨hkc, hks⟩ (fun r9 u H locs hr9 hP hD hS => ?_)
  have hr9 := Eq.symm hr9
  subst hr9
  have hP : va_P (dC, dI) vwCl (wHB cI cF cJ h fa tr rw Hb ++ (wFR cI cF cJ q0 q1 q2 q3 q4 q5 q6 q7 q8 F)) H := hP.sub [9, 10, 0, 1, 2, 3, 4, 5, 6, 7, 8] rfl
  have hD : va_D A (wHB cI cF cJ h fa tr rw Hb ++ (wFR cI cF cJ q0 q1 q2 q3 q4 q5 q6 q7 q8 F)) := hD.sub [9, 10, 0, 1, 2, 3, 4, 5, 6, 7, 8] (by decide) rfl
  refine lv_astore_n (lv' := [(3, .ref q0), (0, .ref h), (1, .int p0), (2, .int p1)]) hx hb dX2_shift_5 rfl hl (by decide) rfl (fun ls hl => ?_)
  refine lv_aload_n hx hb dX2_shift_6 rfl (lv_at hl 0 rfl) ?_
  obtain ⟨x2, hx2, hf⟩ := obd_e hf
  refine sb_Vv (As := []) (rest := []) ⟨hx, hb, hml, hown, hts⟩ (fun sz => c_X1_keepBeads l dC dI cI cF cJ cD q0 q1 q2 q3 q4 q5 q6 q7 q8 F  x2 hx2 sz) (cwV 0 hts (g_V q188 q189 q190 q56 q102) rfl rfl rfl pc_X1_keepBeads ⟨Nat.le_of_ble_eq_true rfl, Nat.le_of_ble_eq_true rfl⟩) 0 1 rfl rfl hK hP hD hS hA [2, 3, 4, 5, 6, 7, 8, 9, 10] [0, 1] rfl rfl (by decide) (by decide) (by decide) (fun _ _ _ _ h => h) (fun _ _ _ => trivial) rfl rfl hl.1 (Nat.le_of_ble_eq_true rfl) dX2_shift_7 ⟨hkc, hks⟩ (fun u H locs hr9 hP hD hS => ?_)
  have hP : va_P (dC, dI) vwCl (wHB cI cF cJ h fa tr rw Hb ++ (wFR cI cF cJ q0 q1 q2 q3 q4 q5 q6 q7 q8 x2)) H := hP
  have hD : va_D A (wHB cI cF cJ h fa tr rw Hb ++ (wFR cI cF cJ q0 q1 q2 q3 q4 q5 q6 q7 q8 x2)) := hD
  refine lv_iload_n hx hb dX2_shift_10 rfl (lv_at hl 3 rfl) ?_
  refine lv_if_eq (tgt := 21) hx hb dX2_shift_11 (by decide) (fun c3 => ?_) (fun c3 => ?_)
  · have hf := ite_t hf c3
    refine lv_aload_n hx hb dX2_shift_21 rfl (lv_at hl 0 rfl) ?_
    obtain ⟨x4, hx4, hf⟩ := obd_e hf
    refine sb_Vi (As := []) (rest := []) ⟨hx, hb, hml, hown, hts⟩ (fun sz => c_X1_shiftRight l dC dI cI cF cJ cD q0 q1 q2 q3 q4 q5 q6 q7 q8 x2  x4 hx4 sz) (cwV 0 hts (g_V q229 q230 q231 q56 q100) rfl rfl rfl pc_X1_shiftRight ⟨Nat.le_of_ble_eq_true rfl, Nat.le_of_ble_eq_true rfl⟩) 0 1 rfl rfl hK hP hD hS hA [2, 3, 4, 5, 6, 7, 8, 9, 10] [0, 1] rfl rfl (by decide) (by decide) (by decide) (fun _ _ _ _ h => h) (fun _ _ _ => trivial) rfl rfl hl.1 (Nat.le_of_ble_eq_true rfl) dX2_shift_22 ⟨hkc, hks⟩ (fun r9 u H locs hr9 hP hD hS => ?_)
    have hr9 := Eq.symm hr9
    subst hr9
    have hP : va_P (dC, dI) vwCl (wHB cI cF cJ h fa tr rw Hb ++ (wFR cI cF cJ q0 q1 q2 q3 q4 q5 q6 q7 q8 x4.2)) H := hP
    have hD : va_D A (wHB cI cF cJ h fa tr rw Hb ++ (wFR cI cF cJ q0 q1 q2 q3 q4 q5 q6 q7 q8 x4.2)) := hD
    obtain rfl := Option.some.inj hf
    exact W.iret (v := x4.1) hx hb hr (fun t ht hW => ⟨⟨_, (), rfl, rfl, by rw [ht]; exact hP, hD⟩, hS.F ht⟩) hS.2.2 dX2_shift_25
  · have hf := ite_f hf c3
    refine lv_aload_n hx hb dX2_shift_14 rfl (lv_at hl 0 rfl) ?_
    obtain ⟨x5, hx5, hf⟩ := obd_e hf
    refine sb_Vi (As := []) (rest := []) ⟨hx, hb, hml, hown, hts⟩ (fun sz => c_X1_shiftLeft l dC dI cI cF cJ cD q0 q1 q2 q3 q4 q5 q6 q7 q8 x2  x5 hx5 sz) (cwV 0 hts (g_V q226 q227 q228 q56 q99) rfl rfl rfl pc_X1_shiftLeft ⟨Nat.le_of_ble_eq_true rfl, Nat.le_of_ble_eq_true rfl⟩) 0 1 rfl rfl hK hP hD hS hA [2, 3, 4, 5, 6, 7, 8, 9, 10] [0, 1] rfl rfl (by decide) (by decide) (by decide) (fun _ _ _ _ h => h) (fun _ _ _ => trivial) rfl rfl hl.1 (Nat.le_of_ble_eq_true rfl) dX2_shift_15 ⟨hkc, hks⟩ (fun r9 u H locs hr9 hP hD hS => ?_)
    have hr9 := Eq.symm hr9
    subst hr9
    have hP : va_P (dC, dI) vwCl (wHB cI cF cJ h fa tr rw Hb ++ (wFR cI cF cJ q0 q1 q2 q3 q4 q5 q6 q7 q8 x5.2)) H := hP
    have hD : va_D A (wHB cI cF cJ h fa tr rw Hb ++ (wFR cI cF cJ q0 q1 q2 q3 q4 q5 q6 q7 q8 x5.2)) := hD
    refine lv_goto (tgt := 25) hx hb dX2_shift_18 (by decide) ?_
    obtain rfl := Option.some.inj hf
    exact W.iret (v := x5.1) hx hb hr (fun t ht hW => ⟨⟨_, (), rfl, rfl, by rw [ht]; exact hP, hD⟩, hS.F ht⟩) hS.2.2 dX2_shift_25
noncomputable def f_X2_tidy (Hb : HB) (F : FR) (p0 : Int32) : Option (Int32 × FR) := obd (f_X2_foundFrame Hb p0) fun x1 => obd (f_X1_keepBeads F) fun x2 => obd (f_X1_tidyRods x2) fun x3 => bnd ((fCa x3) - (fCa F)) fun (v4 : Int32) => some (v4, x3)
theorem pc_X2_tidy : yX2_tidy.cls = RX2 ∧ yX2_tidy.cls ≠ "java/lang/invoke/MethodHandle" ∧ yX2_tidy.cls ≠ "java/lang/invoke/VarHandle" ∧ (parseMethodDescriptor yX2_tidy.desc).map (fun d => d.parameters.length) = some 1 := by decide +kernel
abbrev rm_X2_tidy : Room := { frames := 5, cells := 0, slots := 0, locals := 127 }
set_option maxHeartbeats 4000000 in
set_option maxRecDepth 100000 in
theorem c_X2_tidy (l : Launch) (dC : Nat → ClassId) (dI : Nat → Nat → Nat) (cI cF cJ cD : ClassId) (h fa tr q0 q1 q2 q3 q4 q5 q6 q7 q8 : Nat) (rw : Nat → Option Nat) (Hb : HB) (F : FR) (p0 : Int32) (hq : f_X2_frameAt rw p0 = some (some q0)) (res : (Int32 × FR)) (hf : f_X2_tidy Hb F p0 = some res) (sz : Nat) : Met l yX2_tidy (ws_ yX2_tidy cX2_tidy 4 (some .int)) rm_X2_tidy (sbPre (dC, dI) (TY cI cF cJ cD) (wHB cI cF cJ h fa tr rw Hb ++ (wFR cI cF cJ q0 q1 q2 q3 q4 q5 q6 q7 q8 F)) E0 sz [.ref h, .int p0]) (va_Qi (fun (r : Int32) (_ : Unit) => r = res.1) (sbEnd (dC, dI) (fun _ => wHB cI cF cJ h fa tr rw Hb ++ (wFR cI cF cJ q0 q1 q2 q3 q4 q5 q6 q7 q8 res.2)) (va_A (wHB cI cF cJ h fa tr rw Hb ++ (wFR cI cF cJ q0 q1 q2 q3 q4 q5 q6 q7 q8 F)) sz)) (va_A (wHB cI cF cJ h fa tr rw Hb ++ (wFR cI cF cJ q0 q1 q2 q3 q4 q5 q6 q7 q8 F)) sz)) 0 0 (va_A (wHB cI cF cJ h fa tr rw Hb ++ (wFR cI cF cJ q0 q1 q2 q3 q4 q5 q6 q7 q8 F)) sz) := by
  refine Met.ofW (cc := cX2_tidy) (maxL := 4) (ret := (some .int)) (by decide) rfl ?_
  intro p e s m args below meth c s₁ B hml hv
  obtain ⟨rfl, hsz, hP, hK, hD0, hE⟩ := hv
  have hx := B.exec
  have hb := B.bytes
  have hr := B.returns
  have hts0 := atoms_spec (ws := ws_ yX2_tidy cX2_tidy 4 (some .int)) B.pre
  have hts := fun (w : Cond) (h : w ∈ LW) => hts0 w (List.mem_cons_of_mem _ h)
  have hown : s.vm.findClass RX2 = some m.cls := findClass_of_methodNamed B.named
  have hlocks := B.notSynchronized
  subst hsz
  have hD := hD0.self (sz := s.heap.size)
  generalize hAe : va_A (wHB cI cF cJ h fa tr rw Hb ++ (wFR cI cF cJ q0 q1 q2 q3 q4 q5 q6 q7 q8 F)) s.heap.size = A at hD ⊢
  have hA : ∀ q : Nat, s.heap.size ≤ q → A q := fun q h => by rw [← hAe]; exact Or.inr h
  have hS : va_S A s.heap s.heap [] := va_S.rf
  have hkc := Nat.zero_le rm_X2_tidy.cells
  have hks := Nat.zero_le rm_X2_tidy.slots
  have hl := lv_entry ([.ref h, .int p0]) (n := 4) (Nat.le_of_ble_eq_true rfl)
  rw [lg_entry_eq]
  generalize (lg_sl ([.ref h, .int p0]) ++ List.replicate (4 - (lg_sl ([.ref h, .int p0])).length) Slot.unset).toArray = ls at hl ⊢
  have hl : lv_has ls 4 [(0, .ref h), (1, .int p0)] := hl
  rw [f_X2_tidy] at hf
  refine lv_aload_n hx hb dX2_tidy_0 rfl (lv_at hl 0 rfl) ?_
  refine lv_iload_n hx hb dX2_tidy_1 rfl (lv_at hl 1 rfl) ?_
  obtain ⟨x1, hx1, hf⟩ := obd_e hf
  refine sb_Vq (As := [.int p0]) (rest := []) ⟨hx, hb, hml, hown, hts⟩ (fun sz => c_X2_foundFrame l dC dI cI cF cJ cD h fa tr q0 rw Hb p0 hq x1 hx1 sz) (cwV 1 hts (g_V q174 q175 q176 q172 q166) rfl rfl rfl pc_X2_foundFrame ⟨Nat.le_of_ble_eq_true rfl, Nat.le_of_ble_eq_true rfl⟩) 0 2 rfl rfl hK hP hD hS hA [0, 1] [2, 3, 4, 5, 6, 7, 8, 9, 10] rfl rfl (by decide) (by decide) (by decide) (fun _ _ _ _ h => h) (fun _ _ _ => trivial) rfl rfl hl.1 (Nat.le_of_ble_eq_true rfl) dX2_tidy_2 ⟨hkc, hks⟩ (fun r9 u H locs hr9 hP hD hS => ?_)
  have hr9 := Eq.symm hr9
  subst hr9
  have hP : va_P (dC, dI) vwCl (wHB cI cF cJ h fa tr rw Hb ++ (wFR cI cF cJ q0 q1 q2 q3 q4 q5 q6 q7 q8 F)) H := hP.sub [9, 10, 0, 1, 2, 3, 4, 5, 6, 7, 8] rfl
  have hD : va_D A (wHB cI cF cJ h fa tr rw Hb ++ (wFR cI cF cJ q0 q1 q2 q3 q4 q5 q6 q7 q8 F)) := hD.sub [9, 10, 0, 1, 2, 3, 4, 5, 6, 7, 8] (by decide) rfl
  refine lv_astore_n (lv' := [(2, .ref q0), (0, .ref h), (1, .int p0)]) hx hb dX2_tidy_5 rfl hl (by decide) rfl (fun ls hl => ?_)
  refine lv_aload_n hx hb dX2_tidy_6 rfl (lv_at hl 0 rfl) ?_
  refine va_get (D := (dC, dI)) (ci := 1) (v := .int (fCa F)) (C := RX1) (T := TX1) (N := 13) hx hb hts iX1 hown hK hP 2 rfl rfl 8 (by decide) (hts _ q233) (fun _ h9 => h9) rfl dX2_tidy_7 ?_
  refine lv_istore_n (lv' := [(3, .int (fCa F)), (2, .ref q0), (0, .ref h), (1, .int p0)]) hx hb dX2_tidy_10 rfl hl (by decide) rfl (fun ls hl => ?_)
  refine lv_aload_n hx hb dX2_tidy_11 rfl (lv_at hl 1 rfl) ?_
  obtain ⟨x2, hx2, hf⟩ := obd_e hf
  refine sb_Vv (As := []) (rest := []) ⟨hx, hb, hml, hown, hts⟩ (fun sz => c_X1_keepBeads l dC dI cI cF cJ cD q0 q1 q2 q3 q4 q5 q6 q7 q8 F  x2 hx2 sz) (cwV 0 hts (g_V q188 q189 q190 q56 q102) rfl rfl rfl pc_X1_keepBeads ⟨Nat.le_of_ble_eq_true rfl, Nat.le_of_ble_eq_true rfl⟩) 0 1 rfl rfl hK hP hD hS hA [2, 3, 4, 5, 6, 7, 8, 9, 10] [0, 1] rfl rfl (by decide) (by decide) (by decide) (fun _ _ _ _ h => h) (fun _ _ _ => trivial) rfl rfl hl.1 (Nat.le_of_ble_eq_true rfl) dX2_tidy_12 ⟨hkc, hks⟩ (fun u H locs hr9 hP hD hS => ?_)
  have hP : va_P (dC, dI) vwCl (wHB cI cF cJ h fa tr rw Hb ++ (wFR cI cF cJ q0 q1 q2 q3 q4 q5 q6 q7 q8 x2)) H := hP
  have hD : va_D A (wHB cI cF cJ h fa tr rw Hb ++ (wFR cI cF cJ q0 q1 q2 q3 q4 q5 q6 q7 q8 x2)) := hD
  refine lv_aload_n hx hb dX2_tidy_15 rfl (lv_at hl 1 rfl) ?_
  obtain ⟨x3, hx3, hf⟩ := obd_e hf
  refine sb_Vv (As := []) (rest := []) ⟨hx, hb, hml, hown, hts⟩ (fun sz => c_X1_tidyRods l dC dI cI cF cJ cD q0 q1 q2 q3 q4 q5 q6 q7 q8 x2  x3 hx3 sz) (cwV 0 hts (g_V q234 q235 q236 q56 q101) rfl rfl rfl pc_X1_tidyRods ⟨Nat.le_of_ble_eq_true rfl, Nat.le_of_ble_eq_true rfl⟩) 0 1 rfl rfl hK hP hD hS hA [2, 3, 4, 5, 6, 7, 8, 9, 10] [0, 1] rfl rfl (by decide) (by decide) (by decide) (fun _ _ _ _ h => h) (fun _ _ _ => trivial) rfl rfl hl.1 (Nat.le_of_ble_eq_true rfl) dX2_tidy_16 ⟨hkc, hks⟩ (fun u H locs hr9 hP hD hS => ?_)
  have hP : va_P (dC, dI) vwCl (wHB cI cF cJ h fa tr rw Hb ++ (wFR cI cF cJ q0 q1 q2 q3 q4 q5 q6 q7 q8 x3)) H := hP
  have hD : va_D A (wHB cI cF cJ h fa tr rw Hb ++ (wFR cI cF cJ q0 q1 q2 q3 q4 q5 q6 q7 q8 x3)) := hD
  refine lv_aload_n hx hb dX2_tidy_19 rfl (lv_at hl 1 rfl) ?_
  refine va_get (D := (dC, dI)) (ci := 1) (v := .int (fCa x3)) (C := RX1) (T := TX1) (N := 13) hx hb hts iX1 hown hK hP 2 rfl rfl 8 (by decide) (hts _ q233) (fun _ h9 => h9) rfl dX2_tidy_20 ?_
  refine lv_iload_n hx hb dX2_tidy_23 rfl (lv_at hl 0 rfl) ?_
  refine lv_isub hx hb dX2_tidy_24 ?_
  refine lv_topi (fun v4 ev4 => ?_)
  have hf := bnd_all hf v4 ev4
  obtain rfl := Option.some.inj hf
  exact W.iret (v := v4) hx hb hr (fun t ht hW => ⟨⟨_, (), rfl, rfl, by rw [ht]; exact hP, hD⟩, hS.F ht⟩) hS.2.2 dX2_tidy_25
noncomputable def f_X2_clear (Hb : HB) (F : FR) (p0 : Int32) : Option (Int32 × FR) := obd (f_X2_foundFrame Hb p0) fun x1 => obd (f_X1_keepBeads F) fun x2 => obd (f_X1_setRods x2 0) fun x3 => bnd ((fPu x3) - (fPu F)) fun (v4 : Int32) => some (v4, x3)
theorem pc_X2_clear : yX2_clear.cls = RX2 ∧ yX2_clear.cls ≠ "java/lang/invoke/MethodHandle" ∧ yX2_clear.cls ≠ "java/lang/invoke/VarHandle" ∧ (parseMethodDescriptor yX2_clear.desc).map (fun d => d.parameters.length) = some 1 := by decide +kernel
abbrev rm_X2_clear : Room := { frames := 4, cells := 0, slots := 0, locals := 103 }
set_option maxHeartbeats 4000000 in
set_option maxRecDepth 100000 in
theorem c_X2_clear (l : Launch) (dC : Nat → ClassId) (dI : Nat → Nat → Nat) (cI cF cJ cD : ClassId) (h fa tr q0 q1 q2 q3 q4 q5 q6 q7 q8 : Nat) (rw : Nat → Option Nat) (Hb : HB) (F : FR) (p0 : Int32) (hq : f_X2_frameAt rw p0 = some (some q0)) (res : (Int32 × FR)) (hf : f_X2_clear Hb F p0 = some res) (sz : Nat) : Met l yX2_clear (ws_ yX2_clear cX2_clear 4 (some .int)) rm_X2_clear (sbPre (dC, dI) (TY cI cF cJ cD) (wHB cI cF cJ h fa tr rw Hb ++ (wFR cI cF cJ q0 q1 q2 q3 q4 q5 q6 q7 q8 F)) E0 sz [.ref h, .int p0]) (va_Qi (fun (r : Int32) (_ : Unit) => r = res.1) (sbEnd (dC, dI) (fun _ => wHB cI cF cJ h fa tr rw Hb ++ (wFR cI cF cJ q0 q1 q2 q3 q4 q5 q6 q7 q8 res.2)) (va_A (wHB cI cF cJ h fa tr rw Hb ++ (wFR cI cF cJ q0 q1 q2 q3 q4 q5 q6 q7 q8 F)) sz)) (va_A (wHB cI cF cJ h fa tr rw Hb ++ (wFR cI cF cJ q0 q1 q2 q3 q4 q5 q6 q7 q8 F)) sz)) 0 0 (va_A (wHB cI cF cJ h fa tr rw Hb ++ (wFR cI cF cJ q0 q1 q2 q3 q4 q5 q6 q7 q8 F)) sz) := by
  refine Met.ofW (cc := cX2_clear) (maxL := 4) (ret := (some .int)) (by decide) rfl ?_
  intro p e s m args below meth c s₁ B hml hv
  obtain ⟨rfl, hsz, hP, hK, hD0, hE⟩ := hv
  have hx := B.exec
  have hb := B.bytes
  have hr := B.returns
  have hts0 := atoms_spec (ws := ws_ yX2_clear cX2_clear 4 (some .int)) B.pre
  have hts := fun (w : Cond) (h : w ∈ LW) => hts0 w (List.mem_cons_of_mem _ h)
  have hown : s.vm.findClass RX2 = some m.cls := findClass_of_methodNamed B.named
  have hlocks := B.notSynchronized
  subst hsz
  have hD := hD0.self (sz := s.heap.size)
  generalize hAe : va_A (wHB cI cF cJ h fa tr rw Hb ++ (wFR cI cF cJ q0 q1 q2 q3 q4 q5 q6 q7 q8 F)) s.heap.size = A at hD ⊢
  have hA : ∀ q : Nat, s.heap.size ≤ q → A q := fun q h => by rw [← hAe]; exact Or.inr h
  have hS : va_S A s.heap s.heap [] := va_S.rf
  have hkc := Nat.zero_le rm_X2_clear.cells
  have hks := Nat.zero_le rm_X2_clear.slots
  have hl := lv_entry ([.ref h, .int p0]) (n := 4) (Nat.le_of_ble_eq_true rfl)
  rw [lg_entry_eq]
  generalize (lg_sl ([.ref h, .int p0]) ++ List.replicate (4 - (lg_sl ([.ref h, .int p0])).length) Slot.unset).toArray = ls at hl ⊢
  have hl : lv_has ls 4 [(0, .ref h), (1, .int p0)] := hl
  rw [f_X2_clear] at hf
  refine lv_aload_n hx hb dX2_clear_0 rfl (lv_at hl 0 rfl) ?_
  refine lv_iload_n hx hb dX2_clear_1 rfl (lv_at hl 1 rfl) ?_
  obtain ⟨x1, hx1, hf⟩ := obd_e hf
  refine sb_Vq (As := [.int p0]) (rest := []) ⟨hx, hb, hml, hown, hts⟩ (fun sz => c_X2_foundFrame l dC dI cI cF cJ cD h fa tr q0 rw Hb p0 hq x1 hx1 sz) (cwV 1 hts (g_V q174 q175 q176 q172 q166) rfl rfl rfl pc_X2_foundFrame ⟨Nat.le_of_ble_eq_true rfl, Nat.le_of_ble_eq_true rfl⟩) 0 2 rfl rfl hK hP hD hS hA [0, 1] [2, 3, 4, 5, 6, 7, 8, 9, 10] rfl rfl (by decide) (by decide) (by decide) (fun _ _ _ _ h => h) (fun _ _ _ => trivial) rfl rfl hl.1 (Nat.le_of_ble_eq_true rfl) dX2_clear_2 ⟨hkc, hks⟩ (fun r9 u H locs hr9 hP hD hS => ?_)
  have hr9 := Eq.symm hr9
  subst hr9
  have hP : va_P (dC, dI) vwCl (wHB cI cF cJ h fa tr rw Hb ++ (wFR cI cF cJ q0 q1 q2 q3 q4 q5 q6 q7 q8 F)) H := hP.sub [9, 10, 0, 1, 2, 3, 4, 5, 6, 7, 8] rfl
  have hD : va_D A (wHB cI cF cJ h fa tr rw Hb ++ (wFR cI cF cJ q0 q1 q2 q3 q4 q5 q6 q7 q8 F)) := hD.sub [9, 10, 0, 1, 2, 3, 4, 5, 6, 7, 8] (by decide) rfl
  refine lv_astore_n (lv' := [(2, .ref q0), (0, .ref h), (1, .int p0)]) hx hb dX2_clear_5 rfl hl (by decide) rfl (fun ls hl => ?_)
  refine lv_aload_n hx hb dX2_clear_6 rfl (lv_at hl 0 rfl) ?_
  refine va_get (D := (dC, dI)) (ci := 1) (v := .int (fPu F)) (C := RX1) (T := TX1) (N := 13) hx hb hts iX1 hown hK hP 2 rfl rfl 6 (by decide) (hts _ q195) (fun _ h9 => h9) rfl dX2_clear_7 ?_
  refine lv_istore_n (lv' := [(3, .int (fPu F)), (2, .ref q0), (0, .ref h), (1, .int p0)]) hx hb dX2_clear_10 rfl hl (by decide) rfl (fun ls hl => ?_)
  refine lv_aload_n hx hb dX2_clear_11 rfl (lv_at hl 1 rfl) ?_
  obtain ⟨x2, hx2, hf⟩ := obd_e hf
  refine sb_Vv (As := []) (rest := []) ⟨hx, hb, hml, hown, hts⟩ (fun sz => c_X1_keepBeads l dC dI cI cF cJ cD q0 q1 q2 q3 q4 q5 q6 q7 q8 F  x2 hx2 sz) (cwV 0 hts (g_V q188 q189 q190 q56 q102) rfl rfl rfl pc_X1_keepBeads ⟨Nat.le_of_ble_eq_true rfl, Nat.le_of_ble_eq_true rfl⟩) 0 1 rfl rfl hK hP hD hS hA [2, 3, 4, 5, 6, 7, 8, 9, 10] [0, 1] rfl rfl (by decide) (by decide) (by decide) (fun _ _ _ _ h => h) (fun _ _ _ => trivial) rfl rfl hl.1 (Nat.le_of_ble_eq_true rfl) dX2_clear_12 ⟨hkc, hks⟩ (fun u H locs hr9 hP hD hS => ?_)
  have hP : va_P (dC, dI) vwCl (wHB cI cF cJ h fa tr rw Hb ++ (wFR cI cF cJ q0 q1 q2 q3 q4 q5 q6 q7 q8 x2)) H := hP
  have hD : va_D A (wHB cI cF cJ h fa tr rw Hb ++ (wFR cI cF cJ q0 q1 q2 q3 q4 q5 q6 q7 q8 x2)) := hD
  refine lv_aload_n hx hb dX2_clear_15 rfl (lv_at hl 1 rfl) ?_
  refine lv_lconst (v := 0) hx hb dX2_clear_16 (by decide) ?_
  obtain ⟨x3, hx3, hf⟩ := obd_e hf
  refine sb_Vv (As := [.long 0]) (rest := []) ⟨hx, hb, hml, hown, hts⟩ (fun sz => c_X1_setRods l dC dI cI cF cJ cD q0 q1 q2 q3 q4 q5 q6 q7 q8 x2 0  x3 hx3 sz) (cwV 1 hts (g_V q238 q239 q240 q56 q86) rfl rfl rfl pc_X1_setRods ⟨Nat.le_of_ble_eq_true rfl, Nat.le_of_ble_eq_true rfl⟩) 0 1 rfl rfl hK hP hD hS hA [2, 3, 4, 5, 6, 7, 8, 9, 10] [0, 1] rfl rfl (by decide) (by decide) (by decide) (fun _ _ _ _ h => h) (fun _ _ _ => trivial) rfl rfl hl.1 (Nat.le_of_ble_eq_true rfl) dX2_clear_17 ⟨hkc, hks⟩ (fun u H locs hr9 hP hD hS => ?_)
  have hP : va_P (dC, dI) vwCl (wHB cI cF cJ h fa tr rw Hb ++ (wFR cI cF cJ q0 q1 q2 q3 q4 q5 q6 q7 q8 x3)) H := hP
  have hD : va_D A (wHB cI cF cJ h fa tr rw Hb ++ (wFR cI cF cJ q0 q1 q2 q3 q4 q5 q6 q7 q8 x3)) := hD
  refine lv_aload_n hx hb dX2_clear_20 rfl (lv_at hl 1 rfl) ?_
  refine va_get (D := (dC, dI)) (ci := 1) (v := .int (fPu x3)) (C := RX1) (T := TX1) (N := 13) hx hb hts iX1 hown hK hP 2 rfl rfl 6 (by decide) (hts _ q195) (fun _ h9 => h9) rfl dX2_clear_21 ?_
  refine lv_iload_n hx hb dX2_clear_24 rfl (lv_at hl 0 rfl) ?_
  refine lv_isub hx hb dX2_clear_25 ?_
  refine lv_topi (fun v4 ev4 => ?_)
  have hf := bnd_all hf v4 ev4
  obtain rfl := Option.some.inj hf
  exact W.iret (v := v4) hx hb hr (fun t ht hW => ⟨⟨_, (), rfl, rfl, by rw [ht]; exact hP, hD⟩, hS.F ht⟩) hS.2.2 dX2_clear_26
noncomputable def f_X2_back (Hb : HB) (F : FR) (p0 : Int32) : Option (Int32 × FR) := obd (f_X2_foundFrame Hb p0) fun x1 => if (0 : Int32) < (fKc F) then (obd (f_X1_restoreBeads F) fun x3 => some ((fKc x3), x3)) else (none)
theorem pc_X2_back : yX2_back.cls = RX2 ∧ yX2_back.cls ≠ "java/lang/invoke/MethodHandle" ∧ yX2_back.cls ≠ "java/lang/invoke/VarHandle" ∧ (parseMethodDescriptor yX2_back.desc).map (fun d => d.parameters.length) = some 1 := by decide +kernel
abbrev rm_X2_back : Room := { frames := 3, cells := 0, slots := 0, locals := 64 }
set_option maxHeartbeats 4000000 in
set_option maxRecDepth 100000 in
theorem c_X2_back (l : Launch) (dC : Nat → ClassId) (dI : Nat → Nat → Nat) (cI cF cJ cD : ClassId) (h fa tr q0 q1 q2 q3 q4 q5 q6 q7 q8 : Nat) (rw : Nat → Option Nat) (Hb : HB) (F : FR) (p0 : Int32) (hq : f_X2_frameAt rw p0 = some (some q0)) (res : (Int32 × FR)) (hf : f_X2_back Hb F p0 = some res) (sz : Nat) : Met l yX2_back (ws_ yX2_back cX2_back 3 (some .int)) rm_X2_back (sbPre (dC, dI) (TY cI cF cJ cD) (wHB cI cF cJ h fa tr rw Hb ++ (wFR cI cF cJ q0 q1 q2 q3 q4 q5 q6 q7 q8 F)) E0 sz [.ref h, .int p0]) (va_Qi (fun (r : Int32) (_ : Unit) => r = res.1) (sbEnd (dC, dI) (fun _ => wHB cI cF cJ h fa tr rw Hb ++ (wFR cI cF cJ q0 q1 q2 q3 q4 q5 q6 q7 q8 res.2)) (va_A (wHB cI cF cJ h fa tr rw Hb ++ (wFR cI cF cJ q0 q1 q2 q3 q4 q5 q6 q7 q8 F)) sz)) (va_A (wHB cI cF cJ h fa tr rw Hb ++ (wFR cI cF cJ q0 q1 q2 q3 q4 q5 q6 q7 q8 F)) sz)) 0 0 (va_A (wHB cI cF cJ h fa tr rw Hb ++ (wFR cI cF cJ q0 q1 q2 q3 q4 q5 q6 q7 q8 F)) sz) := by
  refine Met.ofW (cc := cX2_back) (maxL := 3) (ret := (some .int)) (by decide) rfl ?_
  intro p e s m args below meth c s₁ B hml hv
  obtain ⟨rfl, hsz, hP, hK, hD0, hE⟩ := hv
  have hx := B.exec
  have hb := B.bytes
  have hr := B.returns
  have hts0 := atoms_spec (ws := ws_ yX2_back cX2_back 3 (some .int)) B.pre
  have hts := fun (w : Cond) (h : w ∈ LW) => hts0 w (List.mem_cons_of_mem _ h)
  have hown : s.vm.findClass RX2 = some m.cls := findClass_of_methodNamed B.named
  have hlocks := B.notSynchronized
  subst hsz
  have hD := hD0.self (sz := s.heap.size)
  generalize hAe : va_A (wHB cI cF cJ h fa tr rw Hb ++ (wFR cI cF cJ q0 q1 q2 q3 q4 q5 q6 q7 q8 F)) s.heap.size = A at hD ⊢
  have hA : ∀ q : Nat, s.heap.size ≤ q → A q := fun q h => by rw [← hAe]; exact Or.inr h
  have hS : va_S A s.heap s.heap [] := va_S.rf
  have hkc := Nat.zero_le rm_X2_back.cells
  have hks := Nat.zero_le rm_X2_back.slots
  have hl := lv_entry ([.ref h, .int p0]) (n := 3) (Nat.le_of_ble_eq_true rfl)
  rw [lg_entry_eq]
  generalize (lg_sl ([.ref h, .int p0]) ++ List.replicate (3 - (lg_sl ([.ref h, .int p0])).length) Slot.unset).toArray = ls at hl ⊢
  have hl : lv_has ls 3 [(0, .ref h), (1, .int p0)] := hl
  rw [f_X2_back] at hf
  refine lv_aload_n hx hb dX2_back_0 rfl (lv_at hl 0 rfl) ?_
  refine lv_iload_n hx hb dX2_back_1 rfl (lv_at hl 1 rfl) ?_
  obtain ⟨x1, hx1, hf⟩ := obd_e hf
  refine sb_Vq (As := [.int p0]) (rest := []) ⟨hx, hb, hml, hown, hts⟩ (fun sz => c_X2_foundFrame l dC dI cI cF cJ cD h fa tr q0 rw Hb p0 hq x1 hx1 sz) (cwV 1 hts (g_V q174 q175 q176 q172 q166) rfl rfl rfl pc_X2_foundFrame ⟨Nat.le_of_ble_eq_true rfl, Nat.le_of_ble_eq_true rfl⟩) 0 2 rfl rfl hK hP hD hS hA [0, 1] [2, 3, 4, 5, 6, 7, 8, 9, 10] rfl rfl (by decide) (by decide) (by decide) (fun _ _ _ _ h => h) (fun _ _ _ => trivial) rfl rfl hl.1 (Nat.le_of_ble_eq_true rfl) dX2_back_2 ⟨hkc, hks⟩ (fun r9 u H locs hr9 hP hD hS => ?_)
  have hr9 := Eq.symm hr9
  subst hr9
  have hP : va_P (dC, dI) vwCl (wHB cI cF cJ h fa tr rw Hb ++ (wFR cI cF cJ q0 q1 q2 q3 q4 q5 q6 q7 q8 F)) H := hP.sub [9, 10, 0, 1, 2, 3, 4, 5, 6, 7, 8] rfl
  have hD : va_D A (wHB cI cF cJ h fa tr rw Hb ++ (wFR cI cF cJ q0 q1 q2 q3 q4 q5 q6 q7 q8 F)) := hD.sub [9, 10, 0, 1, 2, 3, 4, 5, 6, 7, 8] (by decide) rfl
  refine lv_astore_n (lv' := [(2, .ref q0), (0, .ref h), (1, .int p0)]) hx hb dX2_back_5 rfl hl (by decide) rfl (fun ls hl => ?_)
  refine lv_aload_n hx hb dX2_back_6 rfl (lv_at hl 0 rfl) ?_
  refine va_get (D := (dC, dI)) (ci := 1) (v := .int (fKc F)) (C := RX1) (T := TX1) (N := 13) hx hb hts iX1 hown hK hP 2 rfl rfl 11 (by decide) (hts _ q243) (fun _ h9 => h9) rfl dX2_back_7 ?_
  refine lv_if_gt (tgt := 23) hx hb dX2_back_10 (by decide) (fun c2 => ?_) (fun c2 => ?_)
  · have hf := ite_t hf c2
    refine lv_aload_n hx hb dX2_back_23 rfl (lv_at hl 0 rfl) ?_
    obtain ⟨x3, hx3, hf⟩ := obd_e hf
    refine sb_Vv (As := []) (rest := []) ⟨hx, hb, hml, hown, hts⟩ (fun sz => c_X1_restoreBeads l dC dI cI cF cJ cD q0 q1 q2 q3 q4 q5 q6 q7 q8 F  x3 hx3 sz) (cwV 0 hts (g_V q244 q245 q246 q56 q108) rfl rfl rfl pc_X1_restoreBeads ⟨Nat.le_of_ble_eq_true rfl, Nat.le_of_ble_eq_true rfl⟩) 0 1 rfl rfl hK hP hD hS hA [2, 3, 4, 5, 6, 7, 8, 9, 10] [0, 1] rfl rfl (by decide) (by decide) (by decide) (fun _ _ _ _ h => h) (fun _ _ _ => trivial) rfl rfl hl.1 (Nat.le_of_ble_eq_true rfl) dX2_back_24 ⟨hkc, hks⟩ (fun u H locs hr9 hP hD hS => ?_)
    have hP : va_P (dC, dI) vwCl (wHB cI cF cJ h fa tr rw Hb ++ (wFR cI cF cJ q0 q1 q2 q3 q4 q5 q6 q7 q8 x3)) H := hP
    have hD : va_D A (wHB cI cF cJ h fa tr rw Hb ++ (wFR cI cF cJ q0 q1 q2 q3 q4 q5 q6 q7 q8 x3)) := hD
    refine lv_aload_n hx hb dX2_back_27 rfl (lv_at hl 0 rfl) ?_
    refine va_get (D := (dC, dI)) (ci := 1) (v := .int (fKc x3)) (C := RX1) (T := TX1) (N := 13) hx hb hts iX1 hown hK hP 2 rfl rfl 11 (by decide) (hts _ q243) (fun _ h9 => h9) rfl dX2_back_28 ?_
    obtain rfl := Option.some.inj hf
    exact W.iret (v := (fKc x3)) hx hb hr (fun t ht hW => ⟨⟨_, (), rfl, rfl, by rw [ht]; exact hP, hD⟩, hS.F ht⟩) hS.2.2 dX2_back_31
  · have hf := ite_f hf c2
    cases hf
noncomputable def f_X2_grease (Hb : HB) (F : FR) (p0 : Int32) (p1 : Int32) : Option (Int32 × FR) := obd (f_X2_foundFrameWithRod Hb F p0 p1) fun x1 => obd (f_X1_greaseRod F p1) fun x2 => some (x2.1, x2.2)
theorem pc_X2_grease : yX2_grease.cls = RX2 ∧ yX2_grease.cls ≠ "java/lang/invoke/MethodHandle" ∧ yX2_grease.cls ≠ "java/lang/invoke/VarHandle" ∧ (parseMethodDescriptor yX2_grease.desc).map (fun d => d.parameters.length) = some 2 := by decide +kernel
abbrev rm_X2_grease : Room := { frames := 4, cells := 0, slots := 0, locals := 87 }
set_option maxHeartbeats 4000000 in
set_option maxRecDepth 100000 in
theorem c_X2_grease (l : Launch) (dC : Nat → ClassId) (dI : Nat → Nat → Nat) (cI cF cJ cD : ClassId) (h fa tr q0 q1 q2 q3 q4 q5 q6 q7 q8 : Nat) (rw : Nat → Option Nat) (Hb : HB) (F : FR) (p0 : Int32) (p1 : Int32) (hq : f_X2_frameAt rw p0 = some (some q0)) (res : (Int32 × FR)) (hf : f_X2_grease Hb F p0 p1 = some res) (sz : Nat) : Met l yX2_grease (ws_ yX2_grease cX2_grease 4 (some .int)) rm_X2_grease (sbPre (dC, dI) (TY cI cF cJ cD) (wHB cI cF cJ h fa tr rw Hb ++ (wFR cI cF cJ q0 q1 q2 q3 q4 q5 q6 q7 q8 F)) E0 sz [.ref h, .int p0, .int p1]) (va_Qi (fun (r : Int32) (_ : Unit) => r = res.1) (sbEnd (dC, dI) (fun _ => wHB cI cF cJ h fa tr rw Hb ++ (wFR cI cF cJ q0 q1 q2 q3 q4 q5 q6 q7 q8 res.2)) (va_A (wHB cI cF cJ h fa tr rw Hb ++ (wFR cI cF cJ q0 q1 q2 q3 q4 q5 q6 q7 q8 F)) sz)) (va_A (wHB cI cF cJ h fa tr rw Hb ++ (wFR cI cF cJ q0 q1 q2 q3 q4 q5 q6 q7 q8 F)) sz)) 0 0 (va_A (wHB cI cF cJ h fa tr rw Hb ++ (wFR cI cF cJ q0 q1 q2 q3 q4 q5 q6 q7 q8 F)) sz) := by
  refine Met.ofW (cc := cX2_grease) (maxL := 4) (ret := (some .int)) (by decide) rfl ?_
  intro p e s m args below meth c s₁ B hml hv
  obtain ⟨rfl, hsz, hP, hK, hD0, hE⟩ := hv
  have hx := B.exec
  have hb := B.bytes
  have hr := B.returns
  have hts0 := atoms_spec (ws := ws_ yX2_grease cX2_grease 4 (some .int)) B.pre
  have hts := fun (w : Cond) (h : w ∈ LW) => hts0 w (List.mem_cons_of_mem _ h)
  have hown : s.vm.findClass RX2 = some m.cls := findClass_of_methodNamed B.named
  have hlocks := B.notSynchronized
  subst hsz
  have hD := hD0.self (sz := s.heap.size)
  generalize hAe : va_A (wHB cI cF cJ h fa tr rw Hb ++ (wFR cI cF cJ q0 q1 q2 q3 q4 q5 q6 q7 q8 F)) s.heap.size = A at hD ⊢
  have hA : ∀ q : Nat, s.heap.size ≤ q → A q := fun q h => by rw [← hAe]; exact Or.inr h
  have hS : va_S A s.heap s.heap [] := va_S.rf
  have hkc := Nat.zero_le rm_X2_grease.cells
  have hks := Nat.zero_le rm_X2_grease.slots
  have hl := lv_entry ([.ref h, .int p0, .int p1]) (n := 4) (Nat.le_of_ble_eq_true rfl)
  rw [lg_entry_eq]
  generalize (lg_sl ([.ref h, .int p0, .int p1]) ++ List.replicate (4 - (lg_sl ([.ref h, .int p0, .int p1])).length) Slot.unset).toArray = ls at hl ⊢
  have hl : lv_has ls 4 [(0, .ref h), (1, .int p0), (2, .int p1)] := hl
  rw [f_X2_grease] at hf
  refine lv_aload_n hx hb dX2_grease_0 rfl (lv_at hl 0 rfl) ?_
  refine lv_iload_n hx hb dX2_grease_1 rfl (lv_at hl 1 rfl) ?_
  refine lv_iload_n hx hb dX2_grease_2 rfl (lv_at hl 2 rfl) ?_
  obtain ⟨x1, hx1, hf⟩ := obd_e hf
  refine sb_Vq (As := [.int p0, .int p1]) (rest := []) ⟨hx, hb, hml, hown, hts⟩ (fun sz => c_X2_foundFrameWithRod l dC dI cI cF cJ cD h fa tr q0 q1 q2 q3 q4 q5 q6 q7 q8 rw Hb F p0 p1 hq x1 hx1 sz) (cwV 2 hts (g_V q182 q183 q184 q172 q173) rfl rfl rfl pc_X2_foundFrameWithRod ⟨Nat.le_of_ble_eq_true rfl, Nat.le_of_ble_eq_true rfl⟩) 0 2 rfl rfl hK hP hD hS hA [0, 1, 2, 3, 4, 5, 6, 7, 8, 9, 10] [] rfl rfl (by decide) (by decide) (by decide) (fun _ _ _ _ h => h) (fun _ _ _ => trivial) rfl rfl hl.1 (Nat.le_of_ble_eq_true rfl) dX2_grease_3 ⟨hkc, hks⟩ (fun r9 u H locs hr9 hP hD hS => ?_)
  have hr9 := Eq.symm hr9
  subst hr9
  have hP : va_P (dC, dI) vwCl (wHB cI cF cJ h fa tr rw Hb ++ (wFR cI cF cJ q0 q1 q2 q3 q4 q5 q6 q7 q8 F)) H := hP
  have hD : va_D A (wHB cI cF cJ h fa tr rw Hb ++ (wFR cI cF cJ q0 q1 q2 q3 q4 q5 q6 q7 q8 F)) := hD
  refine lv_astore_n (lv' := [(3, .ref q0), (0, .ref h), (1, .int p0), (2, .int p1)]) hx hb dX2_grease_6 rfl hl (by decide) rfl (fun ls hl => ?_)
  refine lv_aload_n hx hb dX2_grease_7 rfl (lv_at hl 0 rfl) ?_
  refine lv_iload_n hx hb dX2_grease_8 rfl (lv_at hl 3 rfl) ?_
  obtain ⟨x2, hx2, hf⟩ := obd_e hf
  refine sb_Vi (As := [.int p1]) (rest := []) ⟨hx, hb, hml, hown, hts⟩ (fun sz => c_X1_greaseRod l dC dI cI cF cJ cD q0 q1 q2 q3 q4 q5 q6 q7 q8 F p1  x2 hx2 sz) (cwV 1 hts (g_V q248 q249 q250 q56 q112) rfl rfl rfl pc_X1_greaseRod ⟨Nat.le_of_ble_eq_true rfl, Nat.le_of_ble_eq_true rfl⟩) 0 1 rfl rfl hK hP hD hS hA [2, 3, 4, 5, 6, 7, 8, 9, 10] [0, 1] rfl rfl (by decide) (by decide) (by decide) (fun _ _ _ _ h => h) (fun _ _ _ => trivial) rfl rfl hl.1 (Nat.le_of_ble_eq_true rfl) dX2_grease_9 ⟨hkc, hks⟩ (fun r9 u H locs hr9 hP hD hS => ?_)
  have hr9 := Eq.symm hr9
  subst hr9
  have hP : va_P (dC, dI) vwCl (wHB cI cF cJ h fa tr rw Hb ++ (wFR cI cF cJ q0 q1 q2 q3 q4 q5 q6 q7 q8 x2.2)) H := hP
  have hD : va_D A (wHB cI cF cJ h fa tr rw Hb ++ (wFR cI cF cJ q0 q1 q2 q3 q4 q5 q6 q7 q8 x2.2)) := hD
  obtain rfl := Option.some.inj hf
  exact W.iret (v := x2.1) hx hb hr (fun t ht hW => ⟨⟨_, (), rfl, rfl, by rw [ht]; exact hP, hD⟩, hS.F ht⟩) hS.2.2 dX2_grease_12
noncomputable def f_X2_number (Hb : HB) (F : FR) (p0 : Int32) : Option (Int64) := obd (f_X2_foundFrame Hb p0) fun x1 => obd (f_X1_shownNumber F) fun x2 => some x2
theorem pc_X2_number : yX2_number.cls = RX2 ∧ yX2_number.cls ≠ "java/lang/invoke/MethodHandle" ∧ yX2_number.cls ≠ "java/lang/invoke/VarHandle" ∧ (parseMethodDescriptor yX2_number.desc).map (fun d => d.parameters.length) = some 1 := by decide +kernel
abbrev rm_X2_number : Room := { frames := 4, cells := 0, slots := 0, locals := 86 }
set_option maxHeartbeats 4000000 in
set_option maxRecDepth 100000 in
theorem c_X2_number (l : Launch) (dC : Nat → ClassId) (dI : Nat → Nat → Nat) (cI cF cJ cD : ClassId) (h fa tr q0 q1 q2 q3 q4 q5 q6 q7 q8 : Nat) (rw : Nat → Option Nat) (Hb : HB) (F : FR) (p0 : Int32) (hq : f_X2_frameAt rw p0 = some (some q0)) (res : (Int64)) (hf : f_X2_number Hb F p0 = some res) (sz : Nat) : Met l yX2_number (ws_ yX2_number cX2_number 3 (some .long)) rm_X2_number (sbPre (dC, dI) (TY cI cF cJ cD) (wHB cI cF cJ h fa tr rw Hb ++ (wFR cI cF cJ q0 q1 q2 q3 q4 q5 q6 q7 q8 F)) E0 sz [.ref h, .int p0]) (va_Ql (fun (r : Int64) (_ : Unit) => r = res) (sbEnd (dC, dI) (fun _ => wHB cI cF cJ h fa tr rw Hb ++ (wFR cI cF cJ q0 q1 q2 q3 q4 q5 q6 q7 q8 F)) (va_A (wHB cI cF cJ h fa tr rw Hb ++ (wFR cI cF cJ q0 q1 q2 q3 q4 q5 q6 q7 q8 F)) sz)) (va_A (wHB cI cF cJ h fa tr rw Hb ++ (wFR cI cF cJ q0 q1 q2 q3 q4 q5 q6 q7 q8 F)) sz)) 0 0 (va_A (wHB cI cF cJ h fa tr rw Hb ++ (wFR cI cF cJ q0 q1 q2 q3 q4 q5 q6 q7 q8 F)) sz) := by
  refine Met.ofW (cc := cX2_number) (maxL := 3) (ret := (some .long)) (by decide) rfl ?_
  intro p e s m args below meth c s₁ B hml hv
  obtain ⟨rfl, hsz, hP, hK, hD0, hE⟩ := hv
  have hx := B.exec
  have hb := B.bytes
  have hr := B.returns
  have hts0 := atoms_spec (ws := ws_ yX2_number cX2_number 3 (some .long)) B.pre
  have hts := fun (w : Cond) (h : w ∈ LW) => hts0 w (List.mem_cons_of_mem _ h)
  have hown : s.vm.findClass RX2 = some m.cls := findClass_of_methodNamed B.named
  have hlocks := B.notSynchronized
  subst hsz
  have hD := hD0.self (sz := s.heap.size)
  generalize hAe : va_A (wHB cI cF cJ h fa tr rw Hb ++ (wFR cI cF cJ q0 q1 q2 q3 q4 q5 q6 q7 q8 F)) s.heap.size = A at hD ⊢
  have hA : ∀ q : Nat, s.heap.size ≤ q → A q := fun q h => by rw [← hAe]; exact Or.inr h
  have hS : va_S A s.heap s.heap [] := va_S.rf
  have hkc := Nat.zero_le rm_X2_number.cells
  have hks := Nat.zero_le rm_X2_number.slots
  have hl := lv_entry ([.ref h, .int p0]) (n := 3) (Nat.le_of_ble_eq_true rfl)
  rw [lg_entry_eq]
  generalize (lg_sl ([.ref h, .int p0]) ++ List.replicate (3 - (lg_sl ([.ref h, .int p0])).length) Slot.unset).toArray = ls at hl ⊢
  have hl : lv_has ls 3 [(0, .ref h), (1, .int p0)] := hl
  rw [f_X2_number] at hf
  refine lv_aload_n hx hb dX2_number_0 rfl (lv_at hl 0 rfl) ?_
  refine lv_iload_n hx hb dX2_number_1 rfl (lv_at hl 1 rfl) ?_
  obtain ⟨x1, hx1, hf⟩ := obd_e hf
  refine sb_Vq (As := [.int p0]) (rest := []) ⟨hx, hb, hml, hown, hts⟩ (fun sz => c_X2_foundFrame l dC dI cI cF cJ cD h fa tr q0 rw Hb p0 hq x1 hx1 sz) (cwV 1 hts (g_V q174 q175 q176 q172 q166) rfl rfl rfl pc_X2_foundFrame ⟨Nat.le_of_ble_eq_true rfl, Nat.le_of_ble_eq_true rfl⟩) 0 2 rfl rfl hK hP hD hS hA [0, 1] [2, 3, 4, 5, 6, 7, 8, 9, 10] rfl rfl (by decide) (by decide) (by decide) (fun _ _ _ _ h => h) (fun _ _ _ => trivial) rfl rfl hl.1 (Nat.le_of_ble_eq_true rfl) dX2_number_2 ⟨hkc, hks⟩ (fun r9 u H locs hr9 hP hD hS => ?_)
  have hr9 := Eq.symm hr9
  subst hr9
  have hP : va_P (dC, dI) vwCl (wHB cI cF cJ h fa tr rw Hb ++ (wFR cI cF cJ q0 q1 q2 q3 q4 q5 q6 q7 q8 F)) H := hP.sub [9, 10, 0, 1, 2, 3, 4, 5, 6, 7, 8] rfl
  have hD : va_D A (wHB cI cF cJ h fa tr rw Hb ++ (wFR cI cF cJ q0 q1 q2 q3 q4 q5 q6 q7 q8 F)) := hD.sub [9, 10, 0, 1, 2, 3, 4, 5, 6, 7, 8] (by decide) rfl
  refine lv_astore_n (lv' := [(2, .ref q0), (0, .ref h), (1, .int p0)]) hx hb dX2_number_5 rfl hl (by decide) rfl (fun ls hl => ?_)
  refine lv_aload_n hx hb dX2_number_6 rfl (lv_at hl 0 rfl) ?_
  obtain ⟨x2, hx2, hf⟩ := obd_e hf
  refine sb_Vl (As := []) (rest := []) ⟨hx, hb, hml, hown, hts⟩ (fun sz => c_X1_shownNumber l dC dI cI cF cJ cD q0 q1 q2 q3 q4 q5 q6 q7 q8 F  x2 hx2 sz) (cwV 0 hts (g_V q212 q131 q132 q56 q52) rfl rfl rfl pc_X1_shownNumber ⟨Nat.le_of_ble_eq_true rfl, Nat.le_of_ble_eq_true rfl⟩) 0 1 rfl rfl hK hP hD hS hA [2, 3, 4, 5, 6, 7, 8, 9, 10] [0, 1] rfl rfl (by decide) (by decide) (by decide) (fun _ _ _ _ h => h) (fun _ _ _ => trivial) rfl rfl hl.1 (Nat.le_of_ble_eq_true rfl) dX2_number_7 ⟨hkc, hks⟩ (fun r9 u H locs hr9 hP hD hS => ?_)
  have hr9 := Eq.symm hr9
  subst hr9
  have hP : va_P (dC, dI) vwCl (wHB cI cF cJ h fa tr rw Hb ++ (wFR cI cF cJ q0 q1 q2 q3 q4 q5 q6 q7 q8 F)) H := hP
  have hD : va_D A (wHB cI cF cJ h fa tr rw Hb ++ (wFR cI cF cJ q0 q1 q2 q3 q4 q5 q6 q7 q8 F)) := hD
  obtain rfl := Option.some.inj hf
  exact W.lret (v := x2) hx hb hr (fun t ht hW => ⟨⟨_, (), rfl, rfl, by rw [ht]; exact hP, hD⟩, hS.F ht⟩) hS.2.2 dX2_number_10
noncomputable def f_X2_ofFrame (Hb : HB) (F : FR) (p0 : Int32) (p1 : Int32) : Option (Int32) := obd (f_X2_foundFrame Hb p0) fun x1 => obd (f_X2_refuseUnlessBelow p1 13) fun x2 => obd (f_X1_factOfFrame F p1) fun x3 => some x3
theorem pc_X2_ofFrame : yX2_ofFrame.cls = RX2 ∧ yX2_ofFrame.cls ≠ "java/lang/invoke/MethodHandle" ∧ yX2_ofFrame.cls ≠ "java/lang/invoke/VarHandle" ∧ (parseMethodDescriptor yX2_ofFrame.desc).map (fun d => d.parameters.length) = some 2 := by decide +kernel
abbrev rm_X2_ofFrame : Room := { frames := 5, cells := 0, slots := 0, locals := 107 }
set_option maxHeartbeats 4000000 in
set_option maxRecDepth 100000 in
theorem c_X2_ofFrame (l : Launch) (dC : Nat → ClassId) (dI : Nat → Nat → Nat) (cI cF cJ cD : ClassId) (h fa tr q0 q1 q2 q3 q4 q5 q6 q7 q8 : Nat) (rw : Nat → Option Nat) (Hb : HB) (F : FR) (p0 : Int32) (p1 : Int32) (hq : f_X2_frameAt rw p0 = some (some q0)) (res : (Int32)) (hf : f_X2_ofFrame Hb F p0 p1 = some res) (sz : Nat) : Met l yX2_ofFrame (ws_ yX2_ofFrame cX2_ofFrame 4 (some .int)) rm_X2_ofFrame (sbPre (dC, dI) (TY cI cF cJ cD) (wHB cI cF cJ h fa tr rw Hb ++ (wFR cI cF cJ q0 q1 q2 q3 q4 q5 q6 q7 q8 F)) E0 sz [.ref h, .int p0, .int p1]) (va_Qi (fun (r : Int32) (_ : Unit) => r = res) (sbEnd (dC, dI) (fun _ => wHB cI cF cJ h fa tr rw Hb ++ (wFR cI cF cJ q0 q1 q2 q3 q4 q5 q6 q7 q8 F)) (va_A (wHB cI cF cJ h fa tr rw Hb ++ (wFR cI cF cJ q0 q1 q2 q3 q4 q5 q6 q7 q8 F)) sz)) (va_A (wHB cI cF cJ h fa tr rw Hb ++ (wFR cI cF cJ q0 q1 q2 q3 q4 q5 q6 q7 q8 F)) sz)) 0 0 (va_A (wHB cI cF cJ h fa tr rw Hb ++ (wFR cI cF cJ q0 q1 q2 q3 q4 q5 q6 q7 q8 F)) sz) := by
  refine Met.ofW (cc := cX2_ofFrame) (maxL := 4) (ret := (some .int)) (by decide) rfl ?_
  intro p e s m args below meth c s₁ B hml hv
  obtain ⟨rfl, hsz, hP, hK, hD0, hE⟩ := hv
  have hx := B.exec
  have hb := B.bytes
  have hr := B.returns
  have hts0 := atoms_spec (ws := ws_ yX2_ofFrame cX2_ofFrame 4 (some .int)) B.pre
  have hts := fun (w : Cond) (h : w ∈ LW) => hts0 w (List.mem_cons_of_mem _ h)
  have hown : s.vm.findClass RX2 = some m.cls := findClass_of_methodNamed B.named
  have hlocks := B.notSynchronized
  subst hsz
  have hD := hD0.self (sz := s.heap.size)
  generalize hAe : va_A (wHB cI cF cJ h fa tr rw Hb ++ (wFR cI cF cJ q0 q1 q2 q3 q4 q5 q6 q7 q8 F)) s.heap.size = A at hD ⊢
  have hA : ∀ q : Nat, s.heap.size ≤ q → A q := fun q h => by rw [← hAe]; exact Or.inr h
  have hS : va_S A s.heap s.heap [] := va_S.rf
  have hkc := Nat.zero_le rm_X2_ofFrame.cells
  have hks := Nat.zero_le rm_X2_ofFrame.slots
  have hl := lv_entry ([.ref h, .int p0, .int p1]) (n := 4) (Nat.le_of_ble_eq_true rfl)
  rw [lg_entry_eq]
  generalize (lg_sl ([.ref h, .int p0, .int p1]) ++ List.replicate (4 - (lg_sl ([.ref h, .int p0, .int p1])).length) Slot.unset).toArray = ls at hl ⊢
  have hl : lv_has ls 4 [(0, .ref h), (1, .int p0), (2, .int p1)] := hl
  rw [f_X2_ofFrame] at hf
  refine lv_aload_n hx hb dX2_ofFrame_0 rfl (lv_at hl 0 rfl) ?_
  refine lv_iload_n hx hb dX2_ofFrame_1 rfl (lv_at hl 1 rfl) ?_
  obtain ⟨x1, hx1, hf⟩ := obd_e hf
  refine sb_Vq (As := [.int p0]) (rest := []) ⟨hx, hb, hml, hown, hts⟩ (fun sz => c_X2_foundFrame l dC dI cI cF cJ cD h fa tr q0 rw Hb p0 hq x1 hx1 sz) (cwV 1 hts (g_V q174 q175 q176 q172 q166) rfl rfl rfl pc_X2_foundFrame ⟨Nat.le_of_ble_eq_true rfl, Nat.le_of_ble_eq_true rfl⟩) 0 2 rfl rfl hK hP hD hS hA [0, 1] [2, 3, 4, 5, 6, 7, 8, 9, 10] rfl rfl (by decide) (by decide) (by decide) (fun _ _ _ _ h => h) (fun _ _ _ => trivial) rfl rfl hl.1 (Nat.le_of_ble_eq_true rfl) dX2_ofFrame_2 ⟨hkc, hks⟩ (fun r9 u H locs hr9 hP hD hS => ?_)
  have hr9 := Eq.symm hr9
  subst hr9
  have hP : va_P (dC, dI) vwCl (wHB cI cF cJ h fa tr rw Hb ++ (wFR cI cF cJ q0 q1 q2 q3 q4 q5 q6 q7 q8 F)) H := hP.sub [9, 10, 0, 1, 2, 3, 4, 5, 6, 7, 8] rfl
  have hD : va_D A (wHB cI cF cJ h fa tr rw Hb ++ (wFR cI cF cJ q0 q1 q2 q3 q4 q5 q6 q7 q8 F)) := hD.sub [9, 10, 0, 1, 2, 3, 4, 5, 6, 7, 8] (by decide) rfl
  refine lv_astore_n (lv' := [(3, .ref q0), (0, .ref h), (1, .int p0), (2, .int p1)]) hx hb dX2_ofFrame_5 rfl hl (by decide) rfl (fun ls hl => ?_)
  refine lv_iload_n hx hb dX2_ofFrame_6 rfl (lv_at hl 3 rfl) ?_
  refine lv_bipush (v := 13) hx hb dX2_ofFrame_7 (by decide) ?_
  obtain ⟨x2, hx2, hf⟩ := obd_e hf
  refine sb_Sv (As := [.int p1, .int 13]) (rest := []) ⟨hx, hb, hml, hown, hts⟩ (fun sz => c_X2_refuseUnlessBelow l dC dI cI cF cJ cD  p1 13  x2 hx2 sz) (va_cwS 2 hts (g_S q254 q255 q172 q253) rfl rfl rfl ps_X2_refuseUnlessBelow ⟨Nat.le_of_ble_eq_true rfl, Nat.le_of_ble_eq_true rfl⟩)  hK hP hD hS hA [] [0, 1, 2, 3, 4, 5, 6, 7, 8, 9, 10] rfl rfl (by decide) (by decide) (by decide) (fun _ _ _ _ h => h) (fun _ _ _ => trivial) rfl rfl hl.1 (Nat.le_of_ble_eq_true rfl) dX2_ofFrame_9 ⟨hkc, hks⟩ (fun u H locs hr9 hP hD hS => ?_)
  have hP : va_P (dC, dI) vwCl (wHB cI cF cJ h fa tr rw Hb ++ (wFR cI cF cJ q0 q1 q2 q3 q4 q5 q6 q7 q8 F)) H := hP
  have hD : va_D A (wHB cI cF cJ h fa tr rw Hb ++ (wFR cI cF cJ q0 q1 q2 q3 q4 q5 q6 q7 q8 F)) := hD
  refine lv_aload_n hx hb dX2_ofFrame_12 rfl (lv_at hl 0 rfl) ?_
  refine lv_iload_n hx hb dX2_ofFrame_13 rfl (lv_at hl 3 rfl) ?_
  obtain ⟨x3, hx3, hf⟩ := obd_e hf
  refine sb_Vi (As := [.int p1]) (rest := []) ⟨hx, hb, hml, hown, hts⟩ (fun sz => c_X1_factOfFrame l dC dI cI cF cJ cD q0 q1 q2 q3 q4 q5 q6 q7 q8 F p1  x3 hx3 sz) (cwV 1 hts (g_V q256 q257 q258 q56 q136) rfl rfl rfl pc_X1_factOfFrame ⟨Nat.le_of_ble_eq_true rfl, Nat.le_of_ble_eq_true rfl⟩) 0 1 rfl rfl hK hP hD hS hA [2, 3, 4, 5, 6, 7, 8, 9, 10] [0, 1] rfl rfl (by decide) (by decide) (by decide) (fun _ _ _ _ h => h) (fun _ _ _ => trivial) rfl rfl hl.1 (Nat.le_of_ble_eq_true rfl) dX2_ofFrame_14 ⟨hkc, hks⟩ (fun r9 u H locs hr9 hP hD hS => ?_)
  have hr9 := Eq.symm hr9
  subst hr9
  have hP : va_P (dC, dI) vwCl (wHB cI cF cJ h fa tr rw Hb ++ (wFR cI cF cJ q0 q1 q2 q3 q4 q5 q6 q7 q8 F)) H := hP
  have hD : va_D A (wHB cI cF cJ h fa tr rw Hb ++ (wFR cI cF cJ q0 q1 q2 q3 q4 q5 q6 q7 q8 F)) := hD
  obtain rfl := Option.some.inj hf
  exact W.iret (v := x3) hx hb hr (fun t ht hW => ⟨⟨_, (), rfl, rfl, by rw [ht]; exact hP, hD⟩, hS.F ht⟩) hS.2.2 dX2_ofFrame_17
noncomputable def f_X2_seconds (Hb : HB) (F : FR) (p0 : Int32) : Option (UInt64) := obd (f_X2_foundFrame Hb p0) fun x1 => gd (nn64 (FP.f2d (fSe F))) <| bnd (FP.f2d (fSe F)) fun (v3 : UInt64) => some v3
theorem pc_X2_seconds : yX2_seconds.cls = RX2 ∧ yX2_seconds.cls ≠ "java/lang/invoke/MethodHandle" ∧ yX2_seconds.cls ≠ "java/lang/invoke/VarHandle" ∧ (parseMethodDescriptor yX2_seconds.desc).map (fun d => d.parameters.length) = some 1 := by decide +kernel
abbrev rm_X2_seconds : Room := { frames := 3, cells := 0, slots := 0, locals := 64 }
set_option maxHeartbeats 4000000 in
set_option maxRecDepth 100000 in
theorem c_X2_seconds (l : Launch) (dC : Nat → ClassId) (dI : Nat → Nat → Nat) (cI cF cJ cD : ClassId) (h fa tr q0 q1 q2 q3 q4 q5 q6 q7 q8 : Nat) (rw : Nat → Option Nat) (Hb : HB) (F : FR) (p0 : Int32) (hq : f_X2_frameAt rw p0 = some (some q0)) (res : (UInt64)) (hf : f_X2_seconds Hb F p0 = some res) (sz : Nat) : Met l yX2_seconds (ws_ yX2_seconds cX2_seconds 3 (some .double)) rm_X2_seconds (sbPre (dC, dI) (TY cI cF cJ cD) (wHB cI cF cJ h fa tr rw Hb ++ (wFR cI cF cJ q0 q1 q2 q3 q4 q5 q6 q7 q8 F)) E0 sz [.ref h, .int p0]) (va_Qd (fun (r : UInt64) (_ : Unit) => r = res) (sbEnd (dC, dI) (fun _ => wHB cI cF cJ h fa tr rw Hb ++ (wFR cI cF cJ q0 q1 q2 q3 q4 q5 q6 q7 q8 F)) (va_A (wHB cI cF cJ h fa tr rw Hb ++ (wFR cI cF cJ q0 q1 q2 q3 q4 q5 q6 q7 q8 F)) sz)) (va_A (wHB cI cF cJ h fa tr rw Hb ++ (wFR cI cF cJ q0 q1 q2 q3 q4 q5 q6 q7 q8 F)) sz)) 0 0 (va_A (wHB cI cF cJ h fa tr rw Hb ++ (wFR cI cF cJ q0 q1 q2 q3 q4 q5 q6 q7 q8 F)) sz) := by
  refine Met.ofW (cc := cX2_seconds) (maxL := 3) (ret := (some .double)) (by decide) rfl ?_
  intro p e s m args below meth c s₁ B hml hv
  obtain ⟨rfl, hsz, hP, hK, hD0, hE⟩ := hv
  have hx := B.exec
  have hb := B.bytes
  have hr := B.returns
  have hts0 := atoms_spec (ws := ws_ yX2_seconds cX2_seconds 3 (some .double)) B.pre
  have hts := fun (w : Cond) (h : w ∈ LW) => hts0 w (List.mem_cons_of_mem _ h)
  have hown : s.vm.findClass RX2 = some m.cls := findClass_of_methodNamed B.named
  have hlocks := B.notSynchronized
  subst hsz
  have hD := hD0.self (sz := s.heap.size)
  generalize hAe : va_A (wHB cI cF cJ h fa tr rw Hb ++ (wFR cI cF cJ q0 q1 q2 q3 q4 q5 q6 q7 q8 F)) s.heap.size = A at hD ⊢
  have hA : ∀ q : Nat, s.heap.size ≤ q → A q := fun q h => by rw [← hAe]; exact Or.inr h
  have hS : va_S A s.heap s.heap [] := va_S.rf
  have hkc := Nat.zero_le rm_X2_seconds.cells
  have hks := Nat.zero_le rm_X2_seconds.slots
  have hl := lv_entry ([.ref h, .int p0]) (n := 3) (Nat.le_of_ble_eq_true rfl)
  rw [lg_entry_eq]
  generalize (lg_sl ([.ref h, .int p0]) ++ List.replicate (3 - (lg_sl ([.ref h, .int p0])).length) Slot.unset).toArray = ls at hl ⊢
  have hl : lv_has ls 3 [(0, .ref h), (1, .int p0)] := hl
  rw [f_X2_seconds] at hf
  refine lv_aload_n hx hb dX2_seconds_0 rfl (lv_at hl 0 rfl) ?_
  refine lv_iload_n hx hb dX2_seconds_1 rfl (lv_at hl 1 rfl) ?_
  obtain ⟨x1, hx1, hf⟩ := obd_e hf
  refine sb_Vq (As := [.int p0]) (rest := []) ⟨hx, hb, hml, hown, hts⟩ (fun sz => c_X2_foundFrame l dC dI cI cF cJ cD h fa tr q0 rw Hb p0 hq x1 hx1 sz) (cwV 1 hts (g_V q174 q175 q176 q172 q166) rfl rfl rfl pc_X2_foundFrame ⟨Nat.le_of_ble_eq_true rfl, Nat.le_of_ble_eq_true rfl⟩) 0 2 rfl rfl hK hP hD hS hA [0, 1] [2, 3, 4, 5, 6, 7, 8, 9, 10] rfl rfl (by decide) (by decide) (by decide) (fun _ _ _ _ h => h) (fun _ _ _ => trivial) rfl rfl hl.1 (Nat.le_of_ble_eq_true rfl) dX2_seconds_2 ⟨hkc, hks⟩ (fun r9 u H locs hr9 hP hD hS => ?_)
  have hr9 := Eq.symm hr9
  subst hr9
  have hP : va_P (dC, dI) vwCl (wHB cI cF cJ h fa tr rw Hb ++ (wFR cI cF cJ q0 q1 q2 q3 q4 q5 q6 q7 q8 F)) H := hP.sub [9, 10, 0, 1, 2, 3, 4, 5, 6, 7, 8] rfl
  have hD : va_D A (wHB cI cF cJ h fa tr rw Hb ++ (wFR cI cF cJ q0 q1 q2 q3 q4 q5 q6 q7 q8 F)) := hD.sub [9, 10, 0, 1, 2, 3, 4, 5, 6, 7, 8] (by decide) rfl
  refine lv_astore_n (lv' := [(2, .ref q0), (0, .ref h), (1, .int p0)]) hx hb dX2_seconds_5 rfl hl (by decide) rfl (fun ls hl => ?_)
  refine lv_aload_n hx hb dX2_seconds_6 rfl (lv_at hl 0 rfl) ?_
  refine va_get (D := (dC, dI)) (ci := 1) (v := .float (fSe F)) (C := RX1) (T := TX1) (N := 13) hx hb hts iX1 hown hK hP 2 rfl rfl 5 (by decide) (hts _ q261) (fun _ h9 => h9) rfl dX2_seconds_7 ?_
  obtain ⟨g2, hf⟩ := gd_e hf
  refine lv_f2d hx hb dX2_seconds_10 (nn64_e g2) ?_
  refine lv_topd (fun v3 ev3 => ?_)
  have hf := bnd_all hf v3 ev3
  obtain rfl := Option.some.inj hf
  exact W.dret (v := v3) hx hb hr (fun t ht hW => ⟨⟨_, (), rfl, rfl, by rw [ht]; exact hP, hD⟩, hS.F ht⟩) hS.2.2 dX2_seconds_11
noncomputable def f_X2_show (Hb : HB) (F : FR) (F2 : FR) (p0 : Int32) (p1 : Int32) : Option (Int32 × FR) := obd (f_X2_foundFrame Hb p0) fun x1 => obd (f_X1_shownNumber F) fun x2 => obd (f_X2_foundFrame Hb p1) fun x3 => obd (f_X1_hasRodsFor F2 x2) fun x4 => if x4 = 0 then (some ((-2), F2)) else (obd (f_X1_keepBeads F2) fun x6 => obd (f_X1_setRods x6 x2) fun x7 => bnd ((fPu x7) - (fPu F2)) fun (v8 : Int32) => some (v8, x7))
theorem pc_X2_show : yX2_show.cls = RX2 ∧ yX2_show.cls ≠ "java/lang/invoke/MethodHandle" ∧ yX2_show.cls ≠ "java/lang/invoke/VarHandle" ∧ (parseMethodDescriptor yX2_show.desc).map (fun d => d.parameters.length) = some 2 := by decide +kernel
abbrev rm_X2_show : Room := { frames := 4, cells := 0, slots := 0, locals := 103 }
set_option maxHeartbeats 4000000 in
set_option maxRecDepth 100000 in
theorem c_X2_show (l : Launch) (dC : Nat → ClassId) (dI : Nat → Nat → Nat) (cI cF cJ cD : ClassId) (h fa tr q0 q1 q2 q3 q4 q5 q6 q7 q8 r0 r1 r2 r3 r4 r5 r6 r7 r8 : Nat) (rw : Nat → Option Nat) (Hb : HB) (F : FR) (F2 : FR) (p0 : Int32) (p1 : Int32) (hq : f_X2_frameAt rw p0 = some (some q0)) (hq2 : f_X2_frameAt rw p1 = some (some r0)) (res : (Int32 × FR)) (hf : f_X2_show Hb F F2 p0 p1 = some res) (sz : Nat) : Met l yX2_show (ws_ yX2_show cX2_show 7 (some .int)) rm_X2_show (sbPre (dC, dI) (TY cI cF cJ cD) (wHB cI cF cJ h fa tr rw Hb ++ (wFR cI cF cJ q0 q1 q2 q3 q4 q5 q6 q7 q8 F ++ (wFR cI cF cJ r0 r1 r2 r3 r4 r5 r6 r7 r8 F2))) E0 sz [.ref h, .int p0, .int p1]) (va_Qi (fun (r : Int32) (_ : Unit) => r = res.1) (sbEnd (dC, dI) (fun _ => wHB cI cF cJ h fa tr rw Hb ++ (wFR cI cF cJ q0 q1 q2 q3 q4 q5 q6 q7 q8 F ++ (wFR cI cF cJ r0 r1 r2 r3 r4 r5 r6 r7 r8 res.2))) (va_A (wHB cI cF cJ h fa tr rw Hb ++ (wFR cI cF cJ q0 q1 q2 q3 q4 q5 q6 q7 q8 F ++ (wFR cI cF cJ r0 r1 r2 r3 r4 r5 r6 r7 r8 F2))) sz)) (va_A (wHB cI cF cJ h fa tr rw Hb ++ (wFR cI cF cJ q0 q1 q2 q3 q4 q5 q6 q7 q8 F ++ (wFR cI cF cJ r0 r1 r2 r3 r4 r5 r6 r7 r8 F2))) sz)) 0 0 (va_A (wHB cI cF cJ h fa tr rw Hb ++ (wFR cI cF cJ q0 q1 q2 q3 q4 q5 q6 q7 q8 F ++ (wFR cI cF cJ r0 r1 r2 r3 r4 r5 r6 r7 r8 F2))) sz) := by
  refine Met.ofW (cc := cX2_show) (maxL := 7) (ret := (some .int)) (by decide) rfl ?_
  intro p e s m args below meth c s₁ B hml hv
  obtain ⟨rfl, hsz, hP, hK, hD0, hE⟩ := hv
  have hx := B.exec
  have hb := B.bytes
  have hr := B.returns
  have hts0 := atoms_spec (ws := ws_ yX2_show cX2_show 7 (some .int)) B.pre
  have hts := fun (w : Cond) (h : w ∈ LW) => hts0 w (List.mem_cons_of_mem _ h)
  have hown : s.vm.findClass RX2 = some m.cls := findClass_of_methodNamed B.named
  have hlocks := B.notSynchronized
  subst hsz
  have hD := hD0.self (sz := s.heap.size)
  generalize hAe : va_A (wHB cI cF cJ h fa tr rw Hb ++ (wFR cI cF cJ q0 q1 q2 q3 q4 q5 q6 q7 q8 F ++ (wFR cI cF cJ r0 r1 r2 r3 r4 r5 r6 r7 r8 F2))) s.heap.size = A at hD ⊢
  have hA : ∀ q : Nat, s.heap.size ≤ q → A q := fun q h => by rw [← hAe]; exact Or.inr h
  have hS : va_S A s.heap s.heap [] := va_S.rf
  have hkc := Nat.zero_le rm_X2_show.cells
  have hks := Nat.zero_le rm_X2_show.slots
  have hl := lv_entry ([.ref h, .int p0, .int p1]) (n := 7) (Nat.le_of_ble_eq_true rfl)
  rw [lg_entry_eq]
  generalize (lg_sl ([.ref h, .int p0, .int p1]) ++ List.replicate (7 - (lg_sl ([.ref h, .int p0, .int p1])).length) Slot.unset).toArray = ls at hl ⊢
  have hl : lv_has ls 7 [(0, .ref h), (1, .int p0), (2, .int p1)] := hl
  rw [f_X2_show] at hf
  refine lv_aload_n hx hb dX2_show_0 rfl (lv_at hl 0 rfl) ?_
  refine lv_iload_n hx hb dX2_show_1 rfl (lv_at hl 1 rfl) ?_
  obtain ⟨x1, hx1, hf⟩ := obd_e hf
  refine sb_Vq (As := [.int p0]) (rest := []) ⟨hx, hb, hml, hown, hts⟩ (fun sz => c_X2_foundFrame l dC dI cI cF cJ cD h fa tr q0 rw Hb p0 hq x1 hx1 sz) (cwV 1 hts (g_V q174 q175 q176 q172 q166) rfl rfl rfl pc_X2_foundFrame ⟨Nat.le_of_ble_eq_true rfl, Nat.le_of_ble_eq_true rfl⟩) 0 2 rfl rfl hK hP hD hS hA [0, 1] [2, 3, 4, 5, 6, 7, 8, 9, 10, 11, 12, 13, 14, 15, 16, 17, 18, 19] rfl rfl (by decide) (by decide) (by decide) (fun _ _ _ _ h => h) (fun _ _ _ => trivial) rfl rfl hl.1 (Nat.le_of_ble_eq_true rfl) dX2_show_2 ⟨hkc, hks⟩ (fun r9 u H locs hr9 hP hD hS => ?_)
  have hr9 := Eq.symm hr9
  subst hr9
  have hP : va_P (dC, dI) vwCl (wHB cI cF cJ h fa tr rw Hb ++ (wFR cI cF cJ q0 q1 q2 q3 q4 q5 q6 q7 q8 F ++ (wFR cI cF cJ r0 r1 r2 r3 r4 r5 r6 r7 r8 F2))) H := hP.sub [18, 19, 0, 1, 2, 3, 4, 5, 6, 7, 8, 9, 10, 11, 12, 13, 14, 15, 16, 17] rfl
  have hD : va_D A (wHB cI cF cJ h fa tr rw Hb ++ (wFR cI cF cJ q0 q1 q2 q3 q4 q5 q6 q7 q8 F ++ (wFR cI cF cJ r0 r1 r2 r3 r4 r5 r6 r7 r8 F2))) := hD.sub [18, 19, 0, 1, 2, 3, 4, 5, 6, 7, 8, 9, 10, 11, 12, 13, 14, 15, 16, 17] (by decide) rfl
  obtain ⟨x2, hx2, hf⟩ := obd_e hf
  refine sb_Vl (As := []) (rest := []) ⟨hx, hb, hml, hown, hts⟩ (fun sz => c_X1_shownNumber l dC dI cI cF cJ cD q0 q1 q2 q3 q4 q5 q6 q7 q8 F  x2 hx2 sz) (cwV 0 hts (g_V q212 q131 q132 q56 q52) rfl rfl rfl pc_X1_shownNumber ⟨Nat.le_of_ble_eq_true rfl, Nat.le_of_ble_eq_true rfl⟩) 0 1 rfl rfl hK hP hD hS hA [2, 3, 4, 5, 6, 7, 8, 9, 10] [0, 1, 11, 12, 13, 14, 15, 16, 17, 18, 19] rfl rfl (by decide) (by decide) (by decide) (fun _ _ _ _ h => h) (fun _ _ _ => trivial) rfl rfl hl.1 (Nat.le_of_ble_eq_true rfl) dX2_show_5 ⟨hkc, hks⟩ (fun r9 u H locs hr9 hP hD hS => ?_)
  have hr9 := Eq.symm hr9
  subst hr9
  have hP : va_P (dC, dI) vwCl (wHB cI cF cJ h fa tr rw Hb ++ (wFR cI cF cJ q0 q1 q2 q3 q4 q5 q6 q7 q8 F ++ (wFR cI cF cJ r0 r1 r2 r3 r4 r5 r6 r7 r8 F2))) H := hP.sub [0, 1, 11, 12, 13, 14, 15, 16, 17, 18, 19, 2, 3, 4, 5, 6, 7, 8, 9, 10] rfl
  have hD : va_D A (wHB cI cF cJ h fa tr rw Hb ++ (wFR cI cF cJ q0 q1 q2 q3 q4 q5 q6 q7 q8 F ++ (wFR cI cF cJ r0 r1 r2 r3 r4 r5 r6 r7 r8 F2))) := hD.sub [0, 1, 11, 12, 13, 14, 15, 16, 17, 18, 19, 2, 3, 4, 5, 6, 7, 8, 9, 10] (by decide) rfl
  refine lv_lstore_n (lv' := [(3, .long x2), (0, .ref h), (1, .int p0), (2, .int p1)]) hx hb dX2_show_8 rfl hl (by decide) rfl (fun ls hl => ?_)
  refine lv_aload_n hx hb dX2_show_9 rfl (lv_at hl 1 rfl) ?_
  refine lv_iload_n hx hb dX2_show_10 rfl (lv_at hl 3 rfl) ?_
  obtain ⟨x3, hx3, hf⟩ := obd_e hf
  refine sb_Vq (As := [.int p1]) (rest := []) ⟨hx, hb, hml, hown, hts⟩ (fun sz => c_X2_foundFrame l dC dI cI cF cJ cD h fa tr r0 rw Hb p1 hq2 x3 hx3 sz) (cwV 1 hts (g_V q174 q175 q176 q172 q166) rfl rfl rfl pc_X2_foundFrame ⟨Nat.le_of_ble_eq_true rfl, Nat.le_of_ble_eq_true rfl⟩) 0 2 rfl rfl hK hP hD hS hA [0, 1] [2, 3, 4, 5, 6, 7, 8, 9, 10, 11, 12, 13, 14, 15, 16, 17, 18, 19] rfl rfl (by decide) (by decide) (by decide) (fun _ _ _ _ h => h) (fun _ _ _ => trivial) rfl rfl hl.1 (Nat.le_of_ble_eq_true rfl) dX2_show_11 ⟨hkc, hks⟩ (fun r9 u H locs hr9 hP hD hS => ?_)
  have hr9 := Eq.symm hr9
  subst hr9
  have hP : va_P (dC, dI) vwCl (wHB cI cF cJ h fa tr rw Hb ++ (wFR cI cF cJ q0 q1 q2 q3 q4 q5 q6 q7 q8 F ++ (wFR cI cF cJ r0 r1 r2 r3 r4 r5 r6 r7 r8 F2))) H := hP.sub [18, 19, 0, 1, 2, 3, 4, 5, 6, 7, 8, 9, 10, 11, 12, 13, 14, 15, 16, 17] rfl
  have hD : va_D A (wHB cI cF cJ h fa tr rw Hb ++ (wFR cI cF cJ q0 q1 q2 q3 q4 q5 q6 q7 q8 F ++ (wFR cI cF cJ r0 r1 r2 r3 r4 r5 r6 r7 r8 F2))) := hD.sub [18, 19, 0, 1, 2, 3, 4, 5, 6, 7, 8, 9, 10, 11, 12, 13, 14, 15, 16, 17] (by decide) rfl
  refine lv_astore (lv' := [(5, .ref r0), (3, .long x2), (0, .ref h), (1, .int p0), (2, .int p1)]) hx hb dX2_show_14 hl (by decide) rfl (fun ls hl => ?_)
  refine lv_aload hx hb dX2_show_16 (lv_at hl 0 rfl) ?_
  refine lv_lload_n hx hb dX2_show_18 rfl (lv_at hl 1 rfl) ?_
  obtain ⟨x4, hx4, hf⟩ := obd_e hf
  refine sb_Vi (As := [.long x2]) (rest := []) ⟨hx, hb, hml, hown, hts⟩ (fun sz => c_X1_hasRodsFor l dC dI cI cF cJ cD r0 r1 r2 r3 r4 r5 r6 r7 r8 F2 x2  x4 hx4 sz) (cwV 1 hts (g_V q202 q203 q204 q56 q46) rfl rfl rfl pc_X1_hasRodsFor ⟨Nat.le_of_ble_eq_true rfl, Nat.le_of_ble_eq_true rfl⟩) 0 1 rfl rfl hK hP hD hS hA [11, 12, 13, 14, 15, 16, 17, 18, 19] [0, 1, 2, 3, 4, 5, 6, 7, 8, 9, 10] rfl rfl (by decide) (by decide) (by decide) (fun _ _ _ _ h => h) (fun _ _ _ => trivial) rfl rfl hl.1 (Nat.le_of_ble_eq_true rfl) dX2_show_19 ⟨hkc, hks⟩ (fun r9 u H locs hr9 hP hD hS => ?_)
  have hr9 := Eq.symm hr9
  subst hr9
  have hP : va_P (dC, dI) vwCl (wHB cI cF cJ h fa tr rw Hb ++ (wFR cI cF cJ q0 q1 q2 q3 q4 q5 q6 q7 q8 F ++ (wFR cI cF cJ r0 r1 r2 r3 r4 r5 r6 r7 r8 F2))) H := hP
  have hD : va_D A (wHB cI cF cJ h fa tr rw Hb ++ (wFR cI cF cJ q0 q1 q2 q3 q4 q5 q6 q7 q8 F ++ (wFR cI cF cJ r0 r1 r2 r3 r4 r5 r6 r7 r8 F2))) := hD
  refine lv_if_ne (tgt := 28) hx hb dX2_show_22 (by decide) (fun c5 => ?_) (fun c5 => ?_)
  · have hf := ite_f hf c5
    refine lv_aload hx hb dX2_show_28 (lv_at hl 0 rfl) ?_
    refine va_get (D := (dC, dI)) (ci := 1) (v := .int (fPu F2)) (C := RX1) (T := TX1) (N := 13) hx hb hts iX1 hown hK hP 11 rfl rfl 6 (by decide) (hts _ q195) (fun _ h9 => h9) rfl dX2_show_30 ?_
    refine lv_istore (lv' := [(6, .int (fPu F2)), (5, .ref r0), (3, .long x2), (0, .ref h), (1, .int p0), (2, .int p1)]) hx hb dX2_show_33 hl (by decide) rfl (fun ls hl => ?_)
    refine lv_aload hx hb dX2_show_35 (lv_at hl 1 rfl) ?_
    obtain ⟨x6, hx6, hf⟩ := obd_e hf
    refine sb_Vv (As := []) (rest := []) ⟨hx, hb, hml, hown, hts⟩ (fun sz => c_X1_keepBeads l dC dI cI cF cJ cD r0 r1 r2 r3 r4 r5 r6 r7 r8 F2  x6 hx6 sz) (cwV 0 hts (g_V q188 q189 q190 q56 q102) rfl rfl rfl pc_X1_keepBeads ⟨Nat.le_of_ble_eq_true rfl, Nat.le_of_ble_eq_true rfl⟩) 0 1 rfl rfl hK hP hD hS hA [11, 12, 13, 14, 15, 16, 17, 18, 19] [0, 1, 2, 3, 4, 5, 6, 7, 8, 9, 10] rfl rfl (by decide) (by decide) (by decide) (fun _ _ _ _ h => h) (fun _ _ _ => trivial) rfl rfl hl.1 (Nat.le_of_ble_eq_true rfl) dX2_show_37 ⟨hkc, hks⟩ (fun u H locs hr9 hP hD hS => ?_)
    have hP : va_P (dC, dI) vwCl (wHB cI cF cJ h fa tr rw Hb ++ (wFR cI cF cJ q0 q1 q2 q3 q4 q5 q6 q7 q8 F ++ (wFR cI cF cJ r0 r1 r2 r3 r4 r5 r6 r7 r8 x6))) H := hP
    have hD : va_D A (wHB cI cF cJ h fa tr rw Hb ++ (wFR cI cF cJ q0 q1 q2 q3 q4 q5 q6 q7 q8 F ++ (wFR cI cF cJ r0 r1 r2 r3 r4 r5 r6 r7 r8 x6))) := hD
    refine lv_aload hx hb dX2_show_40 (lv_at hl 1 rfl) ?_
    refine lv_lload_n hx hb dX2_show_42 rfl (lv_at hl 2 rfl) ?_
    obtain ⟨x7, hx7, hf⟩ := obd_e hf
    refine sb_Vv (As := [.long x2]) (rest := []) ⟨hx, hb, hml, hown, hts⟩ (fun sz => c_X1_setRods l dC dI cI cF cJ cD r0 r1 r2 r3 r4 r5 r6 r7 r8 x6 x2  x7 hx7 sz) (cwV 1 hts (g_V q238 q239 q240 q56 q86) rfl rfl rfl pc_X1_setRods ⟨Nat.le_of_ble_eq_true rfl, Nat.le_of_ble_eq_true rfl⟩) 0 1 rfl rfl hK hP hD hS hA [11, 12, 13, 14, 15, 16, 17, 18, 19] [0, 1, 2, 3, 4, 5, 6, 7, 8, 9, 10] rfl rfl (by decide) (by decide) (by decide) (fun _ _ _ _ h => h) (fun _ _ _ => trivial) rfl rfl hl.1 (Nat.le_of_ble_eq_true rfl) dX2_show_43 ⟨hkc, hks⟩ (fun u H locs hr9 hP hD hS => ?_)
    have hP : va_P (dC, dI) vwCl (wHB cI cF cJ h fa tr rw Hb ++ (wFR cI cF cJ q0 q1 q2 q3 q4 q5 q6 q7 q8 F ++ (wFR cI cF cJ r0 r1 r2 r3 r4 r5 r6 r7 r8 x7))) H := hP
    have hD : va_D A (wHB cI cF cJ h fa tr rw Hb ++ (wFR cI cF cJ q0 q1 q2 q3 q4 q5 q6 q7 q8 F ++ (wFR cI cF cJ r0 r1 r2 r3 r4 r5 r6 r7 r8 x7))) := hD
    refine lv_aload hx hb dX2_show_46 (lv_at hl 1 rfl) ?_
    refine va_get (D := (dC, dI)) (ci := 1) (v := .int (fPu x7)) (C := RX1) (T := TX1) (N := 13) hx hb hts iX1 hown hK hP 11 rfl rfl 6 (by decide) (hts _ q195) (fun _ h9 => h9) rfl dX2_show_48 ?_
    refine lv_iload hx hb dX2_show_51 (lv_at hl 0 rfl) ?_
    refine lv_isub hx hb dX2_show_53 ?_
    refine lv_topi (fun v8 ev8 => ?_)
    have hf := bnd_all hf v8 ev8
    obtain rfl := Option.some.inj hf
    exact W.iret (v := v8) hx hb hr (fun t ht hW => ⟨⟨_, (), rfl, rfl, by rw [ht]; exact hP, hD⟩, hS.F ht⟩) hS.2.2 dX2_show_54
  · have hf := ite_t hf c5
    refine lv_bipush (v := (-2)) hx hb dX2_show_25 (by decide) ?_
    obtain rfl := Option.some.inj hf
    exact W.iret (v := (-2)) hx hb hr (fun t ht hW => ⟨⟨_, (), rfl, rfl, by rw [ht]; exact hP, hD⟩, hS.F ht⟩) hS.2.2 dX2_show_27
