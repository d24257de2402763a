-- laid by wip/p30/specs.py
noncomputable def f_X0_countAt (D : DK) (p0 : Int32) : Option (Int32) := if p0 < 0 then (some 0) else (if (8 : Int32) ≤ p0 then (some 0) else (gd (gin p0 8) <| bnd ((dCn D) (Int32.toNatClampNeg p0)) fun (v4 : Int32) => some v4))
theorem pc_X0_countAt : yX0_countAt.cls = RX0 ∧ yX0_countAt.cls ≠ "java/lang/invoke/MethodHandle" ∧ yX0_countAt.cls ≠ "java/lang/invoke/VarHandle" ∧ (parseMethodDescriptor yX0_countAt.desc).map (fun d => d.parameters.length) = some 1 := by decide +kernel
abbrev rm_X0_countAt : Room := { frames := 1, cells := 0, slots := 0, locals := 21 }
set_option maxHeartbeats 4000000 in
set_option maxRecDepth 100000 in
theorem c_X0_countAt (l : Launch) (dC : Nat → ClassId) (dI : Nat → Nat → Nat) (cI cF cJ cD : ClassId) (q0 q1 q2 q3 : Nat) (D : DK) (p0 : Int32) (res : (Int32)) (hf : f_X0_countAt D p0 = some res) (sz : Nat) : Met l yX0_countAt (ws_ yX0_countAt cX0_countAt 2 (some .int)) rm_X0_countAt (sbPre (dC, dI) (TY cI cF cJ cD) (wDK cI cF cJ q0 q1 q2 q3 D) E0 sz [.ref q0, .int p0]) (va_Qi (fun (r : Int32) (_ : Unit) => r = res) (sbEnd (dC, dI) (fun _ => wDK cI cF cJ q0 q1 q2 q3 D) (va_A (wDK cI cF cJ q0 q1 q2 q3 D) sz)) (va_A (wDK cI cF cJ q0 q1 q2 q3 D) sz)) 0 0 (va_A (wDK cI cF cJ q0 q1 q2 q3 D) sz) := by
  refine Met.ofW (cc := cX0_countAt) (maxL := 2) (ret := (some .int)) (by decide) rfl ?_
  intro p e s m args below meth c s₁ B hml hv
  obtain ⟨rfl, hsz, hP, hK, hD0, hE⟩ := hv
  have hx := B.exec
  have hb := B.bytes
  have hr := B.returns
  have hts0 := atoms_spec (ws := ws_ yX0_countAt cX0_countAt 2 (some .int)) B.pre
  have hts := fun (w : Cond) (h : w ∈ LW) => hts0 w (List.mem_cons_of_mem _ h)
  have hown : s.vm.findClass RX0 = some m.cls := findClass_of_methodNamed B.named
  have hlocks := B.notSynchronized
  subst hsz
  have hD := hD0.self (sz := s.heap.size)
  generalize hAe : va_A (wDK cI cF cJ q0 q1 q2 q3 D) s.heap.size = A at hD ⊢
  have hA : ∀ q : Nat, s.heap.size ≤ q → A q := fun q h => by rw [← hAe]; exact Or.inr h
  have hS : va_S A s.heap s.heap [] := va_S.rf
  have hkc := Nat.zero_le rm_X0_countAt.cells
  have hks := Nat.zero_le rm_X0_countAt.slots
  have hl := lv_entry ([.ref q0, .int p0]) (n := 2) (Nat.le_of_ble_eq_true rfl)
  rw [lg_entry_eq]
  generalize (lg_sl ([.ref q0, .int p0]) ++ List.replicate (2 - (lg_sl ([.ref q0, .int p0])).length) Slot.unset).toArray = ls at hl ⊢
  have hl : lv_has ls 2 [(0, .ref q0), (1, .int p0)] := hl
  rw [f_X0_countAt] at hf
  refine lv_iload_n hx hb dX0_countAt_0 rfl (lv_at hl 1 rfl) ?_
  refine lv_if_lt (tgt := 22) hx hb dX0_countAt_1 (by decide) (fun c1 => ?_) (fun c1 => ?_)
  · have hf := ite_t hf c1
    refine lv_iconst (v := 0) hx hb dX0_countAt_22 (by decide) ?_
    obtain rfl := Option.some.inj hf
    exact W.iret (v := 0) hx hb hr (fun t ht hW => ⟨⟨_, (), rfl, rfl, by rw [ht]; exact hP, hD⟩, hS.F ht⟩) hS.2.2 dX0_countAt_23
  · have hf := ite_f hf c1
    refine lv_iload_n hx hb dX0_countAt_4 rfl (lv_at hl 1 rfl) ?_
    refine lv_aload_n hx hb dX0_countAt_5 rfl (lv_at hl 0 rfl) ?_
    refine va_get (D := (dC, dI)) (ci := 0) (v := .ref q1) (C := RX0) (T := TX0) (N := 4) hx hb hts iX0 hown hK hP 0 rfl rfl 1 (by decide) (hts _ q5) (fun _ h9 => h9) rfl dX0_countAt_6 ?_
    refine va_alen (v := 8) hx hb hK hP 1 0 rfl rfl rfl dX0_countAt_9 ?_
    refine lv_icmp_ge (tgt := 22) hx hb dX0_countAt_10 (by decide) (fun c2 => ?_) (fun c2 => ?_)
    · have hf := ite_t hf c2
      refine lv_iconst (v := 0) hx hb dX0_countAt_22 (by decide) ?_
      obtain rfl := Option.some.inj hf
      exact W.iret (v := 0) hx hb hr (fun t ht hW => ⟨⟨_, (), rfl, rfl, by rw [ht]; exact hP, hD⟩, hS.F ht⟩) hS.2.2 dX0_countAt_23
    · have hf := ite_f hf c2
      refine lv_aload_n hx hb dX0_countAt_13 rfl (lv_at hl 0 rfl) ?_
      refine va_get (D := (dC, dI)) (ci := 0) (v := .ref q1) (C := RX0) (T := TX0) (N := 4) hx hb hts iX0 hown hK hP 0 rfl rfl 1 (by decide) (hts _ q5) (fun _ h9 => h9) rfl dX0_countAt_14 ?_
      refine lv_iload_n hx hb dX0_countAt_17 rfl (lv_at hl 1 rfl) ?_
      obtain ⟨g3, hf⟩ := gd_e hf
      refine va_iald hx hb hK hP 1 0 rfl rfl (gin_in g3) dX0_countAt_18 ?_
      refine lv_topi (fun v4 ev4 => ?_)
      have hf := bnd_all hf v4 ev4
      refine lv_goto (tgt := 23) hx hb dX0_countAt_19 (by decide) ?_
      obtain rfl := Option.some.inj hf
      exact W.iret (v := v4) hx hb hr (fun t ht hW => ⟨⟨_, (), rfl, rfl, by rw [ht]; exact hP, hD⟩, hS.F ht⟩) hS.2.2 dX0_countAt_23
noncomputable def f_X0_wearAt (D : DK) (p0 : Int32) : Option (Int32) := if p0 < 0 then (some 0) else (if (8 : Int32) ≤ p0 then (some 0) else (gd (gin p0 8) <| bnd ((dWe D) (Int32.toNatClampNeg p0)) fun (v4 : Int32) => some v4))
theorem pc_X0_wearAt : yX0_wearAt.cls = RX0 ∧ yX0_wearAt.cls ≠ "java/lang/invoke/MethodHandle" ∧ yX0_wearAt.cls ≠ "java/lang/invoke/VarHandle" ∧ (parseMethodDescriptor yX0_wearAt.desc).map (fun d => d.parameters.length) = some 1 := by decide +kernel
abbrev rm_X0_wearAt : Room := { frames := 1, cells := 0, slots := 0, locals := 21 }
set_option maxHeartbeats 4000000 in
set_option maxRecDepth 100000 in
theorem c_X0_wearAt (l : Launch) (dC : Nat → ClassId) (dI : Nat → Nat → Nat) (cI cF cJ cD : ClassId) (q0 q1 q2 q3 : Nat) (D : DK) (p0 : Int32) (res : (Int32)) (hf : f_X0_wearAt D p0 = some res) (sz : Nat) : Met l yX0_wearAt (ws_ yX0_wearAt cX0_wearAt 2 (some .int)) rm_X0_wearAt (sbPre (dC, dI) (TY cI cF cJ cD) (wDK cI cF cJ q0 q1 q2 q3 D) E0 sz [.ref q0, .int p0]) (va_Qi (fun (r : Int32) (_ : Unit) => r = res) (sbEnd (dC, dI) (fun _ => wDK cI cF cJ q0 q1 q2 q3 D) (va_A (wDK cI cF cJ q0 q1 q2 q3 D) sz)) (va_A (wDK cI cF cJ q0 q1 q2 q3 D) sz)) 0 0 (va_A (wDK cI cF cJ q0 q1 q2 q3 D) sz) := by
  refine Met.ofW (cc := cX0_wearAt) (maxL := 2) (ret := (some .int)) (by decide) rfl ?_
  intro p e s m args below meth c s₁ B hml hv
  obtain ⟨rfl, hsz, hP, hK, hD0, hE⟩ := hv
  have hx := B.exec
  have hb := B.bytes
  have hr := B.returns
  have hts0 := atoms_spec (ws := ws_ yX0_wearAt cX0_wearAt 2 (some .int)) B.pre
  have hts := fun (w : Cond) (h : w ∈ LW) => hts0 w (List.mem_cons_of_mem _ h)
  have hown : s.vm.findClass RX0 = some m.cls := findClass_of_methodNamed B.named
  have hlocks := B.notSynchronized
  subst hsz
  have hD := hD0.self (sz := s.heap.size)
  generalize hAe : va_A (wDK cI cF cJ q0 q1 q2 q3 D) s.heap.size = A at hD ⊢
  have hA : ∀ q : Nat, s.heap.size ≤ q → A q := fun q h => by rw [← hAe]; exact Or.inr h
  have hS : va_S A s.heap s.heap [] := va_S.rf
  have hkc := Nat.zero_le rm_X0_wearAt.cells
  have hks := Nat.zero_le rm_X0_wearAt.slots
  have hl := lv_entry ([.ref q0, .int p0]) (n := 2) (Nat.le_of_ble_eq_true rfl)
  rw [lg_entry_eq]
  generalize (lg_sl ([.ref q0, .int p0]) ++ List.replicate (2 - (lg_sl ([.ref q0, .int p0])).length) Slot.unset).toArray = ls at hl ⊢
  have hl : lv_has ls 2 [(0, .ref q0), (1, .int p0)] := hl
  rw [f_X0_wearAt] at hf
  refine lv_iload_n hx hb dX0_wearAt_0 rfl (lv_at hl 1 rfl) ?_
  refine lv_if_lt (tgt := 22) hx hb dX0_wearAt_1 (by decide) (fun c1 => ?_) (fun c1 => ?_)
  · have hf := ite_t hf c1
    refine lv_iconst (v := 0) hx hb dX0_wearAt_22 (by decide) ?_
    obtain rfl := Option.some.inj hf
    exact W.iret (v := 0) hx hb hr (fun t ht hW => ⟨⟨_, (), rfl, rfl, by rw [ht]; exact hP, hD⟩, hS.F ht⟩) hS.2.2 dX0_wearAt_23
  · have hf := ite_f hf c1
    refine lv_iload_n hx hb dX0_wearAt_4 rfl (lv_at hl 1 rfl) ?_
    refine lv_aload_n hx hb dX0_wearAt_5 rfl (lv_at hl 0 rfl) ?_
    refine va_get (D := (dC, dI)) (ci := 0) (v := .ref q2) (C := RX0) (T := TX0) (N := 4) hx hb hts iX0 hown hK hP 0 rfl rfl 2 (by decide) (hts _ q6) (fun _ h9 => h9) rfl dX0_wearAt_6 ?_
    refine va_alen (v := 8) hx hb hK hP 2 0 rfl rfl rfl dX0_wearAt_9 ?_
    refine lv_icmp_ge (tgt := 22) hx hb dX0_wearAt_10 (by decide) (fun c2 => ?_) (fun c2 => ?_)
    · have hf := ite_t hf c2
      refine lv_iconst (v := 0) hx hb dX0_wearAt_22 (by decide) ?_
      obtain rfl := Option.some.inj hf
      exact W.iret (v := 0) hx hb hr (fun t ht hW => ⟨⟨_, (), rfl, rfl, by rw [ht]; exact hP, hD⟩, hS.F ht⟩) hS.2.2 dX0_wearAt_23
    · have hf := ite_f hf c2
      refine lv_aload_n hx hb dX0_wearAt_13 rfl (lv_at hl 0 rfl) ?_
      refine va_get (D := (dC, dI)) (ci := 0) (v := .ref q2) (C := RX0) (T := TX0) (N := 4) hx hb hts iX0 hown hK hP 0 rfl rfl 2 (by decide) (hts _ q6) (fun _ h9 => h9) rfl dX0_wearAt_14 ?_
      refine lv_iload_n hx hb dX0_wearAt_17 rfl (lv_at hl 1 rfl) ?_
      obtain ⟨g3, hf⟩ := gd_e hf
      refine va_iald hx hb hK hP 2 0 rfl rfl (gin_in g3) dX0_wearAt_18 ?_
      refine lv_topi (fun v4 ev4 => ?_)
      have hf := bnd_all hf v4 ev4
      refine lv_goto (tgt := 23) hx hb dX0_wearAt_19 (by decide) ?_
      obtain rfl := Option.some.inj hf
      exact W.iret (v := v4) hx hb hr (fun t ht hW => ⟨⟨_, (), rfl, rfl, by rw [ht]; exact hP, hD⟩, hS.F ht⟩) hS.2.2 dX0_wearAt_23
noncomputable def f_X0_isWornAt (D : DK) (p0 : Int32) : Option (Int32) := obd (f_X0_wearAt D p0) fun x1 => if x1 < 40 then (some 0) else (some 1)
theorem pc_X0_isWornAt : yX0_isWornAt.cls = RX0 ∧ yX0_isWornAt.cls ≠ "java/lang/invoke/MethodHandle" ∧ yX0_isWornAt.cls ≠ "java/lang/invoke/VarHandle" ∧ (parseMethodDescriptor yX0_isWornAt.desc).map (fun d => d.parameters.length) = some 1 := by decide +kernel
abbrev rm_X0_isWornAt : Room := { frames := 2, cells := 0, slots := 0, locals := 42 }
set_option maxHeartbeats 4000000 in
set_option maxRecDepth 100000 in
theorem c_X0_isWornAt (l : Launch) (dC : Nat → ClassId) (dI : Nat → Nat → Nat) (cI cF cJ cD : ClassId) (q0 q1 q2 q3 : Nat) (D : DK) (p0 : Int32) (res : (Int32)) (hf : f_X0_isWornAt D p0 = some res) (sz : Nat) : Met l yX0_isWornAt (ws_ yX0_isWornAt cX0_isWornAt 2 (some .boolean)) rm_X0_isWornAt (sbPre (dC, dI) (TY cI cF cJ cD) (wDK cI cF cJ q0 q1 q2 q3 D) E0 sz [.ref q0, .int p0]) (va_Qi (fun (r : Int32) (_ : Unit) => r = res) (sbEnd (dC, dI) (fun _ => wDK cI cF cJ q0 q1 q2 q3 D) (va_A (wDK cI cF cJ q0 q1 q2 q3 D) sz)) (va_A (wDK cI cF cJ q0 q1 q2 q3 D) sz)) 0 0 (va_A (wDK cI cF cJ q0 q1 q2 q3 D) sz) := by
  refine Met.ofW (cc := cX0_isWornAt) (maxL := 2) (ret := (some .boolean)) (by decide) rfl ?_
  intro p e s m args below meth c s₁ B hml hv
  obtain ⟨rfl, hsz, hP, hK, hD0, hE⟩ := hv
  have hx := B.exec
  have hb := B.bytes
  have hr := B.returns
  have hts0 := atoms_spec (ws := ws_ yX0_isWornAt cX0_isWornAt 2 (some .boolean)) B.pre
  have hts := fun (w : Cond) (h : w ∈ LW) => hts0 w (List.mem_cons_of_mem _ h)
  have hown : s.vm.findClass RX0 = some m.cls := findClass_of_methodNamed B.named
  have hlocks := B.notSynchronized
  subst hsz
  have hD := hD0.self (sz := s.heap.size)
  generalize hAe : va_A (wDK cI cF cJ q0 q1 q2 q3 D) s.heap.size = A at hD ⊢
  have hA : ∀ q : Nat, s.heap.size ≤ q → A q := fun q h => by rw [← hAe]; exact Or.inr h
  have hS : va_S A s.heap s.heap [] := va_S.rf
  have hkc := Nat.zero_le rm_X0_isWornAt.cells
  have hks := Nat.zero_le rm_X0_isWornAt.slots
  have hl := lv_entry ([.ref q0, .int p0]) (n := 2) (Nat.le_of_ble_eq_true rfl)
  rw [lg_entry_eq]
  generalize (lg_sl ([.ref q0, .int p0]) ++ List.replicate (2 - (lg_sl ([.ref q0, .int p0])).length) Slot.unset).toArray = ls at hl ⊢
  have hl : lv_has ls 2 [(0, .ref q0), (1, .int p0)] := hl
  rw [f_X0_isWornAt] at hf
  refine lv_aload_n hx hb dX0_isWornAt_0 rfl (lv_at hl 0 rfl) ?_
  refine lv_iload_n hx hb dX0_isWornAt_1 rfl (lv_at hl 1 rfl) ?_
  obtain ⟨x1, hx1, hf⟩ := obd_e hf
  refine sb_Vi (As := [.int p0]) (rest := []) ⟨hx, hb, hml, hown, hts⟩ (fun sz => c_X0_wearAt l dC dI cI cF cJ cD q0 q1 q2 q3 D p0  x1 hx1 sz) (cwV 1 hts (g_V q12 q13 q14 q15 q10) rfl rfl rfl pc_X0_wearAt ⟨Nat.le_of_ble_eq_true rfl, Nat.le_of_ble_eq_true rfl⟩) 0 0 rfl rfl hK hP hD hS hA [0, 1, 2, 3] [] rfl rfl (by decide) (by decide) (by decide) (fun _ _ _ _ h => h) (fun _ _ _ => trivial) rfl rfl hl.1 (Nat.le_of_ble_eq_true rfl) dX0_isWornAt_2 ⟨hkc, hks⟩ (fun r9 u H locs hr9 hP hD hS => ?_)
  have hr9 := Eq.symm hr9
  subst hr9
  have hP : va_P (dC, dI) vwCl (wDK cI cF cJ q0 q1 q2 q3 D) H := hP
  have hD : va_D A (wDK cI cF cJ q0 q1 q2 q3 D) := hD
  refine lv_bipush (v := 40) hx hb dX0_isWornAt_5 (by decide) ?_
  refine lv_icmp_lt (tgt := 14) hx hb dX0_isWornAt_7 (by decide) (fun c2 => ?_) (fun c2 => ?_)
  · have hf := ite_t hf c2
    refine lv_iconst (v := 0) hx hb dX0_isWornAt_14 (by decide) ?_
    obtain rfl := Option.some.inj hf
    exact W.zret (v := 0) hx hb hr (by rfl) (fun t ht hW => ⟨⟨_, (), rfl, rfl, by rw [ht]; exact hP, hD⟩, hS.F ht⟩) hS.2.2 dX0_isWornAt_15
  · have hf := ite_f hf c2
    refine lv_iconst (v := 1) hx hb dX0_isWornAt_10 (by decide) ?_
    refine lv_goto (tgt := 15) hx hb dX0_isWornAt_11 (by decide) ?_
    obtain rfl := Option.some.inj hf
    exact W.zret (v := 1) hx hb hr (by rfl) (fun t ht hW => ⟨⟨_, (), rfl, rfl, by rw [ht]; exact hP, hD⟩, hS.F ht⟩) hS.2.2 dX0_isWornAt_15
noncomputable def f_X0_canMove (D : DK) (p0 : Int32) (p1 : Int32) : Option (Int32) := obd (f_X0_countAt D p0) fun x1 => bnd (x1.toInt64) fun (v2 : Int64) => bnd (p1.toInt64) fun (v3 : Int64) => bnd (v2 + v3) fun (v4 : Int64) => bnd (lg_cmp v4 (0 : Int64)) fun (v5 : Int32) => if v5 < 0 then (some 0) else (bnd ((dSz D).toInt64) fun (v7 : Int64) => bnd (lg_cmp v4 v7) fun (v8 : Int32) => if (0 : Int32) < v8 then (some 0) else (some 1))
theorem pc_X0_canMove : yX0_canMove.cls = RX0 ∧ yX0_canMove.cls ≠ "java/lang/invoke/MethodHandle" ∧ yX0_canMove.cls ≠ "java/lang/invoke/VarHandle" ∧ (parseMethodDescriptor yX0_canMove.desc).map (fun d => d.parameters.length) = some 2 := by decide +kernel
abbrev rm_X0_canMove : Room := { frames := 2, cells := 0, slots := 0, locals := 42 }
set_option maxHeartbeats 4000000 in
set_option maxRecDepth 100000 in
theorem c_X0_canMove (l : Launch) (dC : Nat → ClassId) (dI : Nat → Nat → Nat) (cI cF cJ cD : ClassId) (q0 q1 q2 q3 : Nat) (D : DK) (p0 : Int32) (p1 : Int32) (res : (Int32)) (hf : f_X0_canMove D p0 p1 = some res) (sz : Nat) : Met l yX0_canMove (ws_ yX0_canMove cX0_canMove 5 (some .boolean)) rm_X0_canMove (sbPre (dC, dI) (TY cI cF cJ cD) (wDK cI cF cJ q0 q1 q2 q3 D) E0 sz [.ref q0, .int p0, .int p1]) (va_Qi (fun (r : Int32) (_ : Unit) => r = res) (sbEnd (dC, dI) (fun _ => wDK cI cF cJ q0 q1 q2 q3 D) (va_A (wDK cI cF cJ q0 q1 q2 q3 D) sz)) (va_A (wDK cI cF cJ q0 q1 q2 q3 D) sz)) 0 0 (va_A (wDK cI cF cJ q0 q1 q2 q3 D) sz) := by
  refine Met.ofW (cc := cX0_canMove) (maxL := 5) (ret := (some .boolean)) (by decide) rfl ?_
  intro p e s m args below meth c s₁ B hml hv
  obtain ⟨rfl, hsz, hP, hK, hD0, hE⟩ := hv
  have hx := B.exec
  have hb := B.bytes
  have hr := B.returns
  have hts0 := atoms_spec (ws := ws_ yX0_canMove cX0_canMove 5 (some .boolean)) B.pre
  have hts := fun (w : Cond) (h : w ∈ LW) => hts0 w (List.mem_cons_of_mem _ h)
  have hown : s.vm.findClass RX0 = some m.cls := findClass_of_methodNamed B.named
  have hlocks := B.notSynchronized
  subst hsz
  have hD := hD0.self (sz := s.heap.size)
  generalize hAe : va_A (wDK cI cF cJ q0 q1 q2 q3 D) s.heap.size = A at hD ⊢
  have hA : ∀ q : Nat, s.heap.size ≤ q → A q := fun q h => by rw [← hAe]; exact Or.inr h
  have hS : va_S A s.heap s.heap [] := va_S.rf
  have hkc := Nat.zero_le rm_X0_canMove.cells
  have hks := Nat.zero_le rm_X0_canMove.slots
  have hl := lv_entry ([.ref q0, .int p0, .int p1]) (n := 5) (Nat.le_of_ble_eq_true rfl)
  rw [lg_entry_eq]
  generalize (lg_sl ([.ref q0, .int p0, .int p1]) ++ List.replicate (5 - (lg_sl ([.ref q0, .int p0, .int p1])).length) Slot.unset).toArray = ls at hl ⊢
  have hl : lv_has ls 5 [(0, .ref q0), (1, .int p0), (2, .int p1)] := hl
  rw [f_X0_canMove] at hf
  refine lv_aload_n hx hb dX0_canMove_0 rfl (lv_at hl 0 rfl) ?_
  refine lv_iload_n hx hb dX0_canMove_1 rfl (lv_at hl 1 rfl) ?_
  obtain ⟨x1, hx1, hf⟩ := obd_e hf
  refine sb_Vi (As := [.int p0]) (rest := []) ⟨hx, hb, hml, hown, hts⟩ (fun sz => c_X0_countAt l dC dI cI cF cJ cD q0 q1 q2 q3 D p0  x1 hx1 sz) (cwV 1 hts (g_V q17 q18 q19 q15 q9) rfl rfl rfl pc_X0_countAt ⟨Nat.le_of_ble_eq_true rfl, Nat.le_of_ble_eq_true rfl⟩) 0 0 rfl rfl hK hP hD hS hA [0, 1, 2, 3] [] rfl rfl (by decide) (by decide) (by decide) (fun _ _ _ _ h => h) (fun _ _ _ => trivial) rfl rfl hl.1 (Nat.le_of_ble_eq_true rfl) dX0_canMove_2 ⟨hkc, hks⟩ (fun r9 u H locs hr9 hP hD hS => ?_)
  have hr9 := Eq.symm hr9
  subst hr9
  have hP : va_P (dC, dI) vwCl (wDK cI cF cJ q0 q1 q2 q3 D) H := hP
  have hD : va_D A (wDK cI cF cJ q0 q1 q2 q3 D) := hD
  refine lv_i2l hx hb dX0_canMove_5 rfl ?_
  refine lv_topl (fun v2 ev2 => ?_)
  have hf := bnd_all hf v2 ev2
  refine lv_iload_n hx hb dX0_canMove_6 rfl (lv_at hl 2 rfl) ?_
  refine lv_i2l hx hb dX0_canMove_7 rfl ?_
  refine lv_topl (fun v3 ev3 => ?_)
  have hf := bnd_all hf v3 ev3
  refine lv_ladd hx hb dX0_canMove_8 ?_
  refine lv_topl (fun v4 ev4 => ?_)
  have hf := bnd_all hf v4 ev4
  refine lv_lstore_n (lv' := [(3, .long v4), (0, .ref q0), (1, .int p0), (2, .int p1)]) hx hb dX0_canMove_9 rfl hl (by decide) rfl (fun ls hl => ?_)
  refine lv_lload_n hx hb dX0_canMove_10 rfl (lv_at hl 0 rfl) ?_
  refine lv_lconst (v := 0) hx hb dX0_canMove_11 (by decide) ?_
  refine W.lcmp hx hb dX0_canMove_12 ?_
  refine lv_topi (fun v5 ev5 => ?_)
  have hf := bnd_all hf v5 ev5
  refine lv_if_lt (tgt := 30) hx hb dX0_canMove_13 (by decide) (fun c6 => ?_) (fun c6 => ?_)
  · have hf := ite_t hf c6
    refine lv_iconst (v := 0) hx hb dX0_canMove_30 (by decide) ?_
    obtain rfl := Option.some.inj hf
    exact W.zret (v := 0) hx hb hr (by rfl) (fun t ht hW => ⟨⟨_, (), rfl, rfl, by rw [ht]; exact hP, hD⟩, hS.F ht⟩) hS.2.2 dX0_canMove_31
  · have hf := ite_f hf c6
    refine lv_lload_n hx hb dX0_canMove_16 rfl (lv_at hl 0 rfl) ?_
    refine lv_aload_n hx hb dX0_canMove_17 rfl (lv_at hl 1 rfl) ?_
    refine va_get (D := (dC, dI)) (ci := 0) (v := .int (dSz D)) (C := RX0) (T := TX0) (N := 4) hx hb hts iX0 hown hK hP 0 rfl rfl 0 (by decide) (hts _ q8) (fun _ h9 => h9) rfl dX0_canMove_18 ?_
    refine lv_i2l hx hb dX0_canMove_21 rfl ?_
    refine lv_topl (fun v7 ev7 => ?_)
    have hf := bnd_all hf v7 ev7
    refine W.lcmp hx hb dX0_canMove_22 ?_
    refine lv_topi (fun v8 ev8 => ?_)
    have hf := bnd_all hf v8 ev8
    refine lv_if_gt (tgt := 30) hx hb dX0_canMove_23 (by decide) (fun c9 => ?_) (fun c9 => ?_)
    · have hf := ite_t hf c9
      refine lv_iconst (v := 0) hx hb dX0_canMove_30 (by decide) ?_
      obtain rfl := Option.some.inj hf
      exact W.zret (v := 0) hx hb hr (by rfl) (fun t ht hW => ⟨⟨_, (), rfl, rfl, by rw [ht]; exact hP, hD⟩, hS.F ht⟩) hS.2.2 dX0_canMove_31
    · have hf := ite_f hf c9
      refine lv_iconst (v := 1) hx hb dX0_canMove_26 (by decide) ?_
      refine lv_goto (tgt := 31) hx hb dX0_canMove_27 (by decide) ?_
      obtain rfl := Option.some.inj hf
      exact W.zret (v := 1) hx hb hr (by rfl) (fun t ht hW => ⟨⟨_, (), rfl, rfl, by rw [ht]; exact hP, hD⟩, hS.F ht⟩) hS.2.2 dX0_canMove_31
noncomputable def f_X0_freshen (D : DK) (p0 : Int32) : Option (DK) := if p0 < 0 then (some D) else (if (8 : Int32) ≤ p0 then (some D) else (gd (gin p0 8) <| some (sdWe D (upd (dWe D) (Int32.toNatClampNeg p0) 0))))
theorem pc_X0_freshen : yX0_freshen.cls = RX0 ∧ yX0_freshen.cls ≠ "java/lang/invoke/MethodHandle" ∧ yX0_freshen.cls ≠ "java/lang/invoke/VarHandle" ∧ (parseMethodDescriptor yX0_freshen.desc).map (fun d => d.parameters.length) = some 1 := by decide +kernel
abbrev rm_X0_freshen : Room := { frames := 1, cells := 0, slots := 0, locals := 21 }
set_option maxHeartbeats 4000000 in
set_option maxRecDepth 100000 in
theorem c_X0_freshen (l : Launch) (dC : Nat → ClassId) (dI : Nat → Nat → Nat) (cI cF cJ cD : ClassId) (q0 q1 q2 q3 : Nat) (D : DK) (p0 : Int32) (res : (DK)) (hf : f_X0_freshen D p0 = some res) (sz : Nat) : Met l yX0_freshen (ws_ yX0_freshen cX0_freshen 2 none) rm_X0_freshen (sbPre (dC, dI) (TY cI cF cJ cD) (wDK cI cF cJ q0 q1 q2 q3 D) E0 sz [.ref q0, .int p0]) (va_Qv (fun (_ : Unit) => True) (sbEnd (dC, dI) (fun _ => wDK cI cF cJ q0 q1 q2 q3 res) (va_A (wDK cI cF cJ q0 q1 q2 q3 D) sz)) (va_A (wDK cI cF cJ q0 q1 q2 q3 D) sz)) 0 0 (va_A (wDK cI cF cJ q0 q1 q2 q3 D) sz) := by
  refine Met.ofW (cc := cX0_freshen) (maxL := 2) (ret := none) (by decide) rfl ?_
  intro p e s m args below meth c s₁ B hml hv
  obtain ⟨rfl, hsz, hP, hK, hD0, hE⟩ := hv
  have hx := B.exec
  have hb := B.bytes
  have hr := B.returns
  have hts0 := atoms_spec (ws := ws_ yX0_freshen cX0_freshen 2 none) B.pre
  have hts := fun (w : Cond) (h : w ∈ LW) => hts0 w (List.mem_cons_of_mem _ h)
  have hown : s.vm.findClass RX0 = some m.cls := findClass_of_methodNamed B.named
  have hlocks := B.notSynchronized
  subst hsz
  have hD := hD0.self (sz := s.heap.size)
  generalize hAe : va_A (wDK cI cF cJ q0 q1 q2 q3 D) s.heap.size = A at hD ⊢
  have hA : ∀ q : Nat, s.heap.size ≤ q → A q := fun q h => by rw [← hAe]; exact Or.inr h
  have hS : va_S A s.heap s.heap [] := va_S.rf
  have hkc := Nat.zero_le rm_X0_freshen.cells
  have hks := Nat.zero_le rm_X0_freshen.slots
  have hl := lv_entry ([.ref q0, .int p0]) (n := 2) (Nat.le_of_ble_eq_true rfl)
  rw [lg_entry_eq]
  generalize (lg_sl ([.ref q0, .int p0]) ++ List.replicate (2 - (lg_sl ([.ref q0, .int p0])).length) Slot.unset).toArray = ls at hl ⊢
  have hl : lv_has ls 2 [(0, .ref q0), (1, .int p0)] := hl
  rw [f_X0_freshen] at hf
  refine lv_iload_n hx hb dX0_freshen_0 rfl (lv_at hl 1 rfl) ?_
  refine lv_if_lt (tgt := 20) hx hb dX0_freshen_1 (by decide) (fun c1 => ?_) (fun c1 => ?_)
  · have hf := ite_t hf c1
    obtain rfl := Option.some.inj hf
    exact W.vret hx hb hr (fun t ht hW => ⟨⟨(), rfl, trivial, by rw [ht]; exact hP, hD⟩, hS.F ht⟩) hS.2.2 dX0_freshen_20
  · have hf := ite_f hf c1
    refine lv_iload_n hx hb dX0_freshen_4 rfl (lv_at hl 1 rfl) ?_
    refine lv_aload_n hx hb dX0_freshen_5 rfl (lv_at hl 0 rfl) ?_
    refine va_get (D := (dC, dI)) (ci := 0) (v := .ref q2) (C := RX0) (T := TX0) (N := 4) hx hb hts iX0 hown hK hP 0 rfl rfl 2 (by decide) (hts _ q6) (fun _ h9 => h9) rfl dX0_freshen_6 ?_
    refine va_alen (v := 8) hx hb hK hP 2 0 rfl rfl rfl dX0_freshen_9 ?_
    refine lv_icmp_ge (tgt := 20) hx hb dX0_freshen_10 (by decide) (fun c2 => ?_) (fun c2 => ?_)
    · have hf := ite_t hf c2
      obtain rfl := Option.some.inj hf
      exact W.vret hx hb hr (fun t ht hW => ⟨⟨(), rfl, trivial, by rw [ht]; exact hP, hD⟩, hS.F ht⟩) hS.2.2 dX0_freshen_20
    · have hf := ite_f hf c2
      refine lv_aload_n hx hb dX0_freshen_13 rfl (lv_at hl 0 rfl) ?_
      refine va_get (D := (dC, dI)) (ci := 0) (v := .ref q2) (C := RX0) (T := TX0) (N := 4) hx hb hts iX0 hown hK hP 0 rfl rfl 2 (by decide) (hts _ q6) (fun _ h9 => h9) rfl dX0_freshen_14 ?_
      refine lv_iload_n hx hb dX0_freshen_17 rfl (lv_at hl 1 rfl) ?_
      refine lv_iconst (v := 0) hx hb dX0_freshen_18 (by decide) ?_
      obtain ⟨g3, hf⟩ := gd_e hf
      refine va_iast hx hb hK hP hD hS 2 0 rfl rfl (gin_in g3) dX0_freshen_19 (fun H locs hP hD hS => ?_)
      have hP : va_P (dC, dI) vwCl (wDK cI cF cJ q0 q1 q2 q3 (sdWe D (upd (dWe D) (Int32.toNatClampNeg p0) 0))) H := hP
      have hD : va_D A (wDK cI cF cJ q0 q1 q2 q3 (sdWe D (upd (dWe D) (Int32.toNatClampNeg p0) 0))) := hD
      obtain rfl := Option.some.inj hf
      exact W.vret hx hb hr (fun t ht hW => ⟨⟨(), rfl, trivial, by rw [ht]; exact hP, hD⟩, hS.F ht⟩) hS.2.2 dX0_freshen_20
