-- laid by wip/p30/specs.py
theorem zq0 : (.code yX0_init cX0_init 2 none) ∈ LW := q0
theorem zq1 : (.methodLink RX0 3 objectInit) ∈ LW := q1
theorem zq2 : (.instanceMethod objectInit) ∈ LW := q2
theorem zq3 : (.code objectInit ⟨#[0xb1]⟩ 1 none) ∈ LW := q3
theorem zq4 : (.arrayClass .int) ∈ LW := q4
theorem zq5 : (.fieldLink RX0 9 "SorobanHall$Deck" "counting" "[I") ∈ LW := q5
theorem zq6 : (.fieldLink RX0 15 "SorobanHall$Deck" "wear" "[I") ∈ LW := q6
theorem zq7 : (.fieldLink RX0 18 "SorobanHall$Deck" "kept" "[I") ∈ LW := q7
theorem zq8 : (.fieldLink RX0 21 "SorobanHall$Deck" "size" "I") ∈ LW := q8
abbrev wNX0 (q0 : Nat) : va_W := [(q0, .inr (0, [.int 0, .null, .null, .null]))]
abbrev wNX1 (q0 : Nat) : va_W := [(q0, .inr (1, [.int 0, .int 0, .null, .null, .int 0, .float 0, .int 0, .int 0, .int 0, .int 0, .int 0, .int 0, .int 0]))]
abbrev wNX2 (q0 : Nat) : va_W := [(q0, .inr (2, [.null, .null, .int 0, .int 0]))]
abbrev wNX3 (q0 : Nat) : va_W := [(q0, .inr (3, [.null, .null, .int 0, .int 0, .int 0, .null, .null, .null, .null, .null, .int 0, .long 0]))]
noncomputable def f_X0_init (p0 : Int32) : Option (DK) := some (p0, (fun _ => 0), (fun _ => 0), (fun _ => 0))
theorem pc_X0_init : yX0_init.cls = RX0 ∧ yX0_init.cls ≠ "java/lang/invoke/MethodHandle" ∧ yX0_init.cls ≠ "java/lang/invoke/VarHandle" ∧ (parseMethodDescriptor yX0_init.desc).map (fun d => d.parameters.length) = some 1 := by decide +kernel
theorem pi_X0_init : yX0_init.cls ≠ "java/lang/invoke/MethodHandle" ∧ yX0_init.cls ≠ "java/lang/invoke/VarHandle" ∧ (parseMethodDescriptor yX0_init.desc).map (fun d => d.parameters.length) = some 1 := by decide +kernel
abbrev rm_X0_init : Room := { frames := 1, cells := 3, slots := 112, locals := 21 }
set_option maxHeartbeats 4000000 in
set_option maxRecDepth 100000 in
theorem c_X0_init (l : Launch) (dC : Nat → ClassId) (dI : Nat → Nat → Nat) (cI cF cJ cD : ClassId) (q0 : Nat) (p0 : Int32) (res : (DK)) (hf : f_X0_init p0 = some res) (sz : Nat) : Met l yX0_init (ws_ yX0_init cX0_init 2 none) rm_X0_init (sbPre (dC, dI) (TY cI cF cJ cD) (wNX0 q0) E0 sz [.ref q0, .int p0]) (va_Qv (fun (_ : Nat × Nat × Nat) => True) (sbEnd (dC, dI) (fun (u : Nat × Nat × Nat) => wDK cI cF cJ q0 u.1 u.2.1 u.2.2 res) (va_A (wNX0 q0) sz)) (va_A (wNX0 q0) sz)) 3 112 (va_A (wNX0 q0) sz) := by
  refine Met.ofW (cc := cX0_init) (maxL := 2) (ret := none) (by decide) rfl ?_
  intro p e s m args below meth c s₁ B hml hv
  obtain ⟨rfl, hsz, hP, hK, hD0, hE⟩ := hv
  have hx := B.exec
  have hb := B.bytes
  have hr := B.returns
  have hts0 := atoms_spec (ws := ws_ yX0_init cX0_init 2 none) B.pre
  have hts := fun (w : Cond) (h : w ∈ LW) => hts0 w (List.mem_cons_of_mem _ h)
  have hown : s.vm.findClass RX0 = some m.cls := findClass_of_methodNamed B.named
  have hlocks := B.notSynchronized
  subst hsz
  have hD := hD0.self (sz := s.heap.size)
  have hin : meth.name = "<init>" := (name_of_methodNamed B.named B.method).1
  generalize hAe : va_A (wNX0 q0) s.heap.size = A at hD ⊢
  have hA : ∀ q : Nat, s.heap.size ≤ q → A q := fun q h => by rw [← hAe]; exact Or.inr h
  have hS : va_S A s.heap s.heap [] := va_S.rf
  have hkc := Nat.zero_le rm_X0_init.cells
  have hks := Nat.zero_le rm_X0_init.slots
  have hl := lv_entry ([.ref q0, .int p0]) (n := 2) (Nat.le_of_ble_eq_true rfl)
  rw [lg_entry_eq]
  generalize (lg_sl ([.ref q0, .int p0]) ++ List.replicate (2 - (lg_sl ([.ref q0, .int p0])).length) Slot.unset).toArray = ls at hl ⊢
  have hl : lv_has ls 2 [(0, .ref q0), (1, .int p0)] := hl
  rw [f_X0_init] at hf
  refine lv_aload_n hx hb dX0_init_0 rfl (lv_at hl 0 rfl) ?_
  refine W.objInit hx hb hown (hts _ q1) (hts _ q2) (hts _ q3) rfl (by rw [hml]; exact hl.1) rfl dX0_init_1 (Nat.le_of_ble_eq_true rfl) (Nat.le_of_ble_eq_true rfl) ?_
  refine W.eq (g2 := F0 m 4 ls []) rfl ?_
  refine lv_aload_n hx hb dX0_init_4 rfl (lv_at hl 0 rfl) ?_
  refine lv_bipush (v := 8) hx hb dX0_init_5 (by decide) ?_
  refine sb_newi hx hb (hts _ q4) hK hP hD hS hA (N' := 8) (by decide) (by decide) (Nat.le_of_ble_eq_true rfl) (Nat.le_of_ble_eq_true rfl) (Nat.le_of_ble_eq_true rfl) dX0_init_7 (fun n1 H hP hD hS => ?_)
  refine W.widen (k := 1) (n := 8) (Nat.le_refl _) (Nat.le_refl _) ?_
  have hP : va_P (dC, dI) vwCl (wNX0 q0 ++ ([(n1, .inl (cI, 8, .inl (fun _ => 0)))])) H := hP
  have hD : va_D A (wNX0 q0 ++ ([(n1, .inl (cI, 8, .inl (fun _ => 0)))])) := hD
  refine va_putF (D := (dC, dI)) (ci := 0) (v := .ref n1) (ty := (.array .int)) (C := RX0) (T := TX0) (N := 4) hx hb hts iX0 tyX0 tyX0_ok nmX0 hown hK hP hD hS 0 rfl rfl 1 (by decide) (hts _ q5) (fun _ h9 => h9) rfl hin rfl (by decide +kernel) rfl rfl (Nat.le_of_ble_eq_true rfl) dX0_init_9 (fun H locs hP hD hS => ?_)
  have hP : va_P (dC, dI) vwCl ([(q0, .inr (0, [.int 0, .ref n1, .null, .null]))] ++ ([(n1, .inl (cI, 8, .inl (fun _ => 0)))])) H := hP
  have hD : va_D A ([(q0, .inr (0, [.int 0, .ref n1, .null, .null]))] ++ ([(n1, .inl (cI, 8, .inl (fun _ => 0)))])) := hD
  refine lv_aload_n hx hb dX0_init_12 rfl (lv_at hl 0 rfl) ?_
  refine lv_bipush (v := 8) hx hb dX0_init_13 (by decide) ?_
  refine sb_newi hx hb (hts _ q4) hK hP hD hS hA (N' := 8) (by decide) (by decide) (Nat.le_of_ble_eq_true rfl) (Nat.le_of_ble_eq_true rfl) (Nat.le_of_ble_eq_true rfl) dX0_init_15 (fun n2 H hP hD hS => ?_)
  refine W.widen (k := 2) (n := 16) (Nat.le_refl _) (Nat.le_refl _) ?_
  have hP : va_P (dC, dI) vwCl ([(q0, .inr (0, [.int 0, .ref n1, .null, .null]))] ++ ([(n1, .inl (cI, 8, .inl (fun _ => 0)))] ++ ([(n2, .inl (cI, 8, .inl (fun _ => 0)))]))) H := hP
  have hD : va_D A ([(q0, .inr (0, [.int 0, .ref n1, .null, .null]))] ++ ([(n1, .inl (cI, 8, .inl (fun _ => 0)))] ++ ([(n2, .inl (cI, 8, .inl (fun _ => 0)))]))) := hD
  refine va_putF (D := (dC, dI)) (ci := 0) (v := .ref n2) (ty := (.array .int)) (C := RX0) (T := TX0) (N := 4) hx hb hts iX0 tyX0 tyX0_ok nmX0 hown hK hP hD hS 0 rfl rfl 2 (by decide) (hts _ q6) (fun _ h9 => h9) rfl hin rfl (by decide +kernel) rfl rfl (Nat.le_of_ble_eq_true rfl) dX0_init_17 (fun H locs hP hD hS => ?_)
  have hP : va_P (dC, dI) vwCl ([(q0, .inr (0, [.int 0, .ref n1, .ref n2, .null]))] ++ ([(n1, .inl (cI, 8, .inl (fun _ => 0)))] ++ ([(n2, .inl (cI, 8, .inl (fun _ => 0)))]))) H := hP
  have hD : va_D A ([(q0, .inr (0, [.int 0, .ref n1, .ref n2, .null]))] ++ ([(n1, .inl (cI, 8, .inl (fun _ => 0)))] ++ ([(n2, .inl (cI, 8, .inl (fun _ => 0)))]))) := hD
  refine lv_aload_n hx hb dX0_init_20 rfl (lv_at hl 0 rfl) ?_
  refine lv_bipush (v := 96) hx hb dX0_init_21 (by decide) ?_
  refine sb_newi hx hb (hts _ q4) hK hP hD hS hA (N' := 96) (by decide) (by decide) (Nat.le_of_ble_eq_true rfl) (Nat.le_of_ble_eq_true rfl) (Nat.le_of_ble_eq_true rfl) dX0_init_23 (fun n3 H hP hD hS => ?_)
  refine W.widen (k := 3) (n := 112) (Nat.le_refl _) (Nat.le_refl _) ?_
  have hP : va_P (dC, dI) vwCl ([(q0, .inr (0, [.int 0, .ref n1, .ref n2, .null]))] ++ ([(n1, .inl (cI, 8, .inl (fun _ => 0)))] ++ ([(n2, .inl (cI, 8, .inl (fun _ => 0)))] ++ ([(n3, .inl (cI, 96, .inl (fun _ => 0)))])))) H := hP
  have hD : va_D A ([(q0, .inr (0, [.int 0, .ref n1, .ref n2, .null]))] ++ ([(n1, .inl (cI, 8, .inl (fun _ => 0)))] ++ ([(n2, .inl (cI, 8, .inl (fun _ => 0)))] ++ ([(n3, .inl (cI, 96, .inl (fun _ => 0)))])))) := hD
  refine va_putF (D := (dC, dI)) (ci := 0) (v := .ref n3) (ty := (.array .int)) (C := RX0) (T := TX0) (N := 4) hx hb hts iX0 tyX0 tyX0_ok nmX0 hown hK hP hD hS 0 rfl rfl 3 (by decide) (hts _ q7) (fun _ h9 => h9) rfl hin rfl (by decide +kernel) rfl rfl (Nat.le_of_ble_eq_true rfl) dX0_init_25 (fun H locs hP hD hS => ?_)
  have hP : va_P (dC, dI) vwCl ([(q0, .inr (0, [.int 0, .ref n1, .ref n2, .ref n3]))] ++ ([(n1, .inl (cI, 8, .inl (fun _ => 0)))] ++ ([(n2, .inl (cI, 8, .inl (fun _ => 0)))] ++ ([(n3, .inl (cI, 96, .inl (fun _ => 0)))])))) H := hP
  have hD : va_D A ([(q0, .inr (0, [.int 0, .ref n1, .ref n2, .ref n3]))] ++ ([(n1, .inl (cI, 8, .inl (fun _ => 0)))] ++ ([(n2, .inl (cI, 8, .inl (fun _ => 0)))] ++ ([(n3, .inl (cI, 96, .inl (fun _ => 0)))])))) := hD
  refine lv_aload_n hx hb dX0_init_28 rfl (lv_at hl 0 rfl) ?_
  refine lv_iload_n hx hb dX0_init_29 rfl (lv_at hl 1 rfl) ?_
  refine va_put (D := (dC, dI)) (ci := 0) (v := .int p0) (ty := .int) (C := RX0) (T := TX0) (N := 4) hx hb hts iX0 tyX0 tyX0_ok nmX0 hown hK hP hD hS 0 rfl rfl 0 (by decide) (hts _ q8) (fun _ h9 => h9) rfl (by decide +kernel) rfl rfl (Nat.le_of_ble_eq_true rfl) dX0_init_30 (fun H locs hP hD hS => ?_)
  have hP : va_P (dC, dI) vwCl ([(q0, .inr (0, [.int p0, .ref n1, .ref n2, .ref n3]))] ++ ([(n1, .inl (cI, 8, .inl (fun _ => 0)))] ++ ([(n2, .inl (cI, 8, .inl (fun _ => 0)))] ++ ([(n3, .inl (cI, 96, .inl (fun _ => 0)))])))) H := hP
  have hD : va_D A ([(q0, .inr (0, [.int p0, .ref n1, .ref n2, .ref n3]))] ++ ([(n1, .inl (cI, 8, .inl (fun _ => 0)))] ++ ([(n2, .inl (cI, 8, .inl (fun _ => 0)))] ++ ([(n3, .inl (cI, 96, .inl (fun _ => 0)))])))) := hD
  have hP : va_P (dC, dI) vwCl (wDK cI cF cJ q0 n1 n2 n3 (p0, (fun _ => 0), (fun _ => 0), (fun _ => 0))) H := hP.sub [0, 1, 2, 3] rfl
  have hD : va_D A (wDK cI cF cJ q0 n1 n2 n3 (p0, (fun _ => 0), (fun _ => 0), (fun _ => 0))) := hD.sub [0, 1, 2, 3] (by decide) rfl
  obtain rfl := Option.some.inj hf
  exact W.vret hx hb hr (fun t ht hW => ⟨⟨(n1, n2, n3), rfl, trivial, by rw [ht]; exact hP, hD⟩, hS.F ht⟩) hS.2.2 dX0_init_33
noncomputable def f_X1_init (p0 : Int32) (p1 : Int32) : Option (FR) := jn (fun (b2 : Int32) => obd (f_X0_init b2) fun x3 => jn (fun (b11 : Int32) => obd (f_X0_init b11) fun x12 => some (p0, p1, x3, x12, 0, 0, 0, 0, 0, 0, 0, 0, 0)) fun J72 => if p0 < 0 then (J72 0) else (if (3 : Int32) ≤ p0 then (J72 0) else (gd (gin p0 3) <| bnd (bBe (Int32.toNatClampNeg p0)) fun (v30 : Int32) => J72 v30))) fun J40 => if p0 < 0 then (J40 0) else (if (3 : Int32) ≤ p0 then (J40 0) else (gd (gin p0 3) <| bnd (bAb (Int32.toNatClampNeg p0)) fun (v63 : Int32) => J40 v63))
theorem pc_X1_init : yX1_init.cls = RX1 ∧ yX1_init.cls ≠ "java/lang/invoke/MethodHandle" ∧ yX1_init.cls ≠ "java/lang/invoke/VarHandle" ∧ (parseMethodDescriptor yX1_init.desc).map (fun d => d.parameters.length) = some 2 := by decide +kernel
theorem pi_X1_init : yX1_init.cls ≠ "java/lang/invoke/MethodHandle" ∧ yX1_init.cls ≠ "java/lang/invoke/VarHandle" ∧ (parseMethodDescriptor yX1_init.desc).map (fun d => d.parameters.length) = some 2 := by decide +kernel
abbrev rm_X1_init : Room := { frames := 2, cells := 8, slots := 232, locals := 42 }
set_option maxHeartbeats 4000000 in
set_option maxRecDepth 100000 in
theorem c_X1_init (l : Launch) (dC : Nat → ClassId) (dI : Nat → Nat → Nat) (cI cF cJ cD : ClassId) (b L : Nat) (xs : Nat → Int32) (tA tB : Nat) (q0 : Nat) (p0 : Int32) (p1 : Int32) (res : (FR)) (hf : f_X1_init p0 p1 = some res) (sz : Nat) : Met l yX1_init (ws_ yX1_init cX1_init 3 none) rm_X1_init (sbPre (dC, dI) (TY cI cF cJ cD) (wNX1 q0) (fun sz U => EX b L xs tA tB (va_A (wNX1 q0) sz) U) sz [.ref q0, .int p0, .int p1]) (va_Qv (fun (_ : Nat × Nat × Nat × Nat × Nat × Nat × Nat × Nat) => True) (sbEnd (dC, dI) (fun (u : Nat × Nat × Nat × Nat × Nat × Nat × Nat × Nat) => wFR cI cF cJ q0 u.1 u.2.1 u.2.2.1 u.2.2.2.1 u.2.2.2.2.1 u.2.2.2.2.2.1 u.2.2.2.2.2.2.1 u.2.2.2.2.2.2.2 res) (va_A (wNX1 q0) sz)) (va_A (wNX1 q0) sz)) 8 232 (va_A (wNX1 q0) sz) := by
  refine Met.ofW (cc := cX1_init) (maxL := 3) (ret := none) (by decide) rfl ?_
  intro p e s m args below meth c s₁ B hml hv
  obtain ⟨rfl, hsz, hP, hK, hD0, hE⟩ := hv
  have hx := B.exec
  have hb := B.bytes
  have hr := B.returns
  have hts0 := atoms_spec (ws := ws_ yX1_init cX1_init 3 none) B.pre
  have hts := fun (w : Cond) (h : w ∈ LW) => hts0 w (List.mem_cons_of_mem _ h)
  have hown : s.vm.findClass RX1 = some m.cls := findClass_of_methodNamed B.named
  have hlocks := B.notSynchronized
  subst hsz
  have hD := hD0.self (sz := s.heap.size)
  have hin : meth.name = "<init>" := (name_of_methodNamed B.named B.method).1
  have hE : EX b L xs tA tB (va_A (wNX1 q0) s.heap.size) s := hE
  generalize hAe : va_A (wNX1 q0) s.heap.size = A at hD hE ⊢
  have hA : ∀ q : Nat, s.heap.size ≤ q → A q := fun q h => by rw [← hAe]; exact Or.inr h
  have hS : va_S A s.heap s.heap [] := va_S.rf
  have hkc := Nat.zero_le rm_X1_init.cells
  have hks := Nat.zero_le rm_X1_init.slots
  have hl := lv_entry ([.ref q0, .int p0, .int p1]) (n := 3) (Nat.le_of_ble_eq_true rfl)
  rw [lg_entry_eq]
  generalize (lg_sl ([.ref q0, .int p0, .int p1]) ++ List.replicate (3 - (lg_sl ([.ref q0, .int p0, .int p1])).length) Slot.unset).toArray = ls at hl ⊢
  have hl : lv_has ls 3 [(0, .ref q0), (1, .int p0), (2, .int p1)] := hl
  rw [f_X1_init] at hf
  refine lv_aload_n hx hb dX1_init_0 rfl (lv_at hl 0 rfl) ?_
  refine W.objInit hx hb hown (hts _ q25) (hts _ q2) (hts _ q3) rfl (by rw [hml]; exact hl.1) rfl dX1_init_1 (Nat.le_of_ble_eq_true rfl) (Nat.le_of_ble_eq_true rfl) ?_
  refine W.eq (g2 := F0 m 4 ls []) rfl ?_
  refine lv_aload_n hx hb dX1_init_4 rfl (lv_at hl 0 rfl) ?_
  refine lv_iload_n hx hb dX1_init_5 rfl (lv_at hl 1 rfl) ?_
  refine va_put (D := (dC, dI)) (ci := 1) (v := .int p0) (ty := .int) (C := RX1) (T := TX1) (N := 13) hx hb hts iX1 tyX1 tyX1_ok nmX1 hown hK hP hD hS 0 rfl rfl 0 (by decide) (hts _ q26) (fun _ h9 => h9) rfl (by decide +kernel) rfl rfl (Nat.le_of_ble_eq_true rfl) dX1_init_6 (fun H locs hP hD hS => ?_)
  have hP : va_P (dC, dI) vwCl ([(q0, .inr (1, [.int p0, .int 0, .null, .null, .int 0, .float 0, .int 0, .int 0, .int 0, .int 0, .int 0, .int 0, .int 0]))]) H := hP
  have hD : va_D A ([(q0, .inr (1, [.int p0, .int 0, .null, .null, .int 0, .float 0, .int 0, .int 0, .int 0, .int 0, .int 0, .int 0, .int 0]))]) := hD
  refine lv_aload_n hx hb dX1_init_9 rfl (lv_at hl 0 rfl) ?_
  refine lv_iload_n hx hb dX1_init_10 rfl (lv_at hl 2 rfl) ?_
  refine va_put (D := (dC, dI)) (ci := 1) (v := .int p1) (ty := .int) (C := RX1) (T := TX1) (N := 13) hx hb hts iX1 tyX1 tyX1_ok nmX1 hown hK hP hD hS 0 rfl rfl 1 (by decide) (hts _ q27) (fun _ h9 => h9) rfl (by decide +kernel) rfl rfl (Nat.le_of_ble_eq_true rfl) dX1_init_11 (fun H locs hP hD hS => ?_)
  have hP : va_P (dC, dI) vwCl ([(q0, .inr (1, [.int p0, .int p1, .null, .null, .int 0, .float 0, .int 0, .int 0, .int 0, .int 0, .int 0, .int 0, .int 0]))]) H := hP
  have hD : va_D A ([(q0, .inr (1, [.int p0, .int p1, .null, .null, .int 0, .float 0, .int 0, .int 0, .int 0, .int 0, .int 0, .int 0, .int 0]))]) := hD
  refine lv_aload_n hx hb dX1_init_14 rfl (lv_at hl 0 rfl) ?_
  refine va_new (ci := 0) (fs := [.int 0, .null, .null, .null]) (C := RX0) (T := TX0) (N := 4) hx hb hts iX0 tyX0 tyX0_ok hown (hts _ q28) (hts _ q29) (hts _ q15) hK hP hD hS hA rfl (fun j hj => by rcases (show j = 0 ∨ j = 1 ∨ j = 2 ∨ j = 3 by omega) with rfl | rfl | rfl | rfl <;> rfl) (Nat.le_of_ble_eq_true rfl) (Nat.le_of_ble_eq_true rfl) dX1_init_15 (fun n1 H hP hD hS => ?_)
  refine W.widen (k := 1) (n := 4) (Nat.le_refl _) (Nat.le_refl _) ?_
  have hP : va_P (dC, dI) vwCl ([(q0, .inr (1, [.int p0, .int p1, .null, .null, .int 0, .float 0, .int 0, .int 0, .int 0, .int 0, .int 0, .int 0, .int 0]))] ++ (wNX0 n1)) H := hP
  have hD : va_D A ([(q0, .inr (1, [.int p0, .int p1, .null, .null, .int 0, .float 0, .int 0, .int 0, .int 0, .int 0, .int 0, .int 0, .int 0]))] ++ (wNX0 n1)) := hD
  refine lv_dup hx hb dX1_init_18 rfl ?_
  refine lv_iload_n hx hb dX1_init_19 rfl (lv_at hl 1 rfl) ?_
  obtain ⟨J40, eJ40, hf⟩ := jn_e hf
  have hJ40 : ∀ (b31 : Int32) (H : Heap) (locs : List Loc) (ls : Array Slot), va_P (dC, dI) vwCl ([(q0, .inr (1, [.int p0, .int p1, .null, .null, .int 0, .float 0, .int 0, .int 0, .int 0, .int 0, .int 0, .int 0, .int 0]))] ++ (wNX0 n1)) H → va_D A ([(q0, .inr (1, [.int p0, .int p1, .null, .null, .int 0, .float 0, .int 0, .int 0, .int 0, .int 0, .int 0, .int 0, .int 0]))] ++ (wNX0 n1)) → va_S A s.heap H locs → lv_has ls 3 [(0, .ref q0), (1, .int p0)] → J40 b31 = some res → W p l e (headSpec (ws_ yX1_init cX1_init 3 none) rm_X1_init).room s m ([.ref q0, .int p0, .int p1].toArray) below meth c H locs 1 4 (MQ below (va_Qv (fun (_ : Nat × Nat × Nat × Nat × Nat × Nat × Nat × Nat) => True) (sbEnd (dC, dI) (fun (u : Nat × Nat × Nat × Nat × Nat × Nat × Nat × Nat) => wFR cI cF cJ q0 u.1 u.2.1 u.2.2.1 u.2.2.2.1 u.2.2.2.2.1 u.2.2.2.2.2.1 u.2.2.2.2.2.2.1 u.2.2.2.2.2.2.2 res) (A)) (A)) ([.ref q0, .int p0, .int p1].toArray) s 8 232 A) (F0 m 40 ls [.int b31, .ref n1, .ref n1, .ref q0]) := by
    intro b31 H locs ls hP hD hS hl hf
    subst eJ40
    obtain ⟨x32, hx32, hf⟩ := obd_e hf
    refine sb_Iv (As := [.int b31]) (rest := [.ref n1, .ref q0]) ⟨hx, hb, hml, hown, hts⟩ (fun sz => c_X0_init l dC dI cI cF cJ cD n1 b31  x32 hx32 sz) (cwI 1 hts (g_ws zq0) rfl rfl rfl (hts _ q15) (hts _ q32) (hts _ q33) rfl pi_X0_init ⟨Nat.le_of_ble_eq_true rfl, Nat.le_of_ble_eq_true rfl⟩)  hK hP hD hS hA [1] [0] rfl rfl (by decide) (by decide) (by decide) (fun _ _ _ _ h => h) (fun _ _ _ => trivial) rfl rfl hl.1 (Nat.le_of_ble_eq_true rfl) dX1_init_40 ⟨Nat.le_of_ble_eq_true rfl, Nat.le_of_ble_eq_true rfl⟩ (fun u H locs hr9 hP hD hS => ?_)
    refine W.widen (k := 4) (n := 116) (Nat.le_refl _) (Nat.le_refl _) ?_
    obtain ⟨n33, n34, n35⟩ := u
    have hP : va_P (dC, dI) vwCl ([(q0, .inr (1, [.int p0, .int p1, .null, .null, .int 0, .float 0, .int 0, .int 0, .int 0, .int 0, .int 0, .int 0, .int 0]))] ++ (wDK cI cF cJ n1 n33 n34 n35 x32)) H := hP
    have hD : va_D A ([(q0, .inr (1, [.int p0, .int p1, .null, .null, .int 0, .float 0, .int 0, .int 0, .int 0, .int 0, .int 0, .int 0, .int 0]))] ++ (wDK cI cF cJ n1 n33 n34 n35 x32)) := hD
    refine va_putF (D := (dC, dI)) (ci := 1) (v := .ref n1) (ty := (.object "SorobanHall$Deck")) (C := RX1) (T := TX1) (N := 13) hx hb hts iX1 tyX1 tyX1_ok nmX1 hown hK hP hD hS 0 rfl rfl 2 (by decide) (hts _ q30) (fun _ h9 => h9) rfl hin rfl (by decide +kernel) rfl rfl (Nat.le_of_ble_eq_true rfl) dX1_init_43 (fun H locs hP hD hS => ?_)
    have hP : va_P (dC, dI) vwCl ([(q0, .inr (1, [.int p0, .int p1, .ref n1, .null, .int 0, .float 0, .int 0, .int 0, .int 0, .int 0, .int 0, .int 0, .int 0]))] ++ (wDK cI cF cJ n1 n33 n34 n35 x32)) H := hP
    have hD : va_D A ([(q0, .inr (1, [.int p0, .int p1, .ref n1, .null, .int 0, .float 0, .int 0, .int 0, .int 0, .int 0, .int 0, .int 0, .int 0]))] ++ (wDK cI cF cJ n1 n33 n34 n35 x32)) := hD
    refine lv_aload_n hx hb dX1_init_46 rfl (lv_at hl 0 rfl) ?_
    refine va_new (ci := 0) (fs := [.int 0, .null, .null, .null]) (C := RX0) (T := TX0) (N := 4) hx hb hts iX0 tyX0 tyX0_ok hown (hts _ q28) (hts _ q29) (hts _ q15) hK hP hD hS hA rfl (fun j hj => by rcases (show j = 0 ∨ j = 1 ∨ j = 2 ∨ j = 3 by omega) with rfl | rfl | rfl | rfl <;> rfl) (Nat.le_of_ble_eq_true rfl) (Nat.le_of_ble_eq_true rfl) dX1_init_47 (fun n39 H hP hD hS => ?_)
    refine W.widen (k := 5) (n := 120) (Nat.le_refl _) (Nat.le_refl _) ?_
    have hP : va_P (dC, dI) vwCl ([(q0, .inr (1, [.int p0, .int p1, .ref n1, .null, .int 0, .float 0, .int 0, .int 0, .int 0, .int 0, .int 0, .int 0, .int 0]))] ++ (wDK cI cF cJ n1 n33 n34 n35 x32 ++ (wNX0 n39))) H := hP
    have hD : va_D A ([(q0, .inr (1, [.int p0, .int p1, .ref n1, .null, .int 0, .float 0, .int 0, .int 0, .int 0, .int 0, .int 0, .int 0, .int 0]))] ++ (wDK cI cF cJ n1 n33 n34 n35 x32 ++ (wNX0 n39))) := hD
    refine lv_dup hx hb dX1_init_50 rfl ?_
    refine lv_iload_n hx hb dX1_init_51 rfl (lv_at hl 1 rfl) ?_
    obtain ⟨J72, eJ72, hf⟩ := jn_e hf
    have hJ72 : ∀ (b48 : Int32) (H : Heap) (locs : List Loc) (ls : Array Slot), va_P (dC, dI) vwCl ([(q0, .inr (1, [.int p0, .int p1, .ref n1, .null, .int 0, .float 0, .int 0, .int 0, .int 0, .int 0, .int 0, .int 0, .int 0]))] ++ (wDK cI cF cJ n1 n33 n34 n35 x32 ++ (wNX0 n39))) H → va_D A ([(q0, .inr (1, [.int p0, .int p1, .ref n1, .null, .int 0, .float 0, .int 0, .int 0, .int 0, .int 0, .int 0, .int 0, .int 0]))] ++ (wDK cI cF cJ n1 n33 n34 n35 x32 ++ (wNX0 n39))) → va_S A s.heap H locs → lv_has ls 3 [] → J72 b48 = some res → W p l e (headSpec (ws_ yX1_init cX1_init 3 none) rm_X1_init).room s m ([.ref q0, .int p0, .int p1].toArray) below meth c H locs 5 120 (MQ below (va_Qv (fun (_ : Nat × Nat × Nat × Nat × Nat × Nat × Nat × Nat) => True) (sbEnd (dC, dI) (fun (u : Nat × Nat × Nat × Nat × Nat × Nat × Nat × Nat) => wFR cI cF cJ q0 u.1 u.2.1 u.2.2.1 u.2.2.2.1 u.2.2.2.2.1 u.2.2.2.2.2.1 u.2.2.2.2.2.2.1 u.2.2.2.2.2.2.2 res) (A)) (A)) ([.ref q0, .int p0, .int p1].toArray) s 8 232 A) (F0 m 72 ls [.int b48, .ref n39, .ref n39, .ref q0]) := by
      intro b48 H locs ls hP hD hS hl hf
      subst eJ72
      obtain ⟨x49, hx49, hf⟩ := obd_e hf
      refine sb_Iv (As := [.int b48]) (rest := [.ref n39, .ref q0]) ⟨hx, hb, hml, hown, hts⟩ (fun sz => c_X0_init l dC dI cI cF cJ cD n39 b48  x49 hx49 sz) (cwI 1 hts (g_ws zq0) rfl rfl rfl (hts _ q15) (hts _ q32) (hts _ q33) rfl pi_X0_init ⟨Nat.le_of_ble_eq_true rfl, Nat.le_of_ble_eq_true rfl⟩)  hK hP hD hS hA [5] [0, 1, 2, 3, 4] rfl rfl (by decide) (by decide) (by decide) (fun _ _ _ _ h => h) (fun _ _ _ => trivial) rfl rfl hl.1 (Nat.le_of_ble_eq_true rfl) dX1_init_72 ⟨Nat.le_of_ble_eq_true rfl, Nat.le_of_ble_eq_true rfl⟩ (fun u H locs hr9 hP hD hS => ?_)
      refine W.widen (k := 8) (n := 232) (Nat.le_refl _) (Nat.le_refl _) ?_
      obtain ⟨n50, n51, n52⟩ := u
      have hP : va_P (dC, dI) vwCl ([(q0, .inr (1, [.int p0, .int p1, .ref n1, .null, .int 0, .float 0, .int 0, .int 0, .int 0, .int 0, .int 0, .int 0, .int 0]))] ++ (wDK cI cF cJ n1 n33 n34 n35 x32 ++ (wDK cI cF cJ n39 n50 n51 n52 x49))) H := hP
      have hD : va_D A ([(q0, .inr (1, [.int p0, .int p1, .ref n1, .null, .int 0, .float 0, .int 0, .int 0, .int 0, .int 0, .int 0, .int 0, .int 0]))] ++ (wDK cI cF cJ n1 n33 n34 n35 x32 ++ (wDK cI cF cJ n39 n50 n51 n52 x49))) := hD
      refine va_putF (D := (dC, dI)) (ci := 1) (v := .ref n39) (ty := (.object "SorobanHall$Deck")) (C := RX1) (T := TX1) (N := 13) hx hb hts iX1 tyX1 tyX1_ok nmX1 hown hK hP hD hS 0 rfl rfl 3 (by decide) (hts _ q31) (fun _ h9 => h9) rfl hin rfl (by decide +kernel) rfl rfl (Nat.le_of_ble_eq_true rfl) dX1_init_75 (fun H locs hP hD hS => ?_)
      have hP : va_P (dC, dI) vwCl ([(q0, .inr (1, [.int p0, .int p1, .ref n1, .ref n39, .int 0, .float 0, .int 0, .int 0, .int 0, .int 0, .int 0, .int 0, .int 0]))] ++ (wDK cI cF cJ n1 n33 n34 n35 x32 ++ (wDK cI cF cJ n39 n50 n51 n52 x49))) H := hP
      have hD : va_D A ([(q0, .inr (1, [.int p0, .int p1, .ref n1, .ref n39, .int 0, .float 0, .int 0, .int 0, .int 0, .int 0, .int 0, .int 0, .int 0]))] ++ (wDK cI cF cJ n1 n33 n34 n35 x32 ++ (wDK cI cF cJ n39 n50 n51 n52 x49))) := hD
      have hP : va_P (dC, dI) vwCl (wFR cI cF cJ q0 n1 n33 n34 n35 n39 n50 n51 n52 (p0, p1, x32, x49, 0, 0, 0, 0, 0, 0, 0, 0, 0)) H := hP.sub [0, 1, 2, 3, 4, 5, 6, 7, 8] rfl
      have hD : va_D A (wFR cI cF cJ q0 n1 n33 n34 n35 n39 n50 n51 n52 (p0, p1, x32, x49, 0, 0, 0, 0, 0, 0, 0, 0, 0)) := hD.sub [0, 1, 2, 3, 4, 5, 6, 7, 8] (by decide) rfl
      obtain rfl := Option.some.inj hf
      exact W.vret hx hb hr (fun t ht hW => ⟨⟨(n1, n33, n34, n35, n39, n50, n51, n52), rfl, trivial, by rw [ht]; exact hP, hD⟩, hS.F ht⟩) hS.2.2 dX1_init_78
    refine lv_if_lt (tgt := 71) hx hb dX1_init_52 (by decide) (fun c56 => ?_) (fun c56 => ?_)
    · have hf := ite_t hf c56
      refine lv_iconst (v := 0) hx hb dX1_init_71 (by decide) ?_
      exact hJ72 0 _ _ _ hP hD hS (lv_sub hl [] rfl) hf
    · have hf := ite_f hf c56
      refine lv_iload_n hx hb dX1_init_55 rfl (lv_at hl 1 rfl) ?_
      refine va_getsN (v := .ref tB) hx hb hE.1.2.1 hS hown (va_Nw.use rfl hE.2.1.2.1) (fun _ h9 => h9) dX1_init_56 ?_
      refine va_tlen (v := 3) hx hb hE.1.2.2.2 hS rfl dX1_init_59 ?_
      refine lv_icmp_ge (tgt := 71) hx hb dX1_init_60 (by decide) (fun c57 => ?_) (fun c57 => ?_)
      · have hf := ite_t hf c57
        refine lv_iconst (v := 0) hx hb dX1_init_71 (by decide) ?_
        exact hJ72 0 _ _ _ hP hD hS (lv_sub hl [] rfl) hf
      · have hf := ite_f hf c57
        refine va_getsN (v := .ref tB) hx hb hE.1.2.1 hS hown (va_Nw.use rfl hE.2.1.2.1) (fun _ h9 => h9) dX1_init_63 ?_
        refine lv_iload_n hx hb dX1_init_66 rfl (lv_at hl 1 rfl) ?_
        obtain ⟨g58, hf⟩ := gd_e hf
        refine va_ti hx hb hE.1.2.2.2 hS (gin_in g58) (v := .int (bBe (Int32.toNatClampNeg p0))) rfl dX1_init_67 ?_
        refine lv_topi (fun v59 ev59 => ?_)
        have hf := bnd_all hf v59 ev59
        refine lv_goto (tgt := 72) hx hb dX1_init_68 (by decide) ?_
        exact hJ72 v59 _ _ _ hP hD hS (lv_sub hl [] rfl) hf
  refine lv_if_lt (tgt := 39) hx hb dX1_init_20 (by decide) (fun c60 => ?_) (fun c60 => ?_)
  · have hf := ite_t hf c60
    refine lv_iconst (v := 0) hx hb dX1_init_39 (by decide) ?_
    exact hJ40 0 _ _ _ hP hD hS (lv_sub hl [0, 1] rfl) hf
  · have hf := ite_f hf c60
    refine lv_iload_n hx hb dX1_init_23 rfl (lv_at hl 1 rfl) ?_
    refine va_getsN (v := .ref tA) hx hb hE.1.1 hS hown (va_Nw.use rfl hE.2.1.1) (fun _ h9 => h9) dX1_init_24 ?_
    refine va_tlen (v := 3) hx hb hE.1.2.2.1 hS rfl dX1_init_27 ?_
    refine lv_icmp_ge (tgt := 39) hx hb dX1_init_28 (by decide) (fun c61 => ?_) (fun c61 => ?_)
    · have hf := ite_t hf c61
      refine lv_iconst (v := 0) hx hb dX1_init_39 (by decide) ?_
      exact hJ40 0 _ _ _ hP hD hS (lv_sub hl [0, 1] rfl) hf
    · have hf := ite_f hf c61
      refine va_getsN (v := .ref tA) hx hb hE.1.1 hS hown (va_Nw.use rfl hE.2.1.1) (fun _ h9 => h9) dX1_init_31 ?_
      refine lv_iload_n hx hb dX1_init_34 rfl (lv_at hl 1 rfl) ?_
      obtain ⟨g62, hf⟩ := gd_e hf
      refine va_ti hx hb hE.1.2.2.1 hS (gin_in g62) (v := .int (bAb (Int32.toNatClampNeg p0))) rfl dX1_init_35 ?_
      refine lv_topi (fun v63 ev63 => ?_)
      have hf := bnd_all hf v63 ev63
      refine lv_goto (tgt := 40) hx hb dX1_init_36 (by decide) ?_
      exact hJ40 v63 _ _ _ hP hD hS (lv_sub hl [0, 1] rfl) hf
noncomputable def f_X2_init : Option (HB × FR) := obd (f_X1_init 0 2) fun x3 => some ((0, 0), x3)
theorem pc_X2_init : yX2_init.cls = RX2 ∧ yX2_init.cls ≠ "java/lang/invoke/MethodHandle" ∧ yX2_init.cls ≠ "java/lang/invoke/VarHandle" ∧ (parseMethodDescriptor yX2_init.desc).map (fun d => d.parameters.length) = some 0 := by decide +kernel
theorem pi_X2_init : yX2_init.cls ≠ "java/lang/invoke/MethodHandle" ∧ yX2_init.cls ≠ "java/lang/invoke/VarHandle" ∧ (parseMethodDescriptor yX2_init.desc).map (fun d => d.parameters.length) = some 0 := by decide +kernel
abbrev rm_X2_init : Room := { frames := 3, cells := 10, slots := 249, locals := 64 }
set_option maxHeartbeats 4000000 in
set_option maxRecDepth 100000 in
theorem c_X2_init (l : Launch) (dC : Nat → ClassId) (dI : Nat → Nat → Nat) (cI cF cJ cD : ClassId) (b L : Nat) (xs : Nat → Int32) (tA tB : Nat) (h : Nat) (res : (HB × FR)) (hf : f_X2_init = some res) (sz : Nat) : Met l yX2_init (ws_ yX2_init cX2_init 1 none) rm_X2_init (sbPre (dC, dI) (TY cI cF cJ cD) (wNX2 h) (fun sz U => EX b L xs tA tB (va_A (wNX2 h) sz) U) sz [.ref h]) (va_Qv (fun (_ : Nat × Nat × Nat × Nat × Nat × Nat × Nat × Nat × Nat × Nat) => True) (sbEnd (dC, dI) (fun (u : Nat × Nat × Nat × Nat × Nat × Nat × Nat × Nat × Nat × Nat) => wHB cI cF cJ h u.1 u.2.1 (fun _ => none) res.1 ++ (wFR cI cF cJ u.2.1 u.2.2.1 u.2.2.2.1 u.2.2.2.2.1 u.2.2.2.2.2.1 u.2.2.2.2.2.2.1 u.2.2.2.2.2.2.2.1 u.2.2.2.2.2.2.2.2.1 u.2.2.2.2.2.2.2.2.2 res.2)) (va_A (wNX2 h) sz)) (va_A (wNX2 h) sz)) 10 249 (va_A (wNX2 h) sz) := by
  refine Met.ofW (cc := cX2_init) (maxL := 1) (ret := none) (by decide) rfl ?_
  intro p e s m args below meth c s₁ B hml hv
  obtain ⟨rfl, hsz, hP, hK, hD0, hE⟩ := hv
  have hx := B.exec
  have hb := B.bytes
  have hr := B.returns
  have hts0 := atoms_spec (ws := ws_ yX2_init cX2_init 1 none) B.pre
  have hts := fun (w : Cond) (h : w ∈ LW) => hts0 w (List.mem_cons_of_mem _ h)
  have hown : s.vm.findClass RX2 = some m.cls := findClass_of_methodNamed B.named
  have hlocks := B.notSynchronized
  subst hsz
  have hD := hD0.self (sz := s.heap.size)
  have hin : meth.name = "<init>" := (name_of_methodNamed B.named B.method).1
  have hE : EX b L xs tA tB (va_A (wNX2 h) s.heap.size) s := hE
  generalize hAe : va_A (wNX2 h) s.heap.size = A at hD hE ⊢
  have hA : ∀ q : Nat, s.heap.size ≤ q → A q := fun q h => by rw [← hAe]; exact Or.inr h
  have hS : va_S A s.heap s.heap [] := va_S.rf
  have hkc := Nat.zero_le rm_X2_init.cells
  have hks := Nat.zero_le rm_X2_init.slots
  have hl := lv_entry ([.ref h]) (n := 1) (Nat.le_of_ble_eq_true rfl)
  rw [lg_entry_eq]
  generalize (lg_sl ([.ref h]) ++ List.replicate (1 - (lg_sl ([.ref h])).length) Slot.unset).toArray = ls at hl ⊢
  have hl : lv_has ls 1 [(0, .ref h)] := hl
  rw [f_X2_init] at hf
  refine lv_aload_n hx hb dX2_init_0 rfl (lv_at hl 0 rfl) ?_
  refine W.objInit hx hb hown (hts _ q150) (hts _ q2) (hts _ q3) rfl (by rw [hml]; exact hl.1) rfl dX2_init_1 (Nat.le_of_ble_eq_true rfl) (Nat.le_of_ble_eq_true rfl) ?_
  refine W.eq (g2 := F0 m 4 ls []) rfl ?_
  refine lv_aload_n hx hb dX2_init_4 rfl (lv_at hl 0 rfl) ?_
  refine lv_iconst (v := 4) hx hb dX2_init_5 (by decide) ?_
  refine sb_newq (N' := 4) hx hb hown (hts _ q151) hE.2.1.2.2.2.2.1 hK hP hD hS hA (by decide) (by decide) (Nat.le_of_ble_eq_true rfl) (Nat.le_of_ble_eq_true rfl) (Nat.le_of_ble_eq_true rfl) dX2_init_6 (fun n1 H hP hD hS => ?_)
  refine W.widen (k := 1) (n := 4) (Nat.le_refl _) (Nat.le_refl _) ?_
  have hP : va_P (dC, dI) vwCl (wNX2 h ++ ([(n1, .inl (cF, 4, .inr (.inr (.inr (.inr (fun _ => none))))))])) H := hP
  have hD : va_D A (wNX2 h ++ ([(n1, .inl (cF, 4, .inr (.inr (.inr (.inr (fun _ => none))))))])) := hD
  refine va_putF (D := (dC, dI)) (ci := 2) (v := .ref n1) (ty := (.array (.object "SorobanHall$Frame"))) (C := RX2) (T := TX2) (N := 4) hx hb hts iX2 tyX2 tyX2_ok nmX2 hown hK hP hD hS 0 rfl rfl 0 (by decide) (hts _ q152) (fun _ h9 => h9) rfl hin rfl (by decide +kernel) rfl rfl (Nat.le_of_ble_eq_true rfl) dX2_init_9 (fun H locs hP hD hS => ?_)
  have hP : va_P (dC, dI) vwCl ([(h, .inr (2, [.ref n1, .null, .int 0, .int 0]))] ++ ([(n1, .inl (cF, 4, .inr (.inr (.inr (.inr (fun _ => none))))))])) H := hP
  have hD : va_D A ([(h, .inr (2, [.ref n1, .null, .int 0, .int 0]))] ++ ([(n1, .inl (cF, 4, .inr (.inr (.inr (.inr (fun _ => none))))))])) := hD
  refine lv_aload_n hx hb dX2_init_12 rfl (lv_at hl 0 rfl) ?_
  refine va_new (ci := 1) (fs := [.int 0, .int 0, .null, .null, .int 0, .float 0, .int 0, .int 0, .int 0, .int 0, .int 0, .int 0, .int 0]) (C := RX1) (T := TX1) (N := 13) hx hb hts iX1 tyX1 tyX1_ok hown (hts _ q151) (hts _ q153) (hts _ q56) hK hP hD hS hA rfl (fun j hj => by rcases (show j = 0 ∨ j = 1 ∨ j = 2 ∨ j = 3 ∨ j = 4 ∨ j = 5 ∨ j = 6 ∨ j = 7 ∨ j = 8 ∨ j = 9 ∨ j = 10 ∨ j = 11 ∨ j = 12 by omega) with rfl | rfl | rfl | rfl | rfl | rfl | rfl | rfl | rfl | rfl | rfl | rfl | rfl <;> rfl) (Nat.le_of_ble_eq_true rfl) (Nat.le_of_ble_eq_true rfl) dX2_init_13 (fun n2 H hP hD hS => ?_)
  refine W.widen (k := 2) (n := 17) (Nat.le_refl _) (Nat.le_refl _) ?_
  have hP : va_P (dC, dI) vwCl ([(h, .inr (2, [.ref n1, .null, .int 0, .int 0]))] ++ ([(n1, .inl (cF, 4, .inr (.inr (.inr (.inr (fun _ => none))))))] ++ (wNX1 n2))) H := hP
  have hD : va_D A ([(h, .inr (2, [.ref n1, .null, .int 0, .int 0]))] ++ ([(n1, .inl (cF, 4, .inr (.inr (.inr (.inr (fun _ => none))))))] ++ (wNX1 n2))) := hD
  refine lv_dup hx hb dX2_init_16 rfl ?_
  refine lv_iconst (v := 0) hx hb dX2_init_17 (by decide) ?_
  refine lv_iconst (v := 2) hx hb dX2_init_18 (by decide) ?_
  obtain ⟨x3, hx3, hf⟩ := obd_e hf
  refine sb_Iv (As := [.int 0, .int 2]) (rest := [.ref n2, .ref h]) ⟨hx, hb, hml, hown, hts⟩ (fun sz => c_X1_init l dC dI cI cF cJ cD b L xs tA tB n2 0 2  x3 hx3 sz) (cwI 2 hts (g_ws q24) rfl rfl rfl (hts _ q56) (hts _ q155) (hts _ q156) rfl pi_X1_init ⟨Nat.le_of_ble_eq_true rfl, Nat.le_of_ble_eq_true rfl⟩)  hK hP hD hS hA [2] [0, 1] rfl rfl (by decide) (by decide) (by decide) EX_blind (fun U hU hW => EX_pass hE hS (va_free hD hS hA [2] rfl) hU hW) rfl rfl hl.1 (Nat.le_of_ble_eq_true rfl) dX2_init_19 ⟨Nat.le_of_ble_eq_true rfl, Nat.le_of_ble_eq_true rfl⟩ (fun u H locs hr9 hP hD hS => ?_)
  refine W.widen (k := 10) (n := 249) (Nat.le_refl _) (Nat.le_refl _) ?_
  obtain ⟨n4, n5, n6, n7, n8, n9, n10, n11⟩ := u
  have hP : va_P (dC, dI) vwCl ([(h, .inr (2, [.ref n1, .null, .int 0, .int 0]))] ++ ([(n1, .inl (cF, 4, .inr (.inr (.inr (.inr (fun _ => none))))))] ++ (wFR cI cF cJ n2 n4 n5 n6 n7 n8 n9 n10 n11 x3))) H := hP
  have hD : va_D A ([(h, .inr (2, [.ref n1, .null, .int 0, .int 0]))] ++ ([(n1, .inl (cF, 4, .inr (.inr (.inr (.inr (fun _ => none))))))] ++ (wFR cI cF cJ n2 n4 n5 n6 n7 n8 n9 n10 n11 x3))) := hD
  refine va_putF (D := (dC, dI)) (ci := 2) (v := .ref n2) (ty := (.object "SorobanHall$Frame")) (C := RX2) (T := TX2) (N := 4) hx hb hts iX2 tyX2 tyX2_ok nmX2 hown hK hP hD hS 0 rfl rfl 1 (by decide) (hts _ q154) (fun _ h9 => h9) rfl hin rfl (by decide +kernel) rfl rfl (Nat.le_of_ble_eq_true rfl) dX2_init_22 (fun H locs hP hD hS => ?_)
  have hP : va_P (dC, dI) vwCl ([(h, .inr (2, [.ref n1, .ref n2, .int 0, .int 0]))] ++ ([(n1, .inl (cF, 4, .inr (.inr (.inr (.inr (fun _ => none))))))] ++ (wFR cI cF cJ n2 n4 n5 n6 n7 n8 n9 n10 n11 x3))) H := hP
  have hD : va_D A ([(h, .inr (2, [.ref n1, .ref n2, .int 0, .int 0]))] ++ ([(n1, .inl (cF, 4, .inr (.inr (.inr (.inr (fun _ => none))))))] ++ (wFR cI cF cJ n2 n4 n5 n6 n7 n8 n9 n10 n11 x3))) := hD
  have hP : va_P (dC, dI) vwCl (wHB cI cF cJ h n1 n2 (fun _ => none) (0, 0) ++ (wFR cI cF cJ n2 n4 n5 n6 n7 n8 n9 n10 n11 x3)) H := hP.sub [0, 1, 2, 3, 4, 5, 6, 7, 8, 9, 10] rfl
  have hD : va_D A (wHB cI cF cJ h n1 n2 (fun _ => none) (0, 0) ++ (wFR cI cF cJ n2 n4 n5 n6 n7 n8 n9 n10 n11 x3)) := hD.sub [0, 1, 2, 3, 4, 5, 6, 7, 8, 9, 10] (by decide) rfl
  obtain rfl := Option.some.inj hf
  exact W.vret hx hb hr (fun t ht hW => ⟨⟨(n1, n2, n4, n5, n6, n7, n8, n9, n10, n11), rfl, trivial, by rw [ht]; exact hP, hD⟩, hS.F ht⟩) hS.2.2 dX2_init_25
