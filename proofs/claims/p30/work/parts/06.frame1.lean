-- laid by wip/p30/specs.py
noncomputable def f_X1_hasRod (F : FR) (p0 : Int32) : Option (Int32) := if p0 < 0 then (some 0) else (if (fRd F) ≤ p0 then (some 0) else (some 1))
theorem pc_X1_hasRod : yX1_hasRod.cls = RX1 ∧ yX1_hasRod.cls ≠ "java/lang/invoke/MethodHandle" ∧ yX1_hasRod.cls ≠ "java/lang/invoke/VarHandle" ∧ (parseMethodDescriptor yX1_hasRod.desc).map (fun d => d.parameters.length) = some 1 := by decide +kernel
abbrev rm_X1_hasRod : Room := { frames := 1, cells := 0, slots := 0, locals := 21 }
set_option maxHeartbeats 4000000 in
set_option maxRecDepth 100000 in
theorem c_X1_hasRod (l : Launch) (dC : Nat → ClassId) (dI : Nat → Nat → Nat) (cI cF cJ cD : ClassId) (q0 q1 q2 q3 q4 q5 q6 q7 q8 : Nat) (F : FR) (p0 : Int32) (res : (Int32)) (hf : f_X1_hasRod F p0 = some res) (sz : Nat) : Met l yX1_hasRod (ws_ yX1_hasRod cX1_hasRod 2 (some .boolean)) rm_X1_hasRod (sbPre (dC, dI) (TY cI cF cJ cD) (wFR cI cF cJ q0 q1 q2 q3 q4 q5 q6 q7 q8 F) E0 sz [.ref q0, .int p0]) (va_Qi (fun (r : Int32) (_ : Unit) => r = res) (sbEnd (dC, dI) (fun _ => wFR cI cF cJ q0 q1 q2 q3 q4 q5 q6 q7 q8 F) (va_A (wFR cI cF cJ q0 q1 q2 q3 q4 q5 q6 q7 q8 F) sz)) (va_A (wFR cI cF cJ q0 q1 q2 q3 q4 q5 q6 q7 q8 F) sz)) 0 0 (va_A (wFR cI cF cJ q0 q1 q2 q3 q4 q5 q6 q7 q8 F) sz) := by
  refine Met.ofW (cc := cX1_hasRod) (maxL := 2) (ret := (some .boolean)) (by decide) rfl ?_
  intro p e s m args below meth c s₁ B hml hv
  obtain ⟨rfl, hsz, hP, hK, hD0, hE⟩ := hv
  have hx := B.exec
  have hb := B.bytes
  have hr := B.returns
  have hts0 := atoms_spec (ws := ws_ yX1_hasRod cX1_hasRod 2 (some .boolean)) B.pre
  have hts := fun (w : Cond) (h : w ∈ LW) => hts0 w (List.mem_cons_of_mem _ h)
  have hown : s.vm.findClass RX1 = some m.cls := findClass_of_methodNamed B.named
  have hlocks := B.notSynchronized
  subst hsz
  have hD := hD0.self (sz := s.heap.size)
  generalize hAe : va_A (wFR cI cF cJ q0 q1 q2 q3 q4 q5 q6 q7 q8 F) s.heap.size = A at hD ⊢
  have hA : ∀ q : Nat, s.heap.size ≤ q → A q := fun q h => by rw [← hAe]; exact Or.inr h
  have hS : va_S A s.heap s.heap [] := va_S.rf
  have hkc := Nat.zero_le rm_X1_hasRod.cells
  have hks := Nat.zero_le rm_X1_hasRod.slots
  have hl := lv_entry ([.ref q0, .int p0]) (n := 2) (Nat.le_of_ble_eq_true rfl)
  rw [lg_entry_eq]
  generalize (lg_sl ([.ref q0, .int p0]) ++ List.replicate (2 - (lg_sl ([.ref q0, .int p0])).length) Slot.unset).toArray = ls at hl ⊢
  have hl : lv_has ls 2 [(0, .ref q0), (1, .int p0)] := hl
  rw [f_X1_hasRod] at hf
  refine lv_iload_n hx hb dX1_hasRod_0 rfl (lv_at hl 1 rfl) ?_
  refine lv_if_lt (tgt := 16) hx hb dX1_hasRod_1 (by decide) (fun c1 => ?_) (fun c1 => ?_)
  · have hf := ite_t hf c1
    refine lv_iconst (v := 0) hx hb dX1_hasRod_16 (by decide) ?_
    obtain rfl := Option.some.inj hf
    exact W.zret (v := 0) hx hb hr (by rfl) (fun t ht hW => ⟨⟨_, (), rfl, rfl, by rw [ht]; exact hP, hD⟩, hS.F ht⟩) hS.2.2 dX1_hasRod_17
  · have hf := ite_f hf c1
    refine lv_iload_n hx hb dX1_hasRod_4 rfl (lv_at hl 1 rfl) ?_
    refine lv_aload_n hx hb dX1_hasRod_5 rfl (lv_at hl 0 rfl) ?_
    refine va_get (D := (dC, dI)) (ci := 1) (v := .int (fRd F)) (C := RX1) (T := TX1) (N := 13) hx hb hts iX1 hown hK hP 0 rfl rfl 1 (by decide) (hts _ q27) (fun _ h9 => h9) rfl dX1_hasRod_6 ?_
    refine lv_icmp_ge (tgt := 16) hx hb dX1_hasRod_9 (by decide) (fun c2 => ?_) (fun c2 => ?_)
    · have hf := ite_t hf c2
      refine lv_iconst (v := 0) hx hb dX1_hasRod_16 (by decide) ?_
      obtain rfl := Option.some.inj hf
      exact W.zret (v := 0) hx hb hr (by rfl) (fun t ht hW => ⟨⟨_, (), rfl, rfl, by rw [ht]; exact hP, hD⟩, hS.F ht⟩) hS.2.2 dX1_hasRod_17
    · have hf := ite_f hf c2
      refine lv_iconst (v := 1) hx hb dX1_hasRod_12 (by decide) ?_
      refine lv_goto (tgt := 17) hx hb dX1_hasRod_13 (by decide) ?_
      obtain rfl := Option.some.inj hf
      exact W.zret (v := 1) hx hb hr (by rfl) (fun t ht hW => ⟨⟨_, (), rfl, rfl, by rw [ht]; exact hP, hD⟩, hS.F ht⟩) hS.2.2 dX1_hasRod_17
noncomputable def l_X1_hasRodsFor_5 (c1 : Int64) (R0 : FR) (k : Int64 → Int32 → Option (Int32)) : Nat → Int64 → Int32 → Option (Int32)
  | 0, _, _ => none
  | n + 1, a1, a2 => if (fRd R0) ≤ a2 then (k a1 a2) else (bnd (a1 * 10) fun (v4 : Int64) => bnd (a2 + 1) fun (v5 : Int32) => l_X1_hasRodsFor_5 c1 R0 k n v4 v5)
noncomputable def f_X1_hasRodsFor (F : FR) (p0 : Int64) : Option (Int32) := l_X1_hasRodsFor_5 p0 F (fun (a13 : Int64) (a14 : Int32) => bnd (lg_cmp p0 (0 : Int64)) fun (v15 : Int32) => if v15 < 0 then (some 0) else (bnd (lg_cmp p0 a13) fun (v17 : Int32) => if (0 : Int32) ≤ v17 then (some 0) else (some 1))) 16 1 0
theorem pc_X1_hasRodsFor : yX1_hasRodsFor.cls = RX1 ∧ yX1_hasRodsFor.cls ≠ "java/lang/invoke/MethodHandle" ∧ yX1_hasRodsFor.cls ≠ "java/lang/invoke/VarHandle" ∧ (parseMethodDescriptor yX1_hasRodsFor.desc).map (fun d => d.parameters.length) = some 1 := by decide +kernel
abbrev rm_X1_hasRodsFor : Room := { frames := 1, cells := 0, slots := 0, locals := 21 }
set_option maxHeartbeats 4000000 in
set_option maxRecDepth 100000 in
theorem c_X1_hasRodsFor (l : Launch) (dC : Nat → ClassId) (dI : Nat → Nat → Nat) (cI cF cJ cD : ClassId) (q0 q1 q2 q3 q4 q5 q6 q7 q8 : Nat) (F : FR) (p0 : Int64) (res : (Int32)) (hf : f_X1_hasRodsFor F p0 = some res) (sz : Nat) : Met l yX1_hasRodsFor (ws_ yX1_hasRodsFor cX1_hasRodsFor 6 (some .boolean)) rm_X1_hasRodsFor (sbPre (dC, dI) (TY cI cF cJ cD) (wFR cI cF cJ q0 q1 q2 q3 q4 q5 q6 q7 q8 F) E0 sz [.ref q0, .long p0]) (va_Qi (fun (r : Int32) (_ : Unit) => r = res) (sbEnd (dC, dI) (fun _ => wFR cI cF cJ q0 q1 q2 q3 q4 q5 q6 q7 q8 F) (va_A (wFR cI cF cJ q0 q1 q2 q3 q4 q5 q6 q7 q8 F) sz)) (va_A (wFR cI cF cJ q0 q1 q2 q3 q4 q5 q6 q7 q8 F) sz)) 0 0 (va_A (wFR cI cF cJ q0 q1 q2 q3 q4 q5 q6 q7 q8 F) sz) := by
  refine Met.ofW (cc := cX1_hasRodsFor) (maxL := 6) (ret := (some .boolean)) (by decide) rfl ?_
  intro p e s m args below meth c s₁ B hml hv
  obtain ⟨rfl, hsz, hP, hK, hD0, hE⟩ := hv
  have hx := B.exec
  have hb := B.bytes
  have hr := B.returns
  have hts0 := atoms_spec (ws := ws_ yX1_hasRodsFor cX1_hasRodsFor 6 (some .boolean)) B.pre
  have hts := fun (w : Cond) (h : w ∈ LW) => hts0 w (List.mem_cons_of_mem _ h)
  have hown : s.vm.findClass RX1 = some m.cls := findClass_of_methodNamed B.named
  have hlocks := B.notSynchronized
  subst hsz
  have hD := hD0.self (sz := s.heap.size)
  generalize hAe : va_A (wFR cI cF cJ q0 q1 q2 q3 q4 q5 q6 q7 q8 F) s.heap.size = A at hD ⊢
  have hA : ∀ q : Nat, s.heap.size ≤ q → A q := fun q h => by rw [← hAe]; exact Or.inr h
  have hS : va_S A s.heap s.heap [] := va_S.rf
  have hkc := Nat.zero_le rm_X1_hasRodsFor.cells
  have hks := Nat.zero_le rm_X1_hasRodsFor.slots
  have hl := lv_entry ([.ref q0, .long p0]) (n := 6) (Nat.le_of_ble_eq_true rfl)
  rw [lg_entry_eq]
  generalize (lg_sl ([.ref q0, .long p0]) ++ List.replicate (6 - (lg_sl ([.ref q0, .long p0])).length) Slot.unset).toArray = ls at hl ⊢
  have hl : lv_has ls 6 [(0, .ref q0), (1, .long p0)] := hl
  rw [f_X1_hasRodsFor] at hf
  refine lv_lconst (v := 1) hx hb dX1_hasRodsFor_0 (by decide) ?_
  refine lv_lstore_n (lv' := [(3, .long 1), (0, .ref q0), (1, .long p0)]) hx hb dX1_hasRodsFor_1 rfl hl (by decide) rfl (fun ls hl => ?_)
  refine lv_iconst (v := 0) hx hb dX1_hasRodsFor_2 (by decide) ?_
  refine lv_istore (lv' := [(5, .int 0), (3, .long 1), (0, .ref q0), (1, .long p0)]) hx hb dX1_hasRodsFor_3 hl (by decide) rfl (fun ls hl => ?_)
  have L5 : ∀ (k : Int64 → Int32 → Option (Int32)), (∀ (a6 : Int64) (a7 : Int32) (H : Heap) (locs : List Loc) (ls : Array Slot), va_P (dC, dI) vwCl (wFR cI cF cJ q0 q1 q2 q3 q4 q5 q6 q7 q8 F) H → va_D A (wFR cI cF cJ q0 q1 q2 q3 q4 q5 q6 q7 q8 F) → va_S A s.heap H locs → lv_has ls 6 [(3, .long a6), (1, .long p0)] → k a6 a7 = some res → W p l e (headSpec (ws_ yX1_hasRodsFor cX1_hasRodsFor 6 (some .boolean)) rm_X1_hasRodsFor).room s m ([.ref q0, .long p0].toArray) below meth c H locs 0 0 (MQ below (va_Qi (fun (r : Int32) (_ : Unit) => r = res) (sbEnd (dC, dI) (fun _ => wFR cI cF cJ q0 q1 q2 q3 q4 q5 q6 q7 q8 F) (A)) (A)) ([.ref q0, .long p0].toArray) s 0 0 A) (F0 m 26 ls [])) → ∀ (n : Nat) (a6 : Int64) (a7 : Int32) (H : Heap) (locs : List Loc) (ls : Array Slot), va_P (dC, dI) vwCl (wFR cI cF cJ q0 q1 q2 q3 q4 q5 q6 q7 q8 F) H → va_D A (wFR cI cF cJ q0 q1 q2 q3 q4 q5 q6 q7 q8 F) → va_S A s.heap H locs → lv_has ls 6 [(3, .long a6), (5, .int a7), (0, .ref q0), (1, .long p0)] → l_X1_hasRodsFor_5 p0 F k n a6 a7 = some res → W p l e (headSpec (ws_ yX1_hasRodsFor cX1_hasRodsFor 6 (some .boolean)) rm_X1_hasRodsFor).room s m ([.ref q0, .long p0].toArray) below meth c H locs 0 0 (MQ below (va_Qi (fun (r : Int32) (_ : Unit) => r = res) (sbEnd (dC, dI) (fun _ => wFR cI cF cJ q0 q1 q2 q3 q4 q5 q6 q7 q8 F) (A)) (A)) ([.ref q0, .long p0].toArray) s 0 0 A) (F0 m 5 ls []) := by
    intro k hk n
    induction n with
    | zero =>
      intro a8 a9 H locs ls hP hD hS hl hf
      rw [l_X1_hasRodsFor_5] at hf
      cases hf
    | succ n ih =>
      intro a8 a9 H locs ls hP hD hS hl hf
      rw [l_X1_hasRodsFor_5] at hf
      refine lv_iload hx hb dX1_hasRodsFor_5 (lv_at hl 1 rfl) ?_
      refine lv_aload_n hx hb dX1_hasRodsFor_7 rfl (lv_at hl 2 rfl) ?_
      refine va_get (D := (dC, dI)) (ci := 1) (v := .int (fRd F)) (C := RX1) (T := TX1) (N := 13) hx hb hts iX1 hown hK hP 0 rfl rfl 1 (by decide) (hts _ q27) (fun _ h9 => h9) rfl dX1_hasRodsFor_8 ?_
      refine lv_icmp_ge (tgt := 26) hx hb dX1_hasRodsFor_11 (by decide) (fun c10 => ?_) (fun c10 => ?_)
      · have hf := ite_t hf c10
        exact hk a8 a9 _ _ _ hP hD hS (lv_sub hl [0, 3] rfl) hf
      · have hf := ite_f hf c10
        refine lv_lload_n hx hb dX1_hasRodsFor_14 rfl (lv_at hl 0 rfl) ?_
        refine lv_ldc2 hx hb hown (hts _ q47) dX1_hasRodsFor_15 ?_
        refine lv_lmul hx hb dX1_hasRodsFor_18 ?_
        refine lv_topl (fun v11 ev11 => ?_)
        have hf := bnd_all hf v11 ev11
        refine lv_lstore_n (lv' := [(3, .long v11), (5, .int a9), (0, .ref q0), (1, .long p0)]) hx hb dX1_hasRodsFor_19 rfl hl (by decide) rfl (fun ls hl => ?_)
        obtain ⟨v12, ev12⟩ : ∃ y : Int32, y = a9 + 1 := ⟨_, rfl⟩
        have hf := bnd_all hf v12 ev12
        refine lv_iinc (v := v12) (lv' := [(5, .int v12), (3, .long v11), (0, .ref q0), (1, .long p0)]) hx hb dX1_hasRodsFor_20 hl (k := 1) rfl (by rw [ev12]; rfl) (by decide) rfl (fun ls hl => ?_)
        refine lv_goto (tgt := 5) hx hb dX1_hasRodsFor_23 (by decide) ?_
        exact ih v11 v12 _ _ _ hP hD hS (lv_sub hl [1, 0, 2, 3] rfl) hf
  refine L5 _ (fun a13 a14 H locs ls hP hD hS hl hf => ?_) 16 1 0 _ _ _ hP hD hS (lv_sub hl [1, 0, 2, 3] rfl) hf
  refine lv_lload_n hx hb dX1_hasRodsFor_26 rfl (lv_at hl 1 rfl) ?_
  refine lv_lconst (v := 0) hx hb dX1_hasRodsFor_27 (by decide) ?_
  refine W.lcmp hx hb dX1_hasRodsFor_28 ?_
  refine lv_topi (fun v15 ev15 => ?_)
  have hf := bnd_all hf v15 ev15
  refine lv_if_lt (tgt := 42) hx hb dX1_hasRodsFor_29 (by decide) (fun c16 => ?_) (fun c16 => ?_)
  · have hf := ite_t hf c16
    refine lv_iconst (v := 0) hx hb dX1_hasRodsFor_42 (by decide) ?_
    obtain rfl := Option.some.inj hf
    exact W.zret (v := 0) hx hb hr (by rfl) (fun t ht hW => ⟨⟨_, (), rfl, rfl, by rw [ht]; exact hP, hD⟩, hS.F ht⟩) hS.2.2 dX1_hasRodsFor_43
  · have hf := ite_f hf c16
    refine lv_lload_n hx hb dX1_hasRodsFor_32 rfl (lv_at hl 1 rfl) ?_
    refine lv_lload_n hx hb dX1_hasRodsFor_33 rfl (lv_at hl 0 rfl) ?_
    refine W.lcmp hx hb dX1_hasRodsFor_34 ?_
    refine lv_topi (fun v17 ev17 => ?_)
    have hf := bnd_all hf v17 ev17
    refine lv_if_ge (tgt := 42) hx hb dX1_hasRodsFor_35 (by decide) (fun c18 => ?_) (fun c18 => ?_)
    · have hf := ite_t hf c18
      refine lv_iconst (v := 0) hx hb dX1_hasRodsFor_42 (by decide) ?_
      obtain rfl := Option.some.inj hf
      exact W.zret (v := 0) hx hb hr (by rfl) (fun t ht hW => ⟨⟨_, (), rfl, rfl, by rw [ht]; exact hP, hD⟩, hS.F ht⟩) hS.2.2 dX1_hasRodsFor_43
    · have hf := ite_f hf c18
      refine lv_iconst (v := 1) hx hb dX1_hasRodsFor_38 (by decide) ?_
      refine lv_goto (tgt := 43) hx hb dX1_hasRodsFor_39 (by decide) ?_
      obtain rfl := Option.some.inj hf
      exact W.zret (v := 1) hx hb hr (by rfl) (fun t ht hW => ⟨⟨_, (), rfl, rfl, by rw [ht]; exact hP, hD⟩, hS.F ht⟩) hS.2.2 dX1_hasRodsFor_43
noncomputable def f_X1_valueAt (F : FR) (p0 : Int32) : Option (Int32) := obd (f_X0_countAt (fAb F) p0) fun x1 => bnd (5 * x1) fun (v2 : Int32) => obd (f_X0_countAt (fBe F) p0) fun x3 => bnd (v2 + x3) fun (v4 : Int32) => some v4
theorem pc_X1_valueAt : yX1_valueAt.cls = RX1 ∧ yX1_valueAt.cls ≠ "java/lang/invoke/MethodHandle" ∧ yX1_valueAt.cls ≠ "java/lang/invoke/VarHandle" ∧ (parseMethodDescriptor yX1_valueAt.desc).map (fun d => d.parameters.length) = some 1 := by decide +kernel
abbrev rm_X1_valueAt : Room := { frames := 2, cells := 0, slots := 0, locals := 42 }
set_option maxHeartbeats 4000000 in
set_option maxRecDepth 100000 in
theorem c_X1_valueAt (l : Launch) (dC : Nat → ClassId) (dI : Nat → Nat → Nat) (cI cF cJ cD : ClassId) (q0 q1 q2 q3 q4 q5 q6 q7 q8 : Nat) (F : FR) (p0 : Int32) (res : (Int32)) (hf : f_X1_valueAt F p0 = some res) (sz : Nat) : Met l yX1_valueAt (ws_ yX1_valueAt cX1_valueAt 2 (some .int)) rm_X1_valueAt (sbPre (dC, dI) (TY cI cF cJ cD) (wFR cI cF cJ q0 q1 q2 q3 q4 q5 q6 q7 q8 F) E0 sz [.ref q0, .int p0]) (va_Qi (fun (r : Int32) (_ : Unit) => r = res) (sbEnd (dC, dI) (fun _ => wFR cI cF cJ q0 q1 q2 q3 q4 q5 q6 q7 q8 F) (va_A (wFR cI cF cJ q0 q1 q2 q3 q4 q5 q6 q7 q8 F) sz)) (va_A (wFR cI cF cJ q0 q1 q2 q3 q4 q5 q6 q7 q8 F) sz)) 0 0 (va_A (wFR cI cF cJ q0 q1 q2 q3 q4 q5 q6 q7 q8 F) sz) := by
  refine Met.ofW (cc := cX1_valueAt) (maxL := 2) (ret := (some .int)) (by decide) rfl ?_
  intro p e s m args below meth c s₁ B hml hv
  obtain ⟨rfl, hsz, hP, hK, hD0, hE⟩ := hv
  have hx := B.exec
  have hb := B.bytes
  have hr := B.returns
  have hts0 := atoms_spec (ws := ws_ yX1_valueAt cX1_valueAt 2 (some .int)) B.pre
  have hts := fun (w : Cond) (h : w ∈ LW) => hts0 w (List.mem_cons_of_mem _ h)
  have hown : s.vm.findClass RX1 = some m.cls := findClass_of_methodNamed B.named
  have hlocks := B.notSynchronized
  subst hsz
  have hD := hD0.self (sz := s.heap.size)
  generalize hAe : va_A (wFR cI cF cJ q0 q1 q2 q3 q4 q5 q6 q7 q8 F) s.heap.size = A at hD ⊢
  have hA : ∀ q : Nat, s.heap.size ≤ q → A q := fun q h => by rw [← hAe]; exact Or.inr h
  have hS : va_S A s.heap s.heap [] := va_S.rf
  have hkc := Nat.zero_le rm_X1_valueAt.cells
  have hks := Nat.zero_le rm_X1_valueAt.slots
  have hl := lv_entry ([.ref q0, .int p0]) (n := 2) (Nat.le_of_ble_eq_true rfl)
  rw [lg_entry_eq]
  generalize (lg_sl ([.ref q0, .int p0]) ++ List.replicate (2 - (lg_sl ([.ref q0, .int p0])).length) Slot.unset).toArray = ls at hl ⊢
  have hl : lv_has ls 2 [(0, .ref q0), (1, .int p0)] := hl
  rw [f_X1_valueAt] at hf
  refine lv_iconst (v := 5) hx hb dX1_valueAt_0 (by decide) ?_
  refine lv_aload_n hx hb dX1_valueAt_1 rfl (lv_at hl 0 rfl) ?_
  refine va_get (D := (dC, dI)) (ci := 1) (v := .ref q1) (C := RX1) (T := TX1) (N := 13) hx hb hts iX1 hown hK hP 0 rfl rfl 2 (by decide) (hts _ q30) (fun _ h9 => h9) rfl dX1_valueAt_2 ?_
  refine lv_iload_n hx hb dX1_valueAt_5 rfl (lv_at hl 1 rfl) ?_
  obtain ⟨x1, hx1, hf⟩ := obd_e hf
  refine sb_Vi (As := [.int p0]) (rest := [.int 5]) ⟨hx, hb, hml, hown, hts⟩ (fun sz => c_X0_countAt l dC dI cI cF cJ cD q1 q2 q3 q4 (fAb F) p0  x1 hx1 sz) (cwV 1 hts (g_V q49 q18 q19 q15 q9) rfl rfl rfl pc_X0_countAt ⟨Nat.le_of_ble_eq_true rfl, Nat.le_of_ble_eq_true rfl⟩) 0 0 rfl rfl hK hP hD hS hA [1, 2, 3, 4] [0, 5, 6, 7, 8] rfl rfl (by decide) (by decide) (by decide) (fun _ _ _ _ h => h) (fun _ _ _ => trivial) rfl rfl hl.1 (Nat.le_of_ble_eq_true rfl) dX1_valueAt_6 ⟨hkc, hks⟩ (fun r9 u H locs hr9 hP hD hS => ?_)
  have hr9 := Eq.symm hr9
  subst hr9
  have hP : va_P (dC, dI) vwCl (wFR cI cF cJ q0 q1 q2 q3 q4 q5 q6 q7 q8 F) H := hP.sub [0, 5, 6, 7, 8, 1, 2, 3, 4] rfl
  have hD : va_D A (wFR cI cF cJ q0 q1 q2 q3 q4 q5 q6 q7 q8 F) := hD.sub [0, 5, 6, 7, 8, 1, 2, 3, 4] (by decide) rfl
  refine lv_imul hx hb dX1_valueAt_9 ?_
  refine lv_topi (fun v2 ev2 => ?_)
  have hf := bnd_all hf v2 ev2
  refine lv_aload_n hx hb dX1_valueAt_10 rfl (lv_at hl 0 rfl) ?_
  refine va_get (D := (dC, dI)) (ci := 1) (v := .ref q5) (C := RX1) (T := TX1) (N := 13) hx hb hts iX1 hown hK hP 0 rfl rfl 3 (by decide) (hts _ q31) (fun _ h9 => h9) rfl dX1_valueAt_11 ?_
  refine lv_iload_n hx hb dX1_valueAt_14 rfl (lv_at hl 1 rfl) ?_
  obtain ⟨x3, hx3, hf⟩ := obd_e hf
  refine sb_Vi (As := [.int p0]) (rest := [.int v2]) ⟨hx, hb, hml, hown, hts⟩ (fun sz => c_X0_countAt l dC dI cI cF cJ cD q5 q6 q7 q8 (fBe F) p0  x3 hx3 sz) (cwV 1 hts (g_V q49 q18 q19 q15 q9) rfl rfl rfl pc_X0_countAt ⟨Nat.le_of_ble_eq_true rfl, Nat.le_of_ble_eq_true rfl⟩) 0 0 rfl rfl hK hP hD hS hA [5, 6, 7, 8] [0, 1, 2, 3, 4] rfl rfl (by decide) (by decide) (by decide) (fun _ _ _ _ h => h) (fun _ _ _ => trivial) rfl rfl hl.1 (Nat.le_of_ble_eq_true rfl) dX1_valueAt_15 ⟨hkc, hks⟩ (fun r9 u H locs hr9 hP hD hS => ?_)
  have hr9 := Eq.symm hr9
  subst hr9
  have hP : va_P (dC, dI) vwCl (wFR cI cF cJ q0 q1 q2 q3 q4 q5 q6 q7 q8 F) H := hP
  have hD : va_D A (wFR cI cF cJ q0 q1 q2 q3 q4 q5 q6 q7 q8 F) := hD
  refine lv_iadd hx hb dX1_valueAt_18 ?_
  refine lv_topi (fun v4 ev4 => ?_)
  have hf := bnd_all hf v4 ev4
  obtain rfl := Option.some.inj hf
  exact W.iret (v := v4) hx hb hr (fun t ht hW => ⟨⟨_, (), rfl, rfl, by rw [ht]; exact hP, hD⟩, hS.F ht⟩) hS.2.2 dX1_valueAt_19
noncomputable def f_X1_mostOfRod (F : FR) : Option (Int32) := bnd (5 * (dSz (fAb F))) fun (v1 : Int32) => bnd (v1 + (dSz (fBe F))) fun (v2 : Int32) => some v2
theorem pc_X1_mostOfRod : yX1_mostOfRod.cls = RX1 ∧ yX1_mostOfRod.cls ≠ "java/lang/invoke/MethodHandle" ∧ yX1_mostOfRod.cls ≠ "java/lang/invoke/VarHandle" ∧ (parseMethodDescriptor yX1_mostOfRod.desc).map (fun d => d.parameters.length) = some 0 := by decide +kernel
abbrev rm_X1_mostOfRod : Room := { frames := 1, cells := 0, slots := 0, locals := 21 }
set_option maxHeartbeats 4000000 in
set_option maxRecDepth 100000 in
theorem c_X1_mostOfRod (l : Launch) (dC : Nat → ClassId) (dI : Nat → Nat → Nat) (cI cF cJ cD : ClassId) (q0 q1 q2 q3 q4 q5 q6 q7 q8 : Nat) (F : FR) (res : (Int32)) (hf : f_X1_mostOfRod F = some res) (sz : Nat) : Met l yX1_mostOfRod (ws_ yX1_mostOfRod cX1_mostOfRod 1 (some .int)) rm_X1_mostOfRod (sbPre (dC, dI) (TY cI cF cJ cD) (wFR cI cF cJ q0 q1 q2 q3 q4 q5 q6 q7 q8 F) E0 sz [.ref q0]) (va_Qi (fun (r : Int32) (_ : Unit) => r = res) (sbEnd (dC, dI) (fun _ => wFR cI cF cJ q0 q1 q2 q3 q4 q5 q6 q7 q8 F) (va_A (wFR cI cF cJ q0 q1 q2 q3 q4 q5 q6 q7 q8 F) sz)) (va_A (wFR cI cF cJ q0 q1 q2 q3 q4 q5 q6 q7 q8 F) sz)) 0 0 (va_A (wFR cI cF cJ q0 q1 q2 q3 q4 q5 q6 q7 q8 F) sz) := by
  refine Met.ofW (cc := cX1_mostOfRod) (maxL := 1) (ret := (some .int)) (by decide) rfl ?_
  intro p e s m args below meth c s₁ B hml hv
  obtain ⟨rfl, hsz, hP, hK, hD0, hE⟩ := hv
  have hx := B.exec
  have hb := B.bytes
  have hr := B.returns
  have hts0 := atoms_spec (ws := ws_ yX1_mostOfRod cX1_mostOfRod 1 (some .int)) B.pre
  have hts := fun (w : Cond) (h : w ∈ LW) => hts0 w (List.mem_cons_of_mem _ h)
  have hown : s.vm.findClass RX1 = some m.cls := findClass_of_methodNamed B.named
  have hlocks := B.notSynchronized
  subst hsz
  have hD := hD0.self (sz := s.heap.size)
  generalize hAe : va_A (wFR cI cF cJ q0 q1 q2 q3 q4 q5 q6 q7 q8 F) s.heap.size = A at hD ⊢
  have hA : ∀ q : Nat, s.heap.size ≤ q → A q := fun q h => by rw [← hAe]; exact Or.inr h
  have hS : va_S A s.heap s.heap [] := va_S.rf
  have hkc := Nat.zero_le rm_X1_mostOfRod.cells
  have hks := Nat.zero_le rm_X1_mostOfRod.slots
  have hl := lv_entry ([.ref q0]) (n := 1) (Nat.le_of_ble_eq_true rfl)
  rw [lg_entry_eq]
  generalize (lg_sl ([.ref q0]) ++ List.replicate (1 - (lg_sl ([.ref q0])).length) Slot.unset).toArray = ls at hl ⊢
  have hl : lv_has ls 1 [(0, .ref q0)] := hl
  rw [f_X1_mostOfRod] at hf
  refine lv_iconst (v := 5) hx hb dX1_mostOfRod_0 (by decide) ?_
  refine lv_aload_n hx hb dX1_mostOfRod_1 rfl (lv_at hl 0 rfl) ?_
  refine va_get (D := (dC, dI)) (ci := 1) (v := .ref q1) (C := RX1) (T := TX1) (N := 13) hx hb hts iX1 hown hK hP 0 rfl rfl 2 (by decide) (hts _ q30) (fun _ h9 => h9) rfl dX1_mostOfRod_2 ?_
  refine va_get (D := (dC, dI)) (ci := 0) (v := .int (dSz (fAb F))) (C := RX0) (T := TX0) (N := 4) hx hb hts iX0 hown hK hP 1 rfl rfl 0 (by decide) (hts _ q51) (fun _ h9 => h9) rfl dX1_mostOfRod_5 ?_
  refine lv_imul hx hb dX1_mostOfRod_8 ?_
  refine lv_topi (fun v1 ev1 => ?_)
  have hf := bnd_all hf v1 ev1
  refine lv_aload_n hx hb dX1_mostOfRod_9 rfl (lv_at hl 0 rfl) ?_
  refine va_get (D := (dC, dI)) (ci := 1) (v := .ref q5) (C := RX1) (T := TX1) (N := 13) hx hb hts iX1 hown hK hP 0 rfl rfl 3 (by decide) (hts _ q31) (fun _ h9 => h9) rfl dX1_mostOfRod_10 ?_
  refine va_get (D := (dC, dI)) (ci := 0) (v := .int (dSz (fBe F))) (C := RX0) (T := TX0) (N := 4) hx hb hts iX0 hown hK hP 5 rfl rfl 0 (by decide) (hts _ q51) (fun _ h9 => h9) rfl dX1_mostOfRod_13 ?_
  refine lv_iadd hx hb dX1_mostOfRod_16 ?_
  refine lv_topi (fun v2 ev2 => ?_)
  have hf := bnd_all hf v2 ev2
  obtain rfl := Option.some.inj hf
  exact W.iret (v := v2) hx hb hr (fun t ht hW => ⟨⟨_, (), rfl, rfl, by rw [ht]; exact hP, hD⟩, hS.F ht⟩) hS.2.2 dX1_mostOfRod_17
noncomputable def l_X1_shownNumber_9 (R0 : FR) (k : Int64 → Int32 → Option (Int64)) : Nat → Int64 → Int32 → Option (Int64)
  | 0, _, _ => none
  | n + 1, a2, a3 => if a3 < 0 then (k a2 a3) else (bnd (a2 * 10) fun (v5 : Int64) => obd (f_X1_valueAt R0 a3) fun x6 => bnd (x6.toInt64) fun (v7 : Int64) => bnd (v5 + v7) fun (v8 : Int64) => bnd (a3 + (-1)) fun (v9 : Int32) => l_X1_shownNumber_9 R0 k n v8 v9)
noncomputable def f_X1_shownNumber (F : FR) : Option (Int64) := bnd ((fRd F) - 1) fun (v1 : Int32) => l_X1_shownNumber_9 F (fun (a20 : Int64) (a21 : Int32) => some a20) 16 0 v1
theorem pc_X1_shownNumber : yX1_shownNumber.cls = RX1 ∧ yX1_shownNumber.cls ≠ "java/lang/invoke/MethodHandle" ∧ yX1_shownNumber.cls ≠ "java/lang/invoke/VarHandle" ∧ (parseMethodDescriptor yX1_shownNumber.desc).map (fun d => d.parameters.length) = some 0 := by decide +kernel
abbrev rm_X1_shownNumber : Room := { frames := 3, cells := 0, slots := 0, locals := 63 }
set_option maxHeartbeats 4000000 in
set_option maxRecDepth 100000 in
theorem c_X1_shownNumber (l : Launch) (dC : Nat → ClassId) (dI : Nat → Nat → Nat) (cI cF cJ cD : ClassId) (q0 q1 q2 q3 q4 q5 q6 q7 q8 : Nat) (F : FR) (res : (Int64)) (hf : f_X1_shownNumber F = some res) (sz : Nat) : Met l yX1_shownNumber (ws_ yX1_shownNumber cX1_shownNumber 4 (some .long)) rm_X1_shownNumber (sbPre (dC, dI) (TY cI cF cJ cD) (wFR cI cF cJ q0 q1 q2 q3 q4 q5 q6 q7 q8 F) E0 sz [.ref q0]) (va_Ql (fun (r : Int64) (_ : Unit) => r = res) (sbEnd (dC, dI) (fun _ => wFR cI cF cJ q0 q1 q2 q3 q4 q5 q6 q7 q8 F) (va_A (wFR cI cF cJ q0 q1 q2 q3 q4 q5 q6 q7 q8 F) sz)) (va_A (wFR cI cF cJ q0 q1 q2 q3 q4 q5 q6 q7 q8 F) sz)) 0 0 (va_A (wFR cI cF cJ q0 q1 q2 q3 q4 q5 q6 q7 q8 F) sz) := by
  refine Met.ofW (cc := cX1_shownNumber) (maxL := 4) (ret := (some .long)) (by decide) rfl ?_
  intro p e s m args below meth c s₁ B hml hv
  obtain ⟨rfl, hsz, hP, hK, hD0, hE⟩ := hv
  have hx := B.exec
  have hb := B.bytes
  have hr := B.returns
  have hts0 := atoms_spec (ws := ws_ yX1_shownNumber cX1_shownNumber 4 (some .long)) B.pre
  have hts := fun (w : Cond) (h : w ∈ LW) => hts0 w (List.mem_cons_of_mem _ h)
  have hown : s.vm.findClass RX1 = some m.cls := findClass_of_methodNamed B.named
  have hlocks := B.notSynchronized
  subst hsz
  have hD := hD0.self (sz := s.heap.size)
  generalize hAe : va_A (wFR cI cF cJ q0 q1 q2 q3 q4 q5 q6 q7 q8 F) s.heap.size = A at hD ⊢
  have hA : ∀ q : Nat, s.heap.size ≤ q → A q := fun q h => by rw [← hAe]; exact Or.inr h
  have hS : va_S A s.heap s.heap [] := va_S.rf
  have hkc := Nat.zero_le rm_X1_shownNumber.cells
  have hks := Nat.zero_le rm_X1_shownNumber.slots
  have hl := lv_entry ([.ref q0]) (n := 4) (Nat.le_of_ble_eq_true rfl)
  rw [lg_entry_eq]
  generalize (lg_sl ([.ref q0]) ++ List.replicate (4 - (lg_sl ([.ref q0])).length) Slot.unset).toArray = ls at hl ⊢
  have hl : lv_has ls 4 [(0, .ref q0)] := hl
  rw [f_X1_shownNumber] at hf
  refine lv_lconst (v := 0) hx hb dX1_shownNumber_0 (by decide) ?_
  refine lv_lstore_n (lv' := [(1, .long 0), (0, .ref q0)]) hx hb dX1_shownNumber_1 rfl hl (by decide) rfl (fun ls hl => ?_)
  refine lv_aload_n hx hb dX1_shownNumber_2 rfl (lv_at hl 1 rfl) ?_
  refine va_get (D := (dC, dI)) (ci := 1) (v := .int (fRd F)) (C := RX1) (T := TX1) (N := 13) hx hb hts iX1 hown hK hP 0 rfl rfl 1 (by decide) (hts _ q27) (fun _ h9 => h9) rfl dX1_shownNumber_3 ?_
  refine lv_iconst (v := 1) hx hb dX1_shownNumber_6 (by decide) ?_
  refine lv_isub hx hb dX1_shownNumber_7 ?_
  refine lv_topi (fun v1 ev1 => ?_)
  have hf := bnd_all hf v1 ev1
  refine lv_istore_n (lv' := [(3, .int v1), (1, .long 0), (0, .ref q0)]) hx hb dX1_shownNumber_8 rfl hl (by decide) rfl (fun ls hl => ?_)
  have L9 : ∀ (k : Int64 → Int32 → Option (Int64)), (∀ (a10 : Int64) (a11 : Int32) (H : Heap) (locs : List Loc) (ls : Array Slot), va_P (dC, dI) vwCl (wFR cI cF cJ q0 q1 q2 q3 q4 q5 q6 q7 q8 F) H → va_D A (wFR cI cF cJ q0 q1 q2 q3 q4 q5 q6 q7 q8 F) → va_S A s.heap H locs → lv_has ls 4 [(1, .long a10)] → k a10 a11 = some res → W p l e (headSpec (ws_ yX1_shownNumber cX1_shownNumber 4 (some .long)) rm_X1_shownNumber).room s m ([.ref q0].toArray) below meth c H locs 0 0 (MQ below (va_Ql (fun (r : Int64) (_ : Unit) => r = res) (sbEnd (dC, dI) (fun _ => wFR cI cF cJ q0 q1 q2 q3 q4 q5 q6 q7 q8 F) (A)) (A)) ([.ref q0].toArray) s 0 0 A) (F0 m 32 ls [])) → ∀ (n : Nat) (a10 : Int64) (a11 : Int32) (H : Heap) (locs : List Loc) (ls : Array Slot), va_P (dC, dI) vwCl (wFR cI cF cJ q0 q1 q2 q3 q4 q5 q6 q7 q8 F) H → va_D A (wFR cI cF cJ q0 q1 q2 q3 q4 q5 q6 q7 q8 F) → va_S A s.heap H locs → lv_has ls 4 [(1, .long a10), (3, .int a11), (0, .ref q0)] → l_X1_shownNumber_9 F k n a10 a11 = some res → W p l e (headSpec (ws_ yX1_shownNumber cX1_shownNumber 4 (some .long)) rm_X1_shownNumber).room s m ([.ref q0].toArray) below meth c H locs 0 0 (MQ below (va_Ql (fun (r : Int64) (_ : Unit) => r = res) (sbEnd (dC, dI) (fun _ => wFR cI cF cJ q0 q1 q2 q3 q4 q5 q6 q7 q8 F) (A)) (A)) ([.ref q0].toArray) s 0 0 A) (F0 m 9 ls []) := by
    intro k hk n
    induction n with
    | zero =>
      intro a12 a13 H locs ls hP hD hS hl hf
      rw [l_X1_shownNumber_9] at hf
      cases hf
    | succ n ih =>
      intro a12 a13 H locs ls hP hD hS hl hf
      rw [l_X1_shownNumber_9] at hf
      refine lv_iload_n hx hb dX1_shownNumber_9 rfl (lv_at hl 1 rfl) ?_
      refine lv_if_lt (tgt := 32) hx hb dX1_shownNumber_10 (by decide) (fun c14 => ?_) (fun c14 => ?_)
      · have hf := ite_t hf c14
        exact hk a12 a13 _ _ _ hP hD hS (lv_sub hl [0] rfl) hf
      · have hf := ite_f hf c14
        refine lv_lload_n hx hb dX1_shownNumber_13 rfl (lv_at hl 0 rfl) ?_
        refine lv_ldc2 hx hb hown (hts _ q47) dX1_shownNumber_14 ?_
        refine lv_lmul hx hb dX1_shownNumber_17 ?_
        refine lv_topl (fun v15 ev15 => ?_)
        have hf := bnd_all hf v15 ev15
        refine lv_aload_n hx hb dX1_shownNumber_18 rfl (lv_at hl 2 rfl) ?_
        refine lv_iload_n hx hb dX1_shownNumber_19 rfl (lv_at hl 1 rfl) ?_
        obtain ⟨x16, hx16, hf⟩ := obd_e hf
        refine sb_Vi (As := [.int a13]) (rest := [.long v15]) ⟨hx, hb, hml, hown, hts⟩ (fun sz => c_X1_valueAt l dC dI cI cF cJ cD q0 q1 q2 q3 q4 q5 q6 q7 q8 F a13  x16 hx16 sz) (cwV 1 hts (g_V q53 q54 q55 q56 q48) rfl rfl rfl pc_X1_valueAt ⟨Nat.le_of_ble_eq_true rfl, Nat.le_of_ble_eq_true rfl⟩) 0 1 rfl rfl hK hP hD hS hA [0, 1, 2, 3, 4, 5, 6, 7, 8] [] rfl rfl (by decide) (by decide) (by decide) (fun _ _ _ _ h => h) (fun _ _ _ => trivial) rfl rfl hl.1 (Nat.le_of_ble_eq_true rfl) dX1_shownNumber_20 ⟨hkc, hks⟩ (fun r9 u H locs hr9 hP hD hS => ?_)
        have hr9 := Eq.symm hr9
        subst hr9
        have hP : va_P (dC, dI) vwCl (wFR cI cF cJ q0 q1 q2 q3 q4 q5 q6 q7 q8 F) H := hP
        have hD : va_D A (wFR cI cF cJ q0 q1 q2 q3 q4 q5 q6 q7 q8 F) := hD
        refine lv_i2l hx hb dX1_shownNumber_23 rfl ?_
        refine lv_topl (fun v17 ev17 => ?_)
        have hf := bnd_all hf v17 ev17
        refine lv_ladd hx hb dX1_shownNumber_24 ?_
        refine lv_topl (fun v18 ev18 => ?_)
        have hf := bnd_all hf v18 ev18
        refine lv_lstore_n (lv' := [(1, .long v18), (3, .int a13), (0, .ref q0)]) hx hb dX1_shownNumber_25 rfl hl (by decide) rfl (fun ls hl => ?_)
        obtain ⟨v19, ev19⟩ : ∃ y : Int32, y = a13 + (-1) := ⟨_, rfl⟩
        have hf := bnd_all hf v19 ev19
        refine lv_iinc (v := v19) (lv' := [(3, .int v19), (1, .long v18), (0, .ref q0)]) hx hb dX1_shownNumber_26 hl (k := 1) rfl (by rw [ev19]; rfl) (by decide) rfl (fun ls hl => ?_)
        refine lv_goto (tgt := 9) hx hb dX1_shownNumber_29 (by decide) ?_
        exact ih v18 v19 _ _ _ hP hD hS (lv_sub hl [1, 0, 2] rfl) hf
  refine L9 _ (fun a20 a21 H locs ls hP hD hS hl hf => ?_) 16 0 v1 _ _ _ hP hD hS (lv_sub hl [1, 0, 2] rfl) hf
  refine lv_lload_n hx hb dX1_shownNumber_32 rfl (lv_at hl 0 rfl) ?_
  obtain rfl := Option.some.inj hf
  exact W.lret (v := a20) hx hb hr (fun t ht hW => ⟨⟨_, (), rfl, rfl, by rw [ht]; exact hP, hD⟩, hS.F ht⟩) hS.2.2 dX1_shownNumber_33
noncomputable def l_X1_isTidy_2 (R0 : FR) (k : Int32 → Option (Int32)) : Nat → Int32 → Option (Int32)
  | 0, _ => none
  | n + 1, a1 => if (fRd R0) ≤ a1 then (k a1) else (obd (f_X1_valueAt R0 a1) fun x3 => if x3 ≤ 9 then (bnd (a1 + 1) fun (v5 : Int32) => l_X1_isTidy_2 R0 k n v5) else (some 0))
noncomputable def f_X1_isTidy (F : FR) : Option (Int32) := l_X1_isTidy_2 F (fun (a12 : Int32) => some 1) 16 0
theorem pc_X1_isTidy : yX1_isTidy.cls = RX1 ∧ yX1_isTidy.cls ≠ "java/lang/invoke/MethodHandle" ∧ yX1_isTidy.cls ≠ "java/lang/invoke/VarHandle" ∧ (parseMethodDescriptor yX1_isTidy.desc).map (fun d => d.parameters.length) = some 0 := by decide +kernel
abbrev rm_X1_isTidy : Room := { frames := 3, cells := 0, slots := 0, locals := 63 }
set_option maxHeartbeats 4000000 in
set_option maxRecDepth 100000 in
theorem c_X1_isTidy (l : Launch) (dC : Nat → ClassId) (dI : Nat → Nat → Nat) (cI cF cJ cD : ClassId) (q0 q1 q2 q3 q4 q5 q6 q7 q8 : Nat) (F : FR) (res : (Int32)) (hf : f_X1_isTidy F = some res) (sz : Nat) : Met l yX1_isTidy (ws_ yX1_isTidy cX1_isTidy 2 (some .boolean)) rm_X1_isTidy (sbPre (dC, dI) (TY cI cF cJ cD) (wFR cI cF cJ q0 q1 q2 q3 q4 q5 q6 q7 q8 F) E0 sz [.ref q0]) (va_Qi (fun (r : Int32) (_ : Unit) => r = res) (sbEnd (dC, dI) (fun _ => wFR cI cF cJ q0 q1 q2 q3 q4 q5 q6 q7 q8 F) (va_A (wFR cI cF cJ q0 q1 q2 q3 q4 q5 q6 q7 q8 F) sz)) (va_A (wFR cI cF cJ q0 q1 q2 q3 q4 q5 q6 q7 q8 F) sz)) 0 0 (va_A (wFR cI cF cJ q0 q1 q2 q3 q4 q5 q6 q7 q8 F) sz) := by
  refine Met.ofW (cc := cX1_isTidy) (maxL := 2) (ret := (some .boolean)) (by decide) rfl ?_
  intro p e s m args below meth c s₁ B hml hv
  obtain ⟨rfl, hsz, hP, hK, hD0, hE⟩ := hv
  have hx := B.exec
  have hb := B.bytes
  have hr := B.returns
  have hts0 := atoms_spec (ws := ws_ yX1_isTidy cX1_isTidy 2 (some .boolean)) B.pre
  have hts := fun (w : Cond) (h : w ∈ LW) => hts0 w (List.mem_cons_of_mem _ h)
  have hown : s.vm.findClass RX1 = some m.cls := findClass_of_methodNamed B.named
  have hlocks := B.notSynchronized
  subst hsz
  have hD := hD0.self (sz := s.heap.size)
  generalize hAe : va_A (wFR cI cF cJ q0 q1 q2 q3 q4 q5 q6 q7 q8 F) s.heap.size = A at hD ⊢
  have hA : ∀ q : Nat, s.heap.size ≤ q → A q := fun q h => by rw [← hAe]; exact Or.inr h
  have hS : va_S A s.heap s.heap [] := va_S.rf
  have hkc := Nat.zero_le rm_X1_isTidy.cells
  have hks := Nat.zero_le rm_X1_isTidy.slots
  have hl := lv_entry ([.ref q0]) (n := 2) (Nat.le_of_ble_eq_true rfl)
  rw [lg_entry_eq]
  generalize (lg_sl ([.ref q0]) ++ List.replicate (2 - (lg_sl ([.ref q0])).length) Slot.unset).toArray = ls at hl ⊢
  have hl : lv_has ls 2 [(0, .ref q0)] := hl
  rw [f_X1_isTidy] at hf
  refine lv_iconst (v := 0) hx hb dX1_isTidy_0 (by decide) ?_
  refine lv_istore_n (lv' := [(1, .int 0), (0, .ref q0)]) hx hb dX1_isTidy_1 rfl hl (by decide) rfl (fun ls hl => ?_)
  have L2 : ∀ (k : Int32 → Option (Int32)), (∀ (a6 : Int32) (H : Heap) (locs : List Loc) (ls : Array Slot), va_P (dC, dI) vwCl (wFR cI cF cJ q0 q1 q2 q3 q4 q5 q6 q7 q8 F) H → va_D A (wFR cI cF cJ q0 q1 q2 q3 q4 q5 q6 q7 q8 F) → va_S A s.heap H locs → lv_has ls 2 [] → k a6 = some res → W p l e (headSpec (ws_ yX1_isTidy cX1_isTidy 2 (some .boolean)) rm_X1_isTidy).room s m ([.ref q0].toArray) below meth c H locs 0 0 (MQ below (va_Qi (fun (r : Int32) (_ : Unit) => r = res) (sbEnd (dC, dI) (fun _ => wFR cI cF cJ q0 q1 q2 q3 q4 q5 q6 q7 q8 F) (A)) (A)) ([.ref q0].toArray) s 0 0 A) (F0 m 28 ls [])) → ∀ (n : Nat) (a6 : Int32) (H : Heap) (locs : List Loc) (ls : Array Slot), va_P (dC, dI) vwCl (wFR cI cF cJ q0 q1 q2 q3 q4 q5 q6 q7 q8 F) H → va_D A (wFR cI cF cJ q0 q1 q2 q3 q4 q5 q6 q7 q8 F) → va_S A s.heap H locs → lv_has ls 2 [(1, .int a6), (0, .ref q0)] → l_X1_isTidy_2 F k n a6 = some res → W p l e (headSpec (ws_ yX1_isTidy cX1_isTidy 2 (some .boolean)) rm_X1_isTidy).room s m ([.ref q0].toArray) below meth c H locs 0 0 (MQ below (va_Qi (fun (r : Int32) (_ : Unit) => r = res) (sbEnd (dC, dI) (fun _ => wFR cI cF cJ q0 q1 q2 q3 q4 q5 q6 q7 q8 F) (A)) (A)) ([.ref q0].toArray) s 0 0 A) (F0 m 2 ls []) := by
    intro k hk n
    induction n with
    | zero =>
      intro a7 H locs ls hP hD hS hl hf
      rw [l_X1_isTidy_2] at hf
      cases hf
    | succ n ih =>
      intro a7 H locs ls hP hD hS hl hf
      rw [l_X1_isTidy_2] at hf
      refine lv_iload_n hx hb dX1_isTidy_2 rfl (lv_at hl 0 rfl) ?_
      refine lv_aload_n hx hb dX1_isTidy_3 rfl (lv_at hl 1 rfl) ?_
      refine va_get (D := (dC, dI)) (ci := 1) (v := .int (fRd F)) (C := RX1) (T := TX1) (N := 13) hx hb hts iX1 hown hK hP 0 rfl rfl 1 (by decide) (hts _ q27) (fun _ h9 => h9) rfl dX1_isTidy_4 ?_
      refine lv_icmp_ge (tgt := 28) hx hb dX1_isTidy_7 (by decide) (fun c8 => ?_) (fun c8 => ?_)
      · have hf := ite_t hf c8
        exact hk a7 _ _ _ hP hD hS (lv_sub hl [] rfl) hf
      · have hf := ite_f hf c8
        refine lv_aload_n hx hb dX1_isTidy_10 rfl (lv_at hl 1 rfl) ?_
        refine lv_iload_n hx hb dX1_isTidy_11 rfl (lv_at hl 0 rfl) ?_
        obtain ⟨x9, hx9, hf⟩ := obd_e hf
        refine sb_Vi (As := [.int a7]) (rest := []) ⟨hx, hb, hml, hown, hts⟩ (fun sz => c_X1_valueAt l dC dI cI cF cJ cD q0 q1 q2 q3 q4 q5 q6 q7 q8 F a7  x9 hx9 sz) (cwV 1 hts (g_V q53 q54 q55 q56 q48) rfl rfl rfl pc_X1_valueAt ⟨Nat.le_of_ble_eq_true rfl, Nat.le_of_ble_eq_true rfl⟩) 0 1 rfl rfl hK hP hD hS hA [0, 1, 2, 3, 4, 5, 6, 7, 8] [] rfl rfl (by decide) (by decide) (by decide) (fun _ _ _ _ h => h) (fun _ _ _ => trivial) rfl rfl hl.1 (Nat.le_of_ble_eq_true rfl) dX1_isTidy_12 ⟨hkc, hks⟩ (fun r9 u H locs hr9 hP hD hS => ?_)
        have hr9 := Eq.symm hr9
        subst hr9
        have hP : va_P (dC, dI) vwCl (wFR cI cF cJ q0 q1 q2 q3 q4 q5 q6 q7 q8 F) H := hP
        have hD : va_D A (wFR cI cF cJ q0 q1 q2 q3 q4 q5 q6 q7 q8 F) := hD
        refine lv_bipush (v := 9) hx hb dX1_isTidy_15 (by decide) ?_
        refine lv_icmp_le (tgt := 22) hx hb dX1_isTidy_17 (by decide) (fun c10 => ?_) (fun c10 => ?_)
        · have hf := ite_t hf c10
          obtain ⟨v11, ev11⟩ : ∃ y : Int32, y = a7 + 1 := ⟨_, rfl⟩
          have hf := bnd_all hf v11 ev11
          refine lv_iinc (v := v11) (lv' := [(1, .int v11), (0, .ref q0)]) hx hb dX1_isTidy_22 hl (k := 0) rfl (by rw [ev11]; rfl) (by decide) rfl (fun ls hl => ?_)
          refine lv_goto (tgt := 2) hx hb dX1_isTidy_25 (by decide) ?_
          exact ih v11 _ _ _ hP hD hS (lv_sub hl [0, 1] rfl) hf
        · have hf := ite_f hf c10
          refine lv_iconst (v := 0) hx hb dX1_isTidy_20 (by decide) ?_
          obtain rfl := Option.some.inj hf
          exact W.zret (v := 0) hx hb hr (by rfl) (fun t ht hW => ⟨⟨_, (), rfl, rfl, by rw [ht]; exact hP, hD⟩, hS.F ht⟩) hS.2.2 dX1_isTidy_21
  refine L2 _ (fun a12 H locs ls hP hD hS hl hf => ?_) 16 0 _ _ _ hP hD hS (lv_sub hl [0, 1] rfl) hf
  refine lv_iconst (v := 1) hx hb dX1_isTidy_28 (by decide) ?_
  obtain rfl := Option.some.inj hf
  exact W.zret (v := 1) hx hb hr (by rfl) (fun t ht hW => ⟨⟨_, (), rfl, rfl, by rw [ht]; exact hP, hD⟩, hS.F ht⟩) hS.2.2 dX1_isTidy_29
noncomputable def f_X1_moveHand (F : FR) (p0 : Int32) : Option (FR) := bnd (p0 - (fHa F)) fun (v1 : Int32) => bnd (if 0 ≤ v1 then v1 else 0 - v1) fun (v2 : Int32) => if v2 ≤ 0 then (some F) else (bnd (FP.i2f v2) fun (v4 : UInt32) => gd (nn32 (FP.fmul 1040187392 v4)) <| bnd (FP.fmul 1040187392 v4) fun (v6 : UInt32) => gd (nn32 (FP.fadd (fSe F) v6)) <| bnd (FP.fadd (fSe F) v6) fun (v8 : UInt32) => some (sfSe (sfHa F p0) v8))
theorem pc_X1_moveHand : yX1_moveHand.cls = RX1 ∧ yX1_moveHand.cls ≠ "java/lang/invoke/MethodHandle" ∧ yX1_moveHand.cls ≠ "java/lang/invoke/VarHandle" ∧ (parseMethodDescriptor yX1_moveHand.desc).map (fun d => d.parameters.length) = some 1 := by decide +kernel
abbrev rm_X1_moveHand : Room := { frames := 1, cells := 0, slots := 0, locals := 21 }
set_option maxHeartbeats 4000000 in
set_option maxRecDepth 100000 in
theorem c_X1_moveHand (l : Launch) (dC : Nat → ClassId) (dI : Nat → Nat → Nat) (cI cF cJ cD : ClassId) (q0 q1 q2 q3 q4 q5 q6 q7 q8 : Nat) (F : FR) (p0 : Int32) (res : (FR)) (hf : f_X1_moveHand F p0 = some res) (sz : Nat) : Met l yX1_moveHand (ws_ yX1_moveHand cX1_moveHand 3 none) rm_X1_moveHand (sbPre (dC, dI) (TY cI cF cJ cD) (wFR cI cF cJ q0 q1 q2 q3 q4 q5 q6 q7 q8 F) E0 sz [.ref q0, .int p0]) (va_Qv (fun (_ : Unit) => True) (sbEnd (dC, dI) (fun _ => wFR cI cF cJ q0 q1 q2 q3 q4 q5 q6 q7 q8 res) (va_A (wFR cI cF cJ q0 q1 q2 q3 q4 q5 q6 q7 q8 F) sz)) (va_A (wFR cI cF cJ q0 q1 q2 q3 q4 q5 q6 q7 q8 F) sz)) 0 0 (va_A (wFR cI cF cJ q0 q1 q2 q3 q4 q5 q6 q7 q8 F) sz) := by
  refine Met.ofW (cc := cX1_moveHand) (maxL := 3) (ret := none) (by decide) rfl ?_
  intro p e s m args below meth c s₁ B hml hv
  obtain ⟨rfl, hsz, hP, hK, hD0, hE⟩ := hv
  have hx := B.exec
  have hb := B.bytes
  have hr := B.returns
  have hts0 := atoms_spec (ws := ws_ yX1_moveHand cX1_moveHand 3 none) B.pre
  have hts := fun (w : Cond) (h : w ∈ LW) => hts0 w (List.mem_cons_of_mem _ h)
  have hown : s.vm.findClass RX1 = some m.cls := findClass_of_methodNamed B.named
  have hlocks := B.notSynchronized
  subst hsz
  have hD := hD0.self (sz := s.heap.size)
  generalize hAe : va_A (wFR cI cF cJ q0 q1 q2 q3 q4 q5 q6 q7 q8 F) s.heap.size = A at hD ⊢
  have hA : ∀ q : Nat, s.heap.size ≤ q → A q := fun q h => by rw [← hAe]; exact Or.inr h
  have hS : va_S A s.heap s.heap [] := va_S.rf
  have hkc := Nat.zero_le rm_X1_moveHand.cells
  have hks := Nat.zero_le rm_X1_moveHand.slots
  have hl := lv_entry ([.ref q0, .int p0]) (n := 3) (Nat.le_of_ble_eq_true rfl)
  rw [lg_entry_eq]
  generalize (lg_sl ([.ref q0, .int p0]) ++ List.replicate (3 - (lg_sl ([.ref q0, .int p0])).length) Slot.unset).toArray = ls at hl ⊢
  have hl : lv_has ls 3 [(0, .ref q0), (1, .int p0)] := hl
  rw [f_X1_moveHand] at hf
  refine lv_iload_n hx hb dX1_moveHand_0 rfl (lv_at hl 1 rfl) ?_
  refine lv_aload_n hx hb dX1_moveHand_1 rfl (lv_at hl 0 rfl) ?_
  refine va_get (D := (dC, dI)) (ci := 1) (v := .int (fHa F)) (C := RX1) (T := TX1) (N := 13) hx hb hts iX1 hown hK hP 0 rfl rfl 4 (by decide) (hts _ q34) (fun _ h9 => h9) rfl dX1_moveHand_2 ?_
  refine lv_isub hx hb dX1_moveHand_5 ?_
  refine lv_topi (fun v1 ev1 => ?_)
  have hf := bnd_all hf v1 ev1
  refine va_mabs hx hb (hml.trans hl.1.symm) hown (hts _ q59) (hts _ q60) (hts _ q61) (hts _ q62) (Nat.le_of_ble_eq_true rfl) (Nat.le_of_ble_eq_true rfl) hkc hks dX1_moveHand_6 ?_
  refine lv_topi (fun v2 ev2 => ?_)
  have hf := bnd_all hf v2 ev2
  refine lv_istore_n (lv' := [(2, .int v2), (0, .ref q0), (1, .int p0)]) hx hb dX1_moveHand_9 rfl hl (by decide) rfl (fun ls hl => ?_)
  refine lv_iload_n hx hb dX1_moveHand_10 rfl (lv_at hl 0 rfl) ?_
  refine lv_if_le (tgt := 33) hx hb dX1_moveHand_11 (by decide) (fun c3 => ?_) (fun c3 => ?_)
  · have hf := ite_t hf c3
    obtain rfl := Option.some.inj hf
    exact W.vret hx hb hr (fun t ht hW => ⟨⟨(), rfl, trivial, by rw [ht]; exact hP, hD⟩, hS.F ht⟩) hS.2.2 dX1_moveHand_33
  · have hf := ite_f hf c3
    refine lv_aload_n hx hb dX1_moveHand_14 rfl (lv_at hl 1 rfl) ?_
    refine lv_aload_n hx hb dX1_moveHand_15 rfl (lv_at hl 1 rfl) ?_
    refine va_get (D := (dC, dI)) (ci := 1) (v := .float (fSe F)) (C := RX1) (T := TX1) (N := 13) hx hb hts iX1 hown hK hP 0 rfl rfl 5 (by decide) (hts _ q35) (fun _ h9 => h9) rfl dX1_moveHand_16 ?_
    refine lv_ldcf hx hb hown (hts _ q63) dX1_moveHand_19 ?_
    refine lv_iload_n hx hb dX1_moveHand_21 rfl (lv_at hl 0 rfl) ?_
    refine lv_i2f hx hb dX1_moveHand_22 ?_
    refine lv_topf (fun v4 ev4 => ?_)
    have hf := bnd_all hf v4 ev4
    obtain ⟨g5, hf⟩ := gd_e hf
    refine lv_fmul hx hb dX1_moveHand_23 (nn32_e g5) ?_
    refine lv_topf (fun v6 ev6 => ?_)
    have hf := bnd_all hf v6 ev6
    obtain ⟨g7, hf⟩ := gd_e hf
    refine lv_fadd hx hb dX1_moveHand_24 (nn32_e g7) ?_
    refine lv_topf (fun v8 ev8 => ?_)
    have hf := bnd_all hf v8 ev8
    refine va_put (D := (dC, dI)) (ci := 1) (v := .float v8) (ty := .float) (C := RX1) (T := TX1) (N := 13) hx hb hts iX1 tyX1 tyX1_ok nmX1 hown hK hP hD hS 0 rfl rfl 5 (by decide) (hts _ q35) (fun _ h9 => h9) rfl (by decide +kernel) rfl rfl (Nat.le_of_ble_eq_true rfl) dX1_moveHand_25 (fun H locs hP hD hS => ?_)
    have hP : va_P (dC, dI) vwCl (wFR cI cF cJ q0 q1 q2 q3 q4 q5 q6 q7 q8 (sfSe F v8)) H := hP
    have hD : va_D A (wFR cI cF cJ q0 q1 q2 q3 q4 q5 q6 q7 q8 (sfSe F v8)) := hD
    refine lv_aload_n hx hb dX1_moveHand_28 rfl (lv_at hl 1 rfl) ?_
    refine lv_iload_n hx hb dX1_moveHand_29 rfl (lv_at hl 2 rfl) ?_
    refine va_put (D := (dC, dI)) (ci := 1) (v := .int p0) (ty := .int) (C := RX1) (T := TX1) (N := 13) hx hb hts iX1 tyX1 tyX1_ok nmX1 hown hK hP hD hS 0 rfl rfl 4 (by decide) (hts _ q34) (fun _ h9 => h9) rfl (by decide +kernel) rfl rfl (Nat.le_of_ble_eq_true rfl) dX1_moveHand_30 (fun H locs hP hD hS => ?_)
    have hP : va_P (dC, dI) vwCl (wFR cI cF cJ q0 q1 q2 q3 q4 q5 q6 q7 q8 (sfSe (sfHa F p0) v8)) H := hP
    have hD : va_D A (wFR cI cF cJ q0 q1 q2 q3 q4 q5 q6 q7 q8 (sfSe (sfHa F p0) v8)) := hD
    obtain rfl := Option.some.inj hf
    exact W.vret hx hb hr (fun t ht hW => ⟨⟨(), rfl, trivial, by rw [ht]; exact hP, hD⟩, hS.F ht⟩) hS.2.2 dX1_moveHand_33
noncomputable def f_X1_pushDeck (F : FR) (p0 : Int32) (p1 : Int32) : Option (FR) := if p0 < 0 then (some F) else (if (8 : Int32) ≤ p0 then (some F) else (if p0 < 8 then (bnd (if 0 ≤ p1 then p1 else 0 - p1) fun (v4 : Int32) => bnd (FP.i2f v4) fun (v5 : UInt32) => gd (nn32 (FP.fmul 1031798784 v5)) <| bnd (FP.fmul 1031798784 v5) fun (v7 : UInt32) => gd (nn32 (FP.fadd 1048576000 v7)) <| bnd (FP.fadd 1048576000 v7) fun (v9 : UInt32) => gd (gin p0 8) <| bnd ((dWe (fAb F)) (Int32.toNatClampNeg p0)) fun (v11 : Int32) => if v11 < 40 then (gd (nn32 (FP.fadd (fSe F) v9)) <| bnd (FP.fadd (fSe F) v9) fun (v14 : UInt32) => gd (gin p0 8) <| bnd ((dCn (fAb F)) (Int32.toNatClampNeg p0)) fun (v16 : Int32) => bnd (v16 + p1) fun (v17 : Int32) => gd (gin p0 8) <| gd (gin p0 8) <| bnd ((dWe (fAb F)) (Int32.toNatClampNeg p0)) fun (v20 : Int32) => bnd (v20 + v4) fun (v21 : Int32) => gd (gin p0 8) <| bnd ((fPu F) + 1) fun (v23 : Int32) => bnd ((fBd F) + v4) fun (v24 : Int32) => some (sfBd (sfPu (sfSe (sfAb F (sdWe (sdCn (fAb F) (upd (dCn (fAb F)) (Int32.toNatClampNeg p0) v17)) (upd (dWe (fAb F)) (Int32.toNatClampNeg p0) v21))) v14) v23) v24)) else (gd (nn32 (FP.fmul v9 FP.fconst2)) <| bnd (FP.fmul v9 FP.fconst2) fun (v26 : UInt32) => gd (nn32 (FP.fadd (fSe F) v26)) <| bnd (FP.fadd (fSe F) v26) fun (v28 : UInt32) => gd (gin p0 8) <| bnd ((dCn (fAb F)) (Int32.toNatClampNeg p0)) fun (v30 : Int32) => bnd (v30 + p1) fun (v31 : Int32) => gd (gin p0 8) <| gd (gin p0 8) <| bnd ((dWe (fAb F)) (Int32.toNatClampNeg p0)) fun (v34 : Int32) => bnd (v34 + v4) fun (v35 : Int32) => gd (gin p0 8) <| bnd ((fPu F) + 1) fun (v37 : Int32) => bnd ((fBd F) + v4) fun (v38 : Int32) => some (sfBd (sfPu (sfSe (sfAb F (sdWe (sdCn (fAb F) (upd (dCn (fAb F)) (Int32.toNatClampNeg p0) v31)) (upd (dWe (fAb F)) (Int32.toNatClampNeg p0) v35))) v28) v37) v38))) else (some F)))
theorem pc_X1_pushDeck : yX1_pushDeck.cls = RX1 ∧ yX1_pushDeck.cls ≠ "java/lang/invoke/MethodHandle" ∧ yX1_pushDeck.cls ≠ "java/lang/invoke/VarHandle" ∧ (parseMethodDescriptor yX1_pushDeck.desc).map (fun d => d.parameters.length) = some 3 := by decide +kernel
abbrev rm_X1_pushDeck : Room := { frames := 1, cells := 0, slots := 0, locals := 21 }
set_option maxHeartbeats 4000000 in
set_option maxRecDepth 100000 in
theorem c_X1_pushDeck (l : Launch) (dC : Nat → ClassId) (dI : Nat → Nat → Nat) (cI cF cJ cD : ClassId) (q0 q1 q2 q3 q4 q5 q6 q7 q8 : Nat) (F : FR) (p0 : Int32) (p1 : Int32) (res : (FR)) (hf : f_X1_pushDeck F p0 p1 = some res) (sz : Nat) : Met l yX1_pushDeck (ws_ yX1_pushDeck cX1_pushDeck 6 none) rm_X1_pushDeck (sbPre (dC, dI) (TY cI cF cJ cD) (wFR cI cF cJ q0 q1 q2 q3 q4 q5 q6 q7 q8 F) E0 sz [.ref q0, .ref q1, .int p0, .int p1]) (va_Qv (fun (_ : Unit) => True) (sbEnd (dC, dI) (fun _ => wFR cI cF cJ q0 q1 q2 q3 q4 q5 q6 q7 q8 res) (va_A (wFR cI cF cJ q0 q1 q2 q3 q4 q5 q6 q7 q8 F) sz)) (va_A (wFR cI cF cJ q0 q1 q2 q3 q4 q5 q6 q7 q8 F) sz)) 0 0 (va_A (wFR cI cF cJ q0 q1 q2 q3 q4 q5 q6 q7 q8 F) sz) := by
  refine Met.ofW (cc := cX1_pushDeck) (maxL := 6) (ret := none) (by decide) rfl ?_
  intro p e s m args below meth c s₁ B hml hv
  obtain ⟨rfl, hsz, hP, hK, hD0, hE⟩ := hv
  have hx := B.exec
  have hb := B.bytes
  have hr := B.returns
  have hts0 := atoms_spec (ws := ws_ yX1_pushDeck cX1_pushDeck 6 none) B.pre
  have hts := fun (w : Cond) (h : w ∈ LW) => hts0 w (List.mem_cons_of_mem _ h)
  have hown : s.vm.findClass RX1 = some m.cls := findClass_of_methodNamed B.named
  have hlocks := B.notSynchronized
  subst hsz
  have hD := hD0.self (sz := s.heap.size)
  generalize hAe : va_A (wFR cI cF cJ q0 q1 q2 q3 q4 q5 q6 q7 q8 F) s.heap.size = A at hD ⊢
  have hA : ∀ q : Nat, s.heap.size ≤ q → A q := fun q h => by rw [← hAe]; exact Or.inr h
  have hS : va_S A s.heap s.heap [] := va_S.rf
  have hkc := Nat.zero_le rm_X1_pushDeck.cells
  have hks := Nat.zero_le rm_X1_pushDeck.slots
  have hl := lv_entry ([.ref q0, .ref q1, .int p0, .int p1]) (n := 6) (Nat.le_of_ble_eq_true rfl)
  rw [lg_entry_eq]
  generalize (lg_sl ([.ref q0, .ref q1, .int p0, .int p1]) ++ List.replicate (6 - (lg_sl ([.ref q0, .ref q1, .int p0, .int p1])).length) Slot.unset).toArray = ls at hl ⊢
  have hl : lv_has ls 6 [(0, .ref q0), (1, .ref q1), (2, .int p0), (3, .int p1)] := hl
  rw [f_X1_pushDeck] at hf
  refine lv_iload_n hx hb dX1_pushDeck_0 rfl (lv_at hl 2 rfl) ?_
  refine lv_if_lt (tgt := 22) hx hb dX1_pushDeck_1 (by decide) (fun c1 => ?_) (fun c1 => ?_)
  · have hf := ite_t hf c1
    obtain rfl := Option.some.inj hf
    exact W.vret hx hb hr (fun t ht hW => ⟨⟨(), rfl, trivial, by rw [ht]; exact hP, hD⟩, hS.F ht⟩) hS.2.2 dX1_pushDeck_22
  · have hf := ite_f hf c1
    refine lv_iload_n hx hb dX1_pushDeck_4 rfl (lv_at hl 2 rfl) ?_
    refine lv_aload_n hx hb dX1_pushDeck_5 rfl (lv_at hl 1 rfl) ?_
    refine va_get (D := (dC, dI)) (ci := 0) (v := .ref q2) (C := RX0) (T := TX0) (N := 4) hx hb hts iX0 hown hK hP 1 rfl rfl 1 (by decide) (hts _ q65) (fun _ h9 => h9) rfl dX1_pushDeck_6 ?_
    refine va_alen (v := 8) hx hb hK hP 2 0 rfl rfl rfl dX1_pushDeck_9 ?_
    refine lv_icmp_ge (tgt := 22) hx hb dX1_pushDeck_10 (by decide) (fun c2 => ?_) (fun c2 => ?_)
    · have hf := ite_t hf c2
      obtain rfl := Option.some.inj hf
      exact W.vret hx hb hr (fun t ht hW => ⟨⟨(), rfl, trivial, by rw [ht]; exact hP, hD⟩, hS.F ht⟩) hS.2.2 dX1_pushDeck_22
    · have hf := ite_f hf c2
      refine lv_iload_n hx hb dX1_pushDeck_13 rfl (lv_at hl 2 rfl) ?_
      refine lv_aload_n hx hb dX1_pushDeck_14 rfl (lv_at hl 1 rfl) ?_
      refine va_get (D := (dC, dI)) (ci := 0) (v := .ref q3) (C := RX0) (T := TX0) (N := 4) hx hb hts iX0 hown hK hP 1 rfl rfl 2 (by decide) (hts _ q66) (fun _ h9 => h9) rfl dX1_pushDeck_15 ?_
      refine va_alen (v := 8) hx hb hK hP 3 0 rfl rfl rfl dX1_pushDeck_18 ?_
      refine lv_icmp_lt (tgt := 23) hx hb dX1_pushDeck_19 (by decide) (fun c3 => ?_) (fun c3 => ?_)
      · have hf := ite_t hf c3
        refine lv_iload_n hx hb dX1_pushDeck_23 rfl (lv_at hl 3 rfl) ?_
        refine va_mabs hx hb (hml.trans hl.1.symm) hown (hts _ q59) (hts _ q60) (hts _ q61) (hts _ q62) (Nat.le_of_ble_eq_true rfl) (Nat.le_of_ble_eq_true rfl) hkc hks dX1_pushDeck_24 ?_
        refine lv_topi (fun v4 ev4 => ?_)
        have hf := bnd_all hf v4 ev4
        refine lv_istore (lv' := [(4, .int v4), (0, .ref q0), (1, .ref q1), (2, .int p0), (3, .int p1)]) hx hb dX1_pushDeck_27 hl (by decide) rfl (fun ls hl => ?_)
        refine lv_ldcf hx hb hown (hts _ q67) dX1_pushDeck_29 ?_
        refine lv_ldcf hx hb hown (hts _ q68) dX1_pushDeck_31 ?_
        refine lv_iload hx hb dX1_pushDeck_33 (lv_at hl 0 rfl) ?_
        refine lv_i2f hx hb dX1_pushDeck_35 ?_
        refine lv_topf (fun v5 ev5 => ?_)
        have hf := bnd_all hf v5 ev5
        obtain ⟨g6, hf⟩ := gd_e hf
        refine lv_fmul hx hb dX1_pushDeck_36 (nn32_e g6) ?_
        refine lv_topf (fun v7 ev7 => ?_)
        have hf := bnd_all hf v7 ev7
        obtain ⟨g8, hf⟩ := gd_e hf
        refine lv_fadd hx hb dX1_pushDeck_37 (nn32_e g8) ?_
        refine lv_topf (fun v9 ev9 => ?_)
        have hf := bnd_all hf v9 ev9
        refine lv_fstore (lv' := [(5, .float v9), (4, .int v4), (0, .ref q0), (1, .ref q1), (2, .int p0), (3, .int p1)]) hx hb dX1_pushDeck_38 hl (by decide) rfl (fun ls hl => ?_)
        refine lv_aload_n hx hb dX1_pushDeck_40 rfl (lv_at hl 3 rfl) ?_
        refine va_get (D := (dC, dI)) (ci := 0) (v := .ref q3) (C := RX0) (T := TX0) (N := 4) hx hb hts iX0 hown hK hP 1 rfl rfl 2 (by decide) (hts _ q66) (fun _ h9 => h9) rfl dX1_pushDeck_41 ?_
        refine lv_iload_n hx hb dX1_pushDeck_44 rfl (lv_at hl 4 rfl) ?_
        obtain ⟨g10, hf⟩ := gd_e hf
        refine va_iald hx hb hK hP 3 0 rfl rfl (gin_in g10) dX1_pushDeck_45 ?_
        refine lv_topi (fun v11 ev11 => ?_)
        have hf := bnd_all hf v11 ev11
        refine lv_bipush (v := 40) hx hb dX1_pushDeck_46 (by decide) ?_
        refine lv_icmp_lt (tgt := 57) hx hb dX1_pushDeck_48 (by decide) (fun c12 => ?_) (fun c12 => ?_)
        · have hf := ite_t hf c12
          refine lv_aload_n hx hb dX1_pushDeck_57 rfl (lv_at hl 2 rfl) ?_
          refine lv_aload_n hx hb dX1_pushDeck_58 rfl (lv_at hl 2 rfl) ?_
          refine va_get (D := (dC, dI)) (ci := 1) (v := .float (fSe F)) (C := RX1) (T := TX1) (N := 13) hx hb hts iX1 hown hK hP 0 rfl rfl 5 (by decide) (hts _ q35) (fun _ h9 => h9) rfl dX1_pushDeck_59 ?_
          refine lv_fload hx hb dX1_pushDeck_62 (lv_at hl 0 rfl) ?_
          obtain ⟨g13, hf⟩ := gd_e hf
          refine lv_fadd hx hb dX1_pushDeck_64 (nn32_e g13) ?_
          refine lv_topf (fun v14 ev14 => ?_)
          have hf := bnd_all hf v14 ev14
          refine va_put (D := (dC, dI)) (ci := 1) (v := .float v14) (ty := .float) (C := RX1) (T := TX1) (N := 13) hx hb hts iX1 tyX1 tyX1_ok nmX1 hown hK hP hD hS 0 rfl rfl 5 (by decide) (hts _ q35) (fun _ h9 => h9) rfl (by decide +kernel) rfl rfl (Nat.le_of_ble_eq_true rfl) dX1_pushDeck_65 (fun H locs hP hD hS => ?_)
          have hP : va_P (dC, dI) vwCl (wFR cI cF cJ q0 q1 q2 q3 q4 q5 q6 q7 q8 (sfSe F v14)) H := hP
          have hD : va_D A (wFR cI cF cJ q0 q1 q2 q3 q4 q5 q6 q7 q8 (sfSe F v14)) := hD
          refine lv_aload_n hx hb dX1_pushDeck_68 rfl (lv_at hl 3 rfl) ?_
          refine va_get (D := (dC, dI)) (ci := 0) (v := .ref q2) (C := RX0) (T := TX0) (N := 4) hx hb hts iX0 hown hK hP 1 rfl rfl 1 (by decide) (hts _ q65) (fun _ h9 => h9) rfl dX1_pushDeck_69 ?_
          refine lv_iload_n hx hb dX1_pushDeck_72 rfl (lv_at hl 4 rfl) ?_
          refine lv_dup2_11 hx hb dX1_pushDeck_73 rfl rfl ?_
          obtain ⟨g15, hf⟩ := gd_e hf
          refine va_iald hx hb hK hP 2 0 rfl rfl (gin_in g15) dX1_pushDeck_74 ?_
          refine lv_topi (fun v16 ev16 => ?_)
          have hf := bnd_all hf v16 ev16
          refine lv_iload_n hx hb dX1_pushDeck_75 rfl (lv_at hl 5 rfl) ?_
          refine lv_iadd hx hb dX1_pushDeck_76 ?_
          refine lv_topi (fun v17 ev17 => ?_)
          have hf := bnd_all hf v17 ev17
          obtain ⟨g18, hf⟩ := gd_e hf
          refine va_iast hx hb hK hP hD hS 2 0 rfl rfl (gin_in g18) dX1_pushDeck_77 (fun H locs hP hD hS => ?_)
          have hP : va_P (dC, dI) vwCl (wFR cI cF cJ q0 q1 q2 q3 q4 q5 q6 q7 q8 (sfSe (sfAb F (sdCn (fAb F) (upd (dCn (fAb F)) (Int32.toNatClampNeg p0) v17))) v14)) H := hP
          have hD : va_D A (wFR cI cF cJ q0 q1 q2 q3 q4 q5 q6 q7 q8 (sfSe (sfAb F (sdCn (fAb F) (upd (dCn (fAb F)) (Int32.toNatClampNeg p0) v17))) v14)) := hD
          refine lv_aload_n hx hb dX1_pushDeck_78 rfl (lv_at hl 3 rfl) ?_
          refine va_get (D := (dC, dI)) (ci := 0) (v := .ref q3) (C := RX0) (T := TX0) (N := 4) hx hb hts iX0 hown hK hP 1 rfl rfl 2 (by decide) (hts _ q66) (fun _ h9 => h9) rfl dX1_pushDeck_79 ?_
          refine lv_iload_n hx hb dX1_pushDeck_82 rfl (lv_at hl 4 rfl) ?_
          refine lv_dup2_11 hx hb dX1_pushDeck_83 rfl rfl ?_
          obtain ⟨g19, hf⟩ := gd_e hf
          refine va_iald hx hb hK hP 3 0 rfl rfl (gin_in g19) dX1_pushDeck_84 ?_
          refine lv_topi (fun v20 ev20 => ?_)
          have hf := bnd_all hf v20 ev20
          refine lv_iload hx hb dX1_pushDeck_85 (lv_at hl 1 rfl) ?_
          refine lv_iadd hx hb dX1_pushDeck_87 ?_
          refine lv_topi (fun v21 ev21 => ?_)
          have hf := bnd_all hf v21 ev21
          obtain ⟨g22, hf⟩ := gd_e hf
          refine va_iast hx hb hK hP hD hS 3 0 rfl rfl (gin_in g22) dX1_pushDeck_88 (fun H locs hP hD hS => ?_)
          have hP : va_P (dC, dI) vwCl (wFR cI cF cJ q0 q1 q2 q3 q4 q5 q6 q7 q8 (sfSe (sfAb F (sdWe (sdCn (fAb F) (upd (dCn (fAb F)) (Int32.toNatClampNeg p0) v17)) (upd (dWe (fAb F)) (Int32.toNatClampNeg p0) v21))) v14)) H := hP
          have hD : va_D A (wFR cI cF cJ q0 q1 q2 q3 q4 q5 q6 q7 q8 (sfSe (sfAb F (sdWe (sdCn (fAb F) (upd (dCn (fAb F)) (Int32.toNatClampNeg p0) v17)) (upd (dWe (fAb F)) (Int32.toNatClampNeg p0) v21))) v14)) := hD
          refine lv_aload_n hx hb dX1_pushDeck_89 rfl (lv_at hl 2 rfl) ?_
          refine lv_dup hx hb dX1_pushDeck_90 rfl ?_
          refine va_get (D := (dC, dI)) (ci := 1) (v := .int (fPu F)) (C := RX1) (T := TX1) (N := 13) hx hb hts iX1 hown hK hP 0 rfl rfl 6 (by decide) (hts _ q36) (fun _ h9 => h9) rfl dX1_pushDeck_91 ?_
          refine lv_iconst (v := 1) hx hb dX1_pushDeck_94 (by decide) ?_
          refine lv_iadd hx hb dX1_pushDeck_95 ?_
          refine lv_topi (fun v23 ev23 => ?_)
          have hf := bnd_all hf v23 ev23
          refine va_put (D := (dC, dI)) (ci := 1) (v := .int v23) (ty := .int) (C := RX1) (T := TX1) (N := 13) hx hb hts iX1 tyX1 tyX1_ok nmX1 hown hK hP hD hS 0 rfl rfl 6 (by decide) (hts _ q36) (fun _ h9 => h9) rfl (by decide +kernel) rfl rfl (Nat.le_of_ble_eq_true rfl) dX1_pushDeck_96 (fun H locs hP hD hS => ?_)
          have hP : va_P (dC, dI) vwCl (wFR cI cF cJ q0 q1 q2 q3 q4 q5 q6 q7 q8 (sfPu (sfSe (sfAb F (sdWe (sdCn (fAb F) (upd (dCn (fAb F)) (Int32.toNatClampNeg p0) v17)) (upd (dWe (fAb F)) (Int32.toNatClampNeg p0) v21))) v14) v23)) H := hP
          have hD : va_D A (wFR cI cF cJ q0 q1 q2 q3 q4 q5 q6 q7 q8 (sfPu (sfSe (sfAb F (sdWe (sdCn (fAb F) (upd (dCn (fAb F)) (Int32.toNatClampNeg p0) v17)) (upd (dWe (fAb F)) (Int32.toNatClampNeg p0) v21))) v14) v23)) := hD
          refine lv_aload_n hx hb dX1_pushDeck_99 rfl (lv_at hl 2 rfl) ?_
          refine lv_dup hx hb dX1_pushDeck_100 rfl ?_
          refine va_get (D := (dC, dI)) (ci := 1) (v := .int (fBd F)) (C := RX1) (T := TX1) (N := 13) hx hb hts iX1 hown hK hP 0 rfl rfl 7 (by decide) (hts _ q37) (fun _ h9 => h9) rfl dX1_pushDeck_101 ?_
          refine lv_iload hx hb dX1_pushDeck_104 (lv_at hl 1 rfl) ?_
          refine lv_iadd hx hb dX1_pushDeck_106 ?_
          refine lv_topi (fun v24 ev24 => ?_)
          have hf := bnd_all hf v24 ev24
          refine va_put (D := (dC, dI)) (ci := 1) (v := .int v24) (ty := .int) (C := RX1) (T := TX1) (N := 13) hx hb hts iX1 tyX1 tyX1_ok nmX1 hown hK hP hD hS 0 rfl rfl 7 (by decide) (hts _ q37) (fun _ h9 => h9) rfl (by decide +kernel) rfl rfl (Nat.le_of_ble_eq_true rfl) dX1_pushDeck_107 (fun H locs hP hD hS => ?_)
          have hP : va_P (dC, dI) vwCl (wFR cI cF cJ q0 q1 q2 q3 q4 q5 q6 q7 q8 (sfBd (sfPu (sfSe (sfAb F (sdWe (sdCn (fAb F) (upd (dCn (fAb F)) (Int32.toNatClampNeg p0) v17)) (upd (dWe (fAb F)) (Int32.toNatClampNeg p0) v21))) v14) v23) v24)) H := hP
          have hD : va_D A (wFR cI cF cJ q0 q1 q2 q3 q4 q5 q6 q7 q8 (sfBd (sfPu (sfSe (sfAb F (sdWe (sdCn (fAb F) (upd (dCn (fAb F)) (Int32.toNatClampNeg p0) v17)) (upd (dWe (fAb F)) (Int32.toNatClampNeg p0) v21))) v14) v23) v24)) := hD
          obtain rfl := Option.some.inj hf
          exact W.vret hx hb hr (fun t ht hW => ⟨⟨(), rfl, trivial, by rw [ht]; exact hP, hD⟩, hS.F ht⟩) hS.2.2 dX1_pushDeck_110
        · have hf := ite_f hf c12
          refine lv_fload hx hb dX1_pushDeck_51 (lv_at hl 0 rfl) ?_
          refine lv_fconst2 hx hb dX1_pushDeck_53 ?_
          obtain ⟨g25, hf⟩ := gd_e hf
          refine lv_fmul hx hb dX1_pushDeck_54 (nn32_e g25) ?_
          refine lv_topf (fun v26 ev26 => ?_)
          have hf := bnd_all hf v26 ev26
          refine lv_fstore (lv' := [(5, .float v26), (4, .int v4), (0, .ref q0), (1, .ref q1), (2, .int p0), (3, .int p1)]) hx hb dX1_pushDeck_55 hl (by decide) rfl (fun ls hl => ?_)
          refine lv_aload_n hx hb dX1_pushDeck_57 rfl (lv_at hl 2 rfl) ?_
          refine lv_aload_n hx hb dX1_pushDeck_58 rfl (lv_at hl 2 rfl) ?_
          refine va_get (D := (dC, dI)) (ci := 1) (v := .float (fSe F)) (C := RX1) (T := TX1) (N := 13) hx hb hts iX1 hown hK hP 0 rfl rfl 5 (by decide) (hts _ q35) (fun _ h9 => h9) rfl dX1_pushDeck_59 ?_
          refine lv_fload hx hb dX1_pushDeck_62 (lv_at hl 0 rfl) ?_
          obtain ⟨g27, hf⟩ := gd_e hf
          refine lv_fadd hx hb dX1_pushDeck_64 (nn32_e g27) ?_
          refine lv_topf (fun v28 ev28 => ?_)
          have hf := bnd_all hf v28 ev28
          refine va_put (D := (dC, dI)) (ci := 1) (v := .float v28) (ty := .float) (C := RX1) (T := TX1) (N := 13) hx hb hts iX1 tyX1 tyX1_ok nmX1 hown hK hP hD hS 0 rfl rfl 5 (by decide) (hts _ q35) (fun _ h9 => h9) rfl (by decide +kernel) rfl rfl (Nat.le_of_ble_eq_true rfl) dX1_pushDeck_65 (fun H locs hP hD hS => ?_)
          have hP : va_P (dC, dI) vwCl (wFR cI cF cJ q0 q1 q2 q3 q4 q5 q6 q7 q8 (sfSe F v28)) H := hP
          have hD : va_D A (wFR cI cF cJ q0 q1 q2 q3 q4 q5 q6 q7 q8 (sfSe F v28)) := hD
          refine lv_aload_n hx hb dX1_pushDeck_68 rfl (lv_at hl 3 rfl) ?_
          refine va_get (D := (dC, dI)) (ci := 0) (v := .ref q2) (C := RX0) (T := TX0) (N := 4) hx hb hts iX0 hown hK hP 1 rfl rfl 1 (by decide) (hts _ q65) (fun _ h9 => h9) rfl dX1_pushDeck_69 ?_
          refine lv_iload_n hx hb dX1_pushDeck_72 rfl (lv_at hl 4 rfl) ?_
          refine lv_dup2_11 hx hb dX1_pushDeck_73 rfl rfl ?_
          obtain ⟨g29, hf⟩ := gd_e hf
          refine va_iald hx hb hK hP 2 0 rfl rfl (gin_in g29) dX1_pushDeck_74 ?_
          refine lv_topi (fun v30 ev30 => ?_)
          have hf := bnd_all hf v30 ev30
          refine lv_iload_n hx hb dX1_pushDeck_75 rfl (lv_at hl 5 rfl) ?_
          refine lv_iadd hx hb dX1_pushDeck_76 ?_
          refine lv_topi (fun v31 ev31 => ?_)
          have hf := bnd_all hf v31 ev31
          obtain ⟨g32, hf⟩ := gd_e hf
          refine va_iast hx hb hK hP hD hS 2 0 rfl rfl (gin_in g32) dX1_pushDeck_77 (fun H locs hP hD hS => ?_)
          have hP : va_P (dC, dI) vwCl (wFR cI cF cJ q0 q1 q2 q3 q4 q5 q6 q7 q8 (sfSe (sfAb F (sdCn (fAb F) (upd (dCn (fAb F)) (Int32.toNatClampNeg p0) v31))) v28)) H := hP
          have hD : va_D A (wFR cI cF cJ q0 q1 q2 q3 q4 q5 q6 q7 q8 (sfSe (sfAb F (sdCn (fAb F) (upd (dCn (fAb F)) (Int32.toNatClampNeg p0) v31))) v28)) := hD
          refine lv_aload_n hx hb dX1_pushDeck_78 rfl (lv_at hl 3 rfl) ?_
          refine va_get (D := (dC, dI)) (ci := 0) (v := .ref q3) (C := RX0) (T := TX0) (N := 4) hx hb hts iX0 hown hK hP 1 rfl rfl 2 (by decide) (hts _ q66) (fun _ h9 => h9) rfl dX1_pushDeck_79 ?_
          refine lv_iload_n hx hb dX1_pushDeck_82 rfl (lv_at hl 4 rfl) ?_
          refine lv_dup2_11 hx hb dX1_pushDeck_83 rfl rfl ?_
          obtain ⟨g33, hf⟩ := gd_e hf
          refine va_iald hx hb hK hP 3 0 rfl rfl (gin_in g33) dX1_pushDeck_84 ?_
          refine lv_topi (fun v34 ev34 => ?_)
          have hf := bnd_all hf v34 ev34
          refine lv_iload hx hb dX1_pushDeck_85 (lv_at hl 1 rfl) ?_
          refine lv_iadd hx hb dX1_pushDeck_87 ?_
          refine lv_topi (fun v35 ev35 => ?_)
          have hf := bnd_all hf v35 ev35
          obtain ⟨g36, hf⟩ := gd_e hf
          refine va_iast hx hb hK hP hD hS 3 0 rfl rfl (gin_in g36) dX1_pushDeck_88 (fun H locs hP hD hS => ?_)
          have hP : va_P (dC, dI) vwCl (wFR cI cF cJ q0 q1 q2 q3 q4 q5 q6 q7 q8 (sfSe (sfAb F (sdWe (sdCn (fAb F) (upd (dCn (fAb F)) (Int32.toNatClampNeg p0) v31)) (upd (dWe (fAb F)) (Int32.toNatClampNeg p0) v35))) v28)) H := hP
          have hD : va_D A (wFR cI cF cJ q0 q1 q2 q3 q4 q5 q6 q7 q8 (sfSe (sfAb F (sdWe (sdCn (fAb F) (upd (dCn (fAb F)) (Int32.toNatClampNeg p0) v31)) (upd (dWe (fAb F)) (Int32.toNatClampNeg p0) v35))) v28)) := hD
          refine lv_aload_n hx hb dX1_pushDeck_89 rfl (lv_at hl 2 rfl) ?_
          refine lv_dup hx hb dX1_pushDeck_90 rfl ?_
          refine va_get (D := (dC, dI)) (ci := 1) (v := .int (fPu F)) (C := RX1) (T := TX1) (N := 13) hx hb hts iX1 hown hK hP 0 rfl rfl 6 (by decide) (hts _ q36) (fun _ h9 => h9) rfl dX1_pushDeck_91 ?_
          refine lv_iconst (v := 1) hx hb dX1_pushDeck_94 (by decide) ?_
          refine lv_iadd hx hb dX1_pushDeck_95 ?_
          refine lv_topi (fun v37 ev37 => ?_)
          have hf := bnd_all hf v37 ev37
          refine va_put (D := (dC, dI)) (ci := 1) (v := .int v37) (ty := .int) (C := RX1) (T := TX1) (N := 13) hx hb hts iX1 tyX1 tyX1_ok nmX1 hown hK hP hD hS 0 rfl rfl 6 (by decide) (hts _ q36) (fun _ h9 => h9) rfl (by decide +kernel) rfl rfl (Nat.le_of_ble_eq_true rfl) dX1_pushDeck_96 (fun H locs hP hD hS => ?_)
          have hP : va_P (dC, dI) vwCl (wFR cI cF cJ q0 q1 q2 q3 q4 q5 q6 q7 q8 (sfPu (sfSe (sfAb F (sdWe (sdCn (fAb F) (upd (dCn (fAb F)) (Int32.toNatClampNeg p0) v31)) (upd (dWe (fAb F)) (Int32.toNatClampNeg p0) v35))) v28) v37)) H := hP
          have hD : va_D A (wFR cI cF cJ q0 q1 q2 q3 q4 q5 q6 q7 q8 (sfPu (sfSe (sfAb F (sdWe (sdCn (fAb F) (upd (dCn (fAb F)) (Int32.toNatClampNeg p0) v31)) (upd (dWe (fAb F)) (Int32.toNatClampNeg p0) v35))) v28) v37)) := hD
          refine lv_aload_n hx hb dX1_pushDeck_99 rfl (lv_at hl 2 rfl) ?_
          refine lv_dup hx hb dX1_pushDeck_100 rfl ?_
          refine va_get (D := (dC, dI)) (ci := 1) (v := .int (fBd F)) (C := RX1) (T := TX1) (N := 13) hx hb hts iX1 hown hK hP 0 rfl rfl 7 (by decide) (hts _ q37) (fun _ h9 => h9) rfl dX1_pushDeck_101 ?_
          refine lv_iload hx hb dX1_pushDeck_104 (lv_at hl 1 rfl) ?_
          refine lv_iadd hx hb dX1_pushDeck_106 ?_
          refine lv_topi (fun v38 ev38 => ?_)
          have hf := bnd_all hf v38 ev38
          refine va_put (D := (dC, dI)) (ci := 1) (v := .int v38) (ty := .int) (C := RX1) (T := TX1) (N := 13) hx hb hts iX1 tyX1 tyX1_ok nmX1 hown hK hP hD hS 0 rfl rfl 7 (by decide) (hts _ q37) (fun _ h9 => h9) rfl (by decide +kernel) rfl rfl (Nat.le_of_ble_eq_true rfl) dX1_pushDeck_107 (fun H locs hP hD hS => ?_)
          have hP : va_P (dC, dI) vwCl (wFR cI cF cJ q0 q1 q2 q3 q4 q5 q6 q7 q8 (sfBd (sfPu (sfSe (sfAb F (sdWe (sdCn (fAb F) (upd (dCn (fAb F)) (Int32.toNatClampNeg p0) v31)) (upd (dWe (fAb F)) (Int32.toNatClampNeg p0) v35))) v28) v37) v38)) H := hP
          have hD : va_D A (wFR cI cF cJ q0 q1 q2 q3 q4 q5 q6 q7 q8 (sfBd (sfPu (sfSe (sfAb F (sdWe (sdCn (fAb F) (upd (dCn (fAb F)) (Int32.toNatClampNeg p0) v31)) (upd (dWe (fAb F)) (Int32.toNatClampNeg p0) v35))) v28) v37) v38)) := hD
          obtain rfl := Option.some.inj hf
          exact W.vret hx hb hr (fun t ht hW => ⟨⟨(), rfl, trivial, by rw [ht]; exact hP, hD⟩, hS.F ht⟩) hS.2.2 dX1_pushDeck_110
      · have hf := ite_f hf c3
        obtain rfl := Option.some.inj hf
        exact W.vret hx hb hr (fun t ht hW => ⟨⟨(), rfl, trivial, by rw [ht]; exact hP, hD⟩, hS.F ht⟩) hS.2.2 dX1_pushDeck_22
noncomputable def f_X1_pushDeckB (F : FR) (p0 : Int32) (p1 : Int32) : Option (FR) := if p0 < 0 then (some F) else (if (8 : Int32) ≤ p0 then (some F) else (if p0 < 8 then (bnd (if 0 ≤ p1 then p1 else 0 - p1) fun (v4 : Int32) => bnd (FP.i2f v4) fun (v5 : UInt32) => gd (nn32 (FP.fmul 1031798784 v5)) <| bnd (FP.fmul 1031798784 v5) fun (v7 : UInt32) => gd (nn32 (FP.fadd 1048576000 v7)) <| bnd (FP.fadd 1048576000 v7) fun (v9 : UInt32) => gd (gin p0 8) <| bnd ((dWe (fBe F)) (Int32.toNatClampNeg p0)) fun (v11 : Int32) => if v11 < 40 then (gd (nn32 (FP.fadd (fSe F) v9)) <| bnd (FP.fadd (fSe F) v9) fun (v14 : UInt32) => gd (gin p0 8) <| bnd ((dCn (fBe F)) (Int32.toNatClampNeg p0)) fun (v16 : Int32) => bnd (v16 + p1) fun (v17 : Int32) => gd (gin p0 8) <| gd (gin p0 8) <| bnd ((dWe (fBe F)) (Int32.toNatClampNeg p0)) fun (v20 : Int32) => bnd (v20 + v4) fun (v21 : Int32) => gd (gin p0 8) <| bnd ((fPu F) + 1) fun (v23 : Int32) => bnd ((fBd F) + v4) fun (v24 : Int32) => some (sfBd (sfPu (sfSe (sfBe F (sdWe (sdCn (fBe F) (upd (dCn (fBe F)) (Int32.toNatClampNeg p0) v17)) (upd (dWe (fBe F)) (Int32.toNatClampNeg p0) v21))) v14) v23) v24)) else (gd (nn32 (FP.fmul v9 FP.fconst2)) <| bnd (FP.fmul v9 FP.fconst2) fun (v26 : UInt32) => gd (nn32 (FP.fadd (fSe F) v26)) <| bnd (FP.fadd (fSe F) v26) fun (v28 : UInt32) => gd (gin p0 8) <| bnd ((dCn (fBe F)) (Int32.toNatClampNeg p0)) fun (v30 : Int32) => bnd (v30 + p1) fun (v31 : Int32) => gd (gin p0 8) <| gd (gin p0 8) <| bnd ((dWe (fBe F)) (Int32.toNatClampNeg p0)) fun (v34 : Int32) => bnd (v34 + v4) fun (v35 : Int32) => gd (gin p0 8) <| bnd ((fPu F) + 1) fun (v37 : Int32) => bnd ((fBd F) + v4) fun (v38 : Int32) => some (sfBd (sfPu (sfSe (sfBe F (sdWe (sdCn (fBe F) (upd (dCn (fBe F)) (Int32.toNatClampNeg p0) v31)) (upd (dWe (fBe F)) (Int32.toNatClampNeg p0) v35))) v28) v37) v38))) else (some F)))
abbrev rm_X1_pushDeckB : Room := { frames := 1, cells := 0, slots := 0, locals := 21 }
set_option maxHeartbeats 4000000 in
set_option maxRecDepth 100000 in
theorem c_X1_pushDeckB (l : Launch) (dC : Nat → ClassId) (dI : Nat → Nat → Nat) (cI cF cJ cD : ClassId) (q0 q1 q2 q3 q4 q5 q6 q7 q8 : Nat) (F : FR) (p0 : Int32) (p1 : Int32) (res : (FR)) (hf : f_X1_pushDeckB F p0 p1 = some res) (sz : Nat) : Met l yX1_pushDeck (ws_ yX1_pushDeck cX1_pushDeck 6 none) rm_X1_pushDeckB (sbPre (dC, dI) (TY cI cF cJ cD) (wFR cI cF cJ q0 q1 q2 q3 q4 q5 q6 q7 q8 F) E0 sz [.ref q0, .ref q5, .int p0, .int p1]) (va_Qv (fun (_ : Unit) => True) (sbEnd (dC, dI) (fun _ => wFR cI cF cJ q0 q1 q2 q3 q4 q5 q6 q7 q8 res) (va_A (wFR cI cF cJ q0 q1 q2 q3 q4 q5 q6 q7 q8 F) sz)) (va_A (wFR cI cF cJ q0 q1 q2 q3 q4 q5 q6 q7 q8 F) sz)) 0 0 (va_A (wFR cI cF cJ q0 q1 q2 q3 q4 q5 q6 q7 q8 F) sz) := by
  refine Met.ofW (cc := cX1_pushDeck) (maxL := 6) (ret := none) (by decide) rfl ?_
  intro p e s m args below meth c s₁ B hml hv
  obtain ⟨rfl, hsz, hP, hK, hD0, hE⟩ := hv
  have hx := B.exec
  have hb := B.bytes
  have hr := B.returns
  have hts0 := atoms_spec (ws := ws_ yX1_pushDeck cX1_pushDeck 6 none) B.pre
  have hts := fun (w : Cond) (h : w ∈ LW) => hts0 w (List.mem_cons_of_mem _ h)
  have hown : s.vm.findClass RX1 = some m.cls := findClass_of_methodNamed B.named
  have hlocks := B.notSynchronized
  subst hsz
  have hD := hD0.self (sz := s.heap.size)
  generalize hAe : va_A (wFR cI cF cJ q0 q1 q2 q3 q4 q5 q6 q7 q8 F) s.heap.size = A at hD ⊢
  have hA : ∀ q : Nat, s.heap.size ≤ q → A q := fun q h => by rw [← hAe]; exact Or.inr h
  have hS : va_S A s.heap s.heap [] := va_S.rf
  have hkc := Nat.zero_le rm_X1_pushDeckB.cells
  have hks := Nat.zero_le rm_X1_pushDeckB.slots
  have hl := lv_entry ([.ref q0, .ref q5, .int p0, .int p1]) (n := 6) (Nat.le_of_ble_eq_true rfl)
  rw [lg_entry_eq]
  generalize (lg_sl ([.ref q0, .ref q5, .int p0, .int p1]) ++ List.replicate (6 - (lg_sl ([.ref q0, .ref q5, .int p0, .int p1])).length) Slot.unset).toArray = ls at hl ⊢
  have hl : lv_has ls 6 [(0, .ref q0), (1, .ref q5), (2, .int p0), (3, .int p1)] := hl
  rw [f_X1_pushDeckB] at hf
  refine lv_iload_n hx hb dX1_pushDeck_0 rfl (lv_at hl 2 rfl) ?_
  refine lv_if_lt (tgt := 22) hx hb dX1_pushDeck_1 (by decide) (fun c1 => ?_) (fun c1 => ?_)
  · have hf := ite_t hf c1
    obtain rfl := Option.some.inj hf
    exact W.vret hx hb hr (fun t ht hW => ⟨⟨(), rfl, trivial, by rw [ht]; exact hP, hD⟩, hS.F ht⟩) hS.2.2 dX1_pushDeck_22
  · have hf := ite_f hf c1
    refine lv_iload_n hx hb dX1_pushDeck_4 rfl (lv_at hl 2 rfl) ?_
    refine lv_aload_n hx hb dX1_pushDeck_5 rfl (lv_at hl 1 rfl) ?_
    refine va_get (D := (dC, dI)) (ci := 0) (v := .ref q6) (C := RX0) (T := TX0) (N := 4) hx hb hts iX0 hown hK hP 5 rfl rfl 1 (by decide) (hts _ q65) (fun _ h9 => h9) rfl dX1_pushDeck_6 ?_
    refine va_alen (v := 8) hx hb hK hP 6 0 rfl rfl rfl dX1_pushDeck_9 ?_
    refine lv_icmp_ge (tgt := 22) hx hb dX1_pushDeck_10 (by decide) (fun c2 => ?_) (fun c2 => ?_)
    · have hf := ite_t hf c2
      obtain rfl := Option.some.inj hf
      exact W.vret hx hb hr (fun t ht hW => ⟨⟨(), rfl, trivial, by rw [ht]; exact hP, hD⟩, hS.F ht⟩) hS.2.2 dX1_pushDeck_22
    · have hf := ite_f hf c2
      refine lv_iload_n hx hb dX1_pushDeck_13 rfl (lv_at hl 2 rfl) ?_
      refine lv_aload_n hx hb dX1_pushDeck_14 rfl (lv_at hl 1 rfl) ?_
      refine va_get (D := (dC, dI)) (ci := 0) (v := .ref q7) (C := RX0) (T := TX0) (N := 4) hx hb hts iX0 hown hK hP 5 rfl rfl 2 (by decide) (hts _ q66) (fun _ h9 => h9) rfl dX1_pushDeck_15 ?_
      refine va_alen (v := 8) hx hb hK hP 7 0 rfl rfl rfl dX1_pushDeck_18 ?_
      refine lv_icmp_lt (tgt := 23) hx hb dX1_pushDeck_19 (by decide) (fun c3 => ?_) (fun c3 => ?_)
      · have hf := ite_t hf c3
        refine lv_iload_n hx hb dX1_pushDeck_23 rfl (lv_at hl 3 rfl) ?_
        refine va_mabs hx hb (hml.trans hl.1.symm) hown (hts _ q59) (hts _ q60) (hts _ q61) (hts _ q62) (Nat.le_of_ble_eq_true rfl) (Nat.le_of_ble_eq_true rfl) hkc hks dX1_pushDeck_24 ?_
        refine lv_topi (fun v4 ev4 => ?_)
        have hf := bnd_all hf v4 ev4
        refine lv_istore (lv' := [(4, .int v4), (0, .ref q0), (1, .ref q5), (2, .int p0), (3, .int p1)]) hx hb dX1_pushDeck_27 hl (by decide) rfl (fun ls hl => ?_)
        refine lv_ldcf hx hb hown (hts _ q67) dX1_pushDeck_29 ?_
        refine lv_ldcf hx hb hown (hts _ q68) dX1_pushDeck_31 ?_
        refine lv_iload hx hb dX1_pushDeck_33 (lv_at hl 0 rfl) ?_
        refine lv_i2f hx hb dX1_pushDeck_35 ?_
        refine lv_topf (fun v5 ev5 => ?_)
        have hf := bnd_all hf v5 ev5
        obtain ⟨g6, hf⟩ := gd_e hf
        refine lv_fmul hx hb dX1_pushDeck_36 (nn32_e g6) ?_
        refine lv_topf (fun v7 ev7 => ?_)
        have hf := bnd_all hf v7 ev7
        obtain ⟨g8, hf⟩ := gd_e hf
        refine lv_fadd hx hb dX1_pushDeck_37 (nn32_e g8) ?_
        refine lv_topf (fun v9 ev9 => ?_)
        have hf := bnd_all hf v9 ev9
        refine lv_fstore (lv' := [(5, .float v9), (4, .int v4), (0, .ref q0), (1, .ref q5), (2, .int p0), (3, .int p1)]) hx hb dX1_pushDeck_38 hl (by decide) rfl (fun ls hl => ?_)
        refine lv_aload_n hx hb dX1_pushDeck_40 rfl (lv_at hl 3 rfl) ?_
        refine va_get (D := (dC, dI)) (ci := 0) (v := .ref q7) (C := RX0) (T := TX0) (N := 4) hx hb hts iX0 hown hK hP 5 rfl rfl 2 (by decide) (hts _ q66) (fun _ h9 => h9) rfl dX1_pushDeck_41 ?_
        refine lv_iload_n hx hb dX1_pushDeck_44 rfl (lv_at hl 4 rfl) ?_
        obtain ⟨g10, hf⟩ := gd_e hf
        refine va_iald hx hb hK hP 7 0 rfl rfl (gin_in g10) dX1_pushDeck_45 ?_
        refine lv_topi (fun v11 ev11 => ?_)
        have hf := bnd_all hf v11 ev11
        refine lv_bipush (v := 40) hx hb dX1_pushDeck_46 (by decide) ?_
        refine lv_icmp_lt (tgt := 57) hx hb dX1_pushDeck_48 (by decide) (fun c12 => ?_) (fun c12 => ?_)
        · have hf := ite_t hf c12
          refine lv_aload_n hx hb dX1_pushDeck_57 rfl (lv_at hl 2 rfl) ?_
          refine lv_aload_n hx hb dX1_pushDeck_58 rfl (lv_at hl 2 rfl) ?_
          refine va_get (D := (dC, dI)) (ci := 1) (v := .float (fSe F)) (C := RX1) (T := TX1) (N := 13) hx hb hts iX1 hown hK hP 0 rfl rfl 5 (by decide) (hts _ q35) (fun _ h9 => h9) rfl dX1_pushDeck_59 ?_
          refine lv_fload hx hb dX1_pushDeck_62 (lv_at hl 0 rfl) ?_
          obtain ⟨g13, hf⟩ := gd_e hf
          refine lv_fadd hx hb dX1_pushDeck_64 (nn32_e g13) ?_
          refine lv_topf (fun v14 ev14 => ?_)
          have hf := bnd_all hf v14 ev14
          refine va_put (D := (dC, dI)) (ci := 1) (v := .float v14) (ty := .float) (C := RX1) (T := TX1) (N := 13) hx hb hts iX1 tyX1 tyX1_ok nmX1 hown hK hP hD hS 0 rfl rfl 5 (by decide) (hts _ q35) (fun _ h9 => h9) rfl (by decide +kernel) rfl rfl (Nat.le_of_ble_eq_true rfl) dX1_pushDeck_65 (fun H locs hP hD hS => ?_)
          have hP : va_P (dC, dI) vwCl (wFR cI cF cJ q0 q1 q2 q3 q4 q5 q6 q7 q8 (sfSe F v14)) H := hP
          have hD : va_D A (wFR cI cF cJ q0 q1 q2 q3 q4 q5 q6 q7 q8 (sfSe F v14)) := hD
          refine lv_aload_n hx hb dX1_pushDeck_68 rfl (lv_at hl 3 rfl) ?_
          refine va_get (D := (dC, dI)) (ci := 0) (v := .ref q6) (C := RX0) (T := TX0) (N := 4) hx hb hts iX0 hown hK hP 5 rfl rfl 1 (by decide) (hts _ q65) (fun _ h9 => h9) rfl dX1_pushDeck_69 ?_
          refine lv_iload_n hx hb dX1_pushDeck_72 rfl (lv_at hl 4 rfl) ?_
          refine lv_dup2_11 hx hb dX1_pushDeck_73 rfl rfl ?_
          obtain ⟨g15, hf⟩ := gd_e hf
          refine va_iald hx hb hK hP 6 0 rfl rfl (gin_in g15) dX1_pushDeck_74 ?_
          refine lv_topi (fun v16 ev16 => ?_)
          have hf := bnd_all hf v16 ev16
          refine lv_iload_n hx hb dX1_pushDeck_75 rfl (lv_at hl 5 rfl) ?_
          refine lv_iadd hx hb dX1_pushDeck_76 ?_
          refine lv_topi (fun v17 ev17 => ?_)
          have hf := bnd_all hf v17 ev17
          obtain ⟨g18, hf⟩ := gd_e hf
          refine va_iast hx hb hK hP hD hS 6 0 rfl rfl (gin_in g18) dX1_pushDeck_77 (fun H locs hP hD hS => ?_)
          have hP : va_P (dC, dI) vwCl (wFR cI cF cJ q0 q1 q2 q3 q4 q5 q6 q7 q8 (sfSe (sfBe F (sdCn (fBe F) (upd (dCn (fBe F)) (Int32.toNatClampNeg p0) v17))) v14)) H := hP
          have hD : va_D A (wFR cI cF cJ q0 q1 q2 q3 q4 q5 q6 q7 q8 (sfSe (sfBe F (sdCn (fBe F) (upd (dCn (fBe F)) (Int32.toNatClampNeg p0) v17))) v14)) := hD
          refine lv_aload_n hx hb dX1_pushDeck_78 rfl (lv_at hl 3 rfl) ?_
          refine va_get (D := (dC, dI)) (ci := 0) (v := .ref q7) (C := RX0) (T := TX0) (N := 4) hx hb hts iX0 hown hK hP 5 rfl rfl 2 (by decide) (hts _ q66) (fun _ h9 => h9) rfl dX1_pushDeck_79 ?_
          refine lv_iload_n hx hb dX1_pushDeck_82 rfl (lv_at hl 4 rfl) ?_
          refine lv_dup2_11 hx hb dX1_pushDeck_83 rfl rfl ?_
          obtain ⟨g19, hf⟩ := gd_e hf
          refine va_iald hx hb hK hP 7 0 rfl rfl (gin_in g19) dX1_pushDeck_84 ?_
          refine lv_topi (fun v20 ev20 => ?_)
          have hf := bnd_all hf v20 ev20
          refine lv_iload hx hb dX1_pushDeck_85 (lv_at hl 1 rfl) ?_
          refine lv_iadd hx hb dX1_pushDeck_87 ?_
          refine lv_topi (fun v21 ev21 => ?_)
          have hf := bnd_all hf v21 ev21
          obtain ⟨g22, hf⟩ := gd_e hf
          refine va_iast hx hb hK hP hD hS 7 0 rfl rfl (gin_in g22) dX1_pushDeck_88 (fun H locs hP hD hS => ?_)
          have hP : va_P (dC, dI) vwCl (wFR cI cF cJ q0 q1 q2 q3 q4 q5 q6 q7 q8 (sfSe (sfBe F (sdWe (sdCn (fBe F) (upd (dCn (fBe F)) (Int32.toNatClampNeg p0) v17)) (upd (dWe (fBe F)) (Int32.toNatClampNeg p0) v21))) v14)) H := hP
          have hD : va_D A (wFR cI cF cJ q0 q1 q2 q3 q4 q5 q6 q7 q8 (sfSe (sfBe F (sdWe (sdCn (fBe F) (upd (dCn (fBe F)) (Int32.toNatClampNeg p0) v17)) (upd (dWe (fBe F)) (Int32.toNatClampNeg p0) v21))) v14)) := hD
          refine lv_aload_n hx hb dX1_pushDeck_89 rfl (lv_at hl 2 rfl) ?_
          refine lv_dup hx hb dX1_pushDeck_90 rfl ?_
          refine va_get (D := (dC, dI)) (ci := 1) (v := .int (fPu F)) (C := RX1) (T := TX1) (N := 13) hx hb hts iX1 hown hK hP 0 rfl rfl 6 (by decide) (hts _ q36) (fun _ h9 => h9) rfl dX1_pushDeck_91 ?_
          refine lv_iconst (v := 1) hx hb dX1_pushDeck_94 (by decide) ?_
          refine lv_iadd hx hb dX1_pushDeck_95 ?_
          refine lv_topi (fun v23 ev23 => ?_)
          have hf := bnd_all hf v23 ev23
          refine va_put (D := (dC, dI)) (ci := 1) (v := .int v23) (ty := .int) (C := RX1) (T := TX1) (N := 13) hx hb hts iX1 tyX1 tyX1_ok nmX1 hown hK hP hD hS 0 rfl rfl 6 (by decide) (hts _ q36) (fun _ h9 => h9) rfl (by decide +kernel) rfl rfl (Nat.le_of_ble_eq_true rfl) dX1_pushDeck_96 (fun H locs hP hD hS => ?_)
          have hP : va_P (dC, dI) vwCl (wFR cI cF cJ q0 q1 q2 q3 q4 q5 q6 q7 q8 (sfPu (sfSe (sfBe F (sdWe (sdCn (fBe F) (upd (dCn (fBe F)) (Int32.toNatClampNeg p0) v17)) (upd (dWe (fBe F)) (Int32.toNatClampNeg p0) v21))) v14) v23)) H := hP
          have hD : va_D A (wFR cI cF cJ q0 q1 q2 q3 q4 q5 q6 q7 q8 (sfPu (sfSe (sfBe F (sdWe (sdCn (fBe F) (upd (dCn (fBe F)) (Int32.toNatClampNeg p0) v17)) (upd (dWe (fBe F)) (Int32.toNatClampNeg p0) v21))) v14) v23)) := hD
          refine lv_aload_n hx hb dX1_pushDeck_99 rfl (lv_at hl 2 rfl) ?_
          refine lv_dup hx hb dX1_pushDeck_100 rfl ?_
          refine va_get (D := (dC, dI)) (ci := 1) (v := .int (fBd F)) (C := RX1) (T := TX1) (N := 13) hx hb hts iX1 hown hK hP 0 rfl rfl 7 (by decide) (hts _ q37) (fun _ h9 => h9) rfl dX1_pushDeck_101 ?_
          refine lv_iload hx hb dX1_pushDeck_104 (lv_at hl 1 rfl) ?_
          refine lv_iadd hx hb dX1_pushDeck_106 ?_
          refine lv_topi (fun v24 ev24 => ?_)
          have hf := bnd_all hf v24 ev24
          refine va_put (D := (dC, dI)) (ci := 1) (v := .int v24) (ty := .int) (C := RX1) (T := TX1) (N := 13) hx hb hts iX1 tyX1 tyX1_ok nmX1 hown hK hP hD hS 0 rfl rfl 7 (by decide) (hts _ q37) (fun _ h9 => h9) rfl (by decide +kernel) rfl rfl (Nat.le_of_ble_eq_true rfl) dX1_pushDeck_107 (fun H locs hP hD hS => ?_)
          have hP : va_P (dC, dI) vwCl (wFR cI cF cJ q0 q1 q2 q3 q4 q5 q6 q7 q8 (sfBd (sfPu (sfSe (sfBe F (sdWe (sdCn (fBe F) (upd (dCn (fBe F)) (Int32.toNatClampNeg p0) v17)) (upd (dWe (fBe F)) (Int32.toNatClampNeg p0) v21))) v14) v23) v24)) H := hP
          have hD : va_D A (wFR cI cF cJ q0 q1 q2 q3 q4 q5 q6 q7 q8 (sfBd (sfPu (sfSe (sfBe F (sdWe (sdCn (fBe F) (upd (dCn (fBe F)) (Int32.toNatClampNeg p0) v17)) (upd (dWe (fBe F)) (Int32.toNatClampNeg p0) v21))) v14) v23) v24)) := hD
          obtain rfl := Option.some.inj hf
          exact W.vret hx hb hr (fun t ht hW => ⟨⟨(), rfl, trivial, by rw [ht]; exact hP, hD⟩, hS.F ht⟩) hS.2.2 dX1_pushDeck_110
        · have hf := ite_f hf c12
          refine lv_fload hx hb dX1_pushDeck_51 (lv_at hl 0 rfl) ?_
          refine lv_fconst2 hx hb dX1_pushDeck_53 ?_
          obtain ⟨g25, hf⟩ := gd_e hf
          refine lv_fmul hx hb dX1_pushDeck_54 (nn32_e g25) ?_
          refine lv_topf (fun v26 ev26 => ?_)
          have hf := bnd_all hf v26 ev26
          refine lv_fstore (lv' := [(5, .float v26), (4, .int v4), (0, .ref q0), (1, .ref q5), (2, .int p0), (3, .int p1)]) hx hb dX1_pushDeck_55 hl (by decide) rfl (fun ls hl => ?_)
          refine lv_aload_n hx hb dX1_pushDeck_57 rfl (lv_at hl 2 rfl) ?_
          refine lv_aload_n hx hb dX1_pushDeck_58 rfl (lv_at hl 2 rfl) ?_
          refine va_get (D := (dC, dI)) (ci := 1) (v := .float (fSe F)) (C := RX1) (T := TX1) (N := 13) hx hb hts iX1 hown hK hP 0 rfl rfl 5 (by decide) (hts _ q35) (fun _ h9 => h9) rfl dX1_pushDeck_59 ?_
          refine lv_fload hx hb dX1_pushDeck_62 (lv_at hl 0 rfl) ?_
          obtain ⟨g27, hf⟩ := gd_e hf
          refine lv_fadd hx hb dX1_pushDeck_64 (nn32_e g27) ?_
          refine lv_topf (fun v28 ev28 => ?_)
          have hf := bnd_all hf v28 ev28
          refine va_put (D := (dC, dI)) (ci := 1) (v := .float v28) (ty := .float) (C := RX1) (T := TX1) (N := 13) hx hb hts iX1 tyX1 tyX1_ok nmX1 hown hK hP hD hS 0 rfl rfl 5 (by decide) (hts _ q35) (fun _ h9 => h9) rfl (by decide +kernel) rfl rfl (Nat.le_of_ble_eq_true rfl) dX1_pushDeck_65 (fun H locs hP hD hS => ?_)
          have hP : va_P (dC, dI) vwCl (wFR cI cF cJ q0 q1 q2 q3 q4 q5 q6 q7 q8 (sfSe F v28)) H := hP
          have hD : va_D A (wFR cI cF cJ q0 q1 q2 q3 q4 q5 q6 q7 q8 (sfSe F v28)) := hD
          refine lv_aload_n hx hb dX1_pushDeck_68 rfl (lv_at hl 3 rfl) ?_
          refine va_get (D := (dC, dI)) (ci := 0) (v := .ref q6) (C := RX0) (T := TX0) (N := 4) hx hb hts iX0 hown hK hP 5 rfl rfl 1 (by decide) (hts _ q65) (fun _ h9 => h9) rfl dX1_pushDeck_69 ?_
          refine lv_iload_n hx hb dX1_pushDeck_72 rfl (lv_at hl 4 rfl) ?_
          refine lv_dup2_11 hx hb dX1_pushDeck_73 rfl rfl ?_
          obtain ⟨g29, hf⟩ := gd_e hf
          refine va_iald hx hb hK hP 6 0 rfl rfl (gin_in g29) dX1_pushDeck_74 ?_
          refine lv_topi (fun v30 ev30 => ?_)
          have hf := bnd_all hf v30 ev30
          refine lv_iload_n hx hb dX1_pushDeck_75 rfl (lv_at hl 5 rfl) ?_
          refine lv_iadd hx hb dX1_pushDeck_76 ?_
          refine lv_topi (fun v31 ev31 => ?_)
          have hf := bnd_all hf v31 ev31
          obtain ⟨g32, hf⟩ := gd_e hf
          refine va_iast hx hb hK hP hD hS 6 0 rfl rfl (gin_in g32) dX1_pushDeck_77 (fun H locs hP hD hS => ?_)
          have hP : va_P (dC, dI) vwCl (wFR cI cF cJ q0 q1 q2 q3 q4 q5 q6 q7 q8 (sfSe (sfBe F (sdCn (fBe F) (upd (dCn (fBe F)) (Int32.toNatClampNeg p0) v31))) v28)) H := hP
          have hD : va_D A (wFR cI cF cJ q0 q1 q2 q3 q4 q5 q6 q7 q8 (sfSe (sfBe F (sdCn (fBe F) (upd (dCn (fBe F)) (Int32.toNatClampNeg p0) v31))) v28)) := hD
          refine lv_aload_n hx hb dX1_pushDeck_78 rfl (lv_at hl 3 rfl) ?_
          refine va_get (D := (dC, dI)) (ci := 0) (v := .ref q7) (C := RX0) (T := TX0) (N := 4) hx hb hts iX0 hown hK hP 5 rfl rfl 2 (by decide) (hts _ q66) (fun _ h9 => h9) rfl dX1_pushDeck_79 ?_
          refine lv_iload_n hx hb dX1_pushDeck_82 rfl (lv_at hl 4 rfl) ?_
          refine lv_dup2_11 hx hb dX1_pushDeck_83 rfl rfl ?_
          obtain ⟨g33, hf⟩ := gd_e hf
          refine va_iald hx hb hK hP 7 0 rfl rfl (gin_in g33) dX1_pushDeck_84 ?_
          refine lv_topi (fun v34 ev34 => ?_)
          have hf := bnd_all hf v34 ev34
          refine lv_iload hx hb dX1_pushDeck_85 (lv_at hl 1 rfl) ?_
          refine lv_iadd hx hb dX1_pushDeck_87 ?_
          refine lv_topi (fun v35 ev35 => ?_)
          have hf := bnd_all hf v35 ev35
          obtain ⟨g36, hf⟩ := gd_e hf
          refine va_iast hx hb hK hP hD hS 7 0 rfl rfl (gin_in g36) dX1_pushDeck_88 (fun H locs hP hD hS => ?_)
          have hP : va_P (dC, dI) vwCl (wFR cI cF cJ q0 q1 q2 q3 q4 q5 q6 q7 q8 (sfSe (sfBe F (sdWe (sdCn (fBe F) (upd (dCn (fBe F)) (Int32.toNatClampNeg p0) v31)) (upd (dWe (fBe F)) (Int32.toNatClampNeg p0) v35))) v28)) H := hP
          have hD : va_D A (wFR cI cF cJ q0 q1 q2 q3 q4 q5 q6 q7 q8 (sfSe (sfBe F (sdWe (sdCn (fBe F) (upd (dCn (fBe F)) (Int32.toNatClampNeg p0) v31)) (upd (dWe (fBe F)) (Int32.toNatClampNeg p0) v35))) v28)) := hD
          refine lv_aload_n hx hb dX1_pushDeck_89 rfl (lv_at hl 2 rfl) ?_
          refine lv_dup hx hb dX1_pushDeck_90 rfl ?_
          refine va_get (D := (dC, dI)) (ci := 1) (v := .int (fPu F)) (C := RX1) (T := TX1) (N := 13) hx hb hts iX1 hown hK hP 0 rfl rfl 6 (by decide) (hts _ q36) (fun _ h9 => h9) rfl dX1_pushDeck_91 ?_
          refine lv_iconst (v := 1) hx hb dX1_pushDeck_94 (by decide) ?_
          refine lv_iadd hx hb dX1_pushDeck_95 ?_
          refine lv_topi (fun v37 ev37 => ?_)
          have hf := bnd_all hf v37 ev37
          refine va_put (D := (dC, dI)) (ci := 1) (v := .int v37) (ty := .int) (C := RX1) (T := TX1) (N := 13) hx hb hts iX1 tyX1 tyX1_ok nmX1 hown hK hP hD hS 0 rfl rfl 6 (by decide) (hts _ q36) (fun _ h9 => h9) rfl (by decide +kernel) rfl rfl (Nat.le_of_ble_eq_true rfl) dX1_pushDeck_96 (fun H locs hP hD hS => ?_)
          have hP : va_P (dC, dI) vwCl (wFR cI cF cJ q0 q1 q2 q3 q4 q5 q6 q7 q8 (sfPu (sfSe (sfBe F (sdWe (sdCn (fBe F) (upd (dCn (fBe F)) (Int32.toNatClampNeg p0) v31)) (upd (dWe (fBe F)) (Int32.toNatClampNeg p0) v35))) v28) v37)) H := hP
          have hD : va_D A (wFR cI cF cJ q0 q1 q2 q3 q4 q5 q6 q7 q8 (sfPu (sfSe (sfBe F (sdWe (sdCn (fBe F) (upd (dCn (fBe F)) (Int32.toNatClampNeg p0) v31)) (upd (dWe (fBe F)) (Int32.toNatClampNeg p0) v35))) v28) v37)) := hD
          refine lv_aload_n hx hb dX1_pushDeck_99 rfl (lv_at hl 2 rfl) ?_
          refine lv_dup hx hb dX1_pushDeck_100 rfl ?_
          refine va_get (D := (dC, dI)) (ci := 1) (v := .int (fBd F)) (C := RX1) (T := TX1) (N := 13) hx hb hts iX1 hown hK hP 0 rfl rfl 7 (by decide) (hts _ q37) (fun _ h9 => h9) rfl dX1_pushDeck_101 ?_
          refine lv_iload hx hb dX1_pushDeck_104 (lv_at hl 1 rfl) ?_
          refine lv_iadd hx hb dX1_pushDeck_106 ?_
          refine lv_topi (fun v38 ev38 => ?_)
          have hf := bnd_all hf v38 ev38
          refine va_put (D := (dC, dI)) (ci := 1) (v := .int v38) (ty := .int) (C := RX1) (T := TX1) (N := 13) hx hb hts iX1 tyX1 tyX1_ok nmX1 hown hK hP hD hS 0 rfl rfl 7 (by decide) (hts _ q37) (fun _ h9 => h9) rfl (by decide +kernel) rfl rfl (Nat.le_of_ble_eq_true rfl) dX1_pushDeck_107 (fun H locs hP hD hS => ?_)
          have hP : va_P (dC, dI) vwCl (wFR cI cF cJ q0 q1 q2 q3 q4 q5 q6 q7 q8 (sfBd (sfPu (sfSe (sfBe F (sdWe (sdCn (fBe F) (upd (dCn (fBe F)) (Int32.toNatClampNeg p0) v31)) (upd (dWe (fBe F)) (Int32.toNatClampNeg p0) v35))) v28) v37) v38)) H := hP
          have hD : va_D A (wFR cI cF cJ q0 q1 q2 q3 q4 q5 q6 q7 q8 (sfBd (sfPu (sfSe (sfBe F (sdWe (sdCn (fBe F) (upd (dCn (fBe F)) (Int32.toNatClampNeg p0) v31)) (upd (dWe (fBe F)) (Int32.toNatClampNeg p0) v35))) v28) v37) v38)) := hD
          obtain rfl := Option.some.inj hf
          exact W.vret hx hb hr (fun t ht hW => ⟨⟨(), rfl, trivial, by rw [ht]; exact hP, hD⟩, hS.F ht⟩) hS.2.2 dX1_pushDeck_110
      · have hf := ite_f hf c3
        obtain rfl := Option.some.inj hf
        exact W.vret hx hb hr (fun t ht hW => ⟨⟨(), rfl, trivial, by rw [ht]; exact hP, hD⟩, hS.F ht⟩) hS.2.2 dX1_pushDeck_22
