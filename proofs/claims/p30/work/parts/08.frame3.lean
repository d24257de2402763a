-- laid by wip/p30/specs.py
noncomputable def l_X1_takeDigit_25 (c1 : Int32) (c2 : Int32) (c3 : Int32) (k : Int32 → FR → Option (FR)) : Nat → Int32 → FR → Option (FR)
  | 0, _, _ => none
  | n + 1, a4, F5 => if (fRd F5) ≤ a4 then (k a4 F5) else (obd (f_X1_valueAt F5 a4) fun x7 => if x7 = 0 then (bnd (a4 + 1) fun (v9 : Int32) => l_X1_takeDigit_25 c1 c2 c3 k n v9 F5) else (k a4 F5))
noncomputable def l_X1_takeDigit_69 (c1 : Int32) (c2 : Int32) (c3 : Int32) (k : Int32 → FR → Option (FR)) : Nat → Int32 → FR → Option (FR)
  | 0, _, _ => none
  | n + 1, a24, F25 => if a24 ≤ c1 then (k a24 F25) else (obd (f_X1_setRod F25 a24 9) fun x27 => bnd (a24 + (-1)) fun (v28 : Int32) => l_X1_takeDigit_69 c1 c2 c3 k n v28 x27)
noncomputable def f_X1_takeDigit (F : FR) (p0 : Int32) (p1 : Int32) : Option (FR) := obd (f_X1_valueAt F p0) fun x1 => if x1 < p1 then (bnd (p0 + 1) fun (v3 : Int32) => l_X1_takeDigit_25 p0 p1 x1 (fun (a18 : Int32) (F19 : FR) => obd (f_X1_valueAt F19 a18) fun x20 => bnd (x20 - 1) fun (v21 : Int32) => obd (f_X1_setRod F19 a18 v21) fun x22 => bnd (a18 - 1) fun (v23 : Int32) => l_X1_takeDigit_69 p0 p1 x1 (fun (a36 : Int32) (F37 : FR) => bnd (x1 + 10) fun (v38 : Int32) => bnd (v38 - p1) fun (v39 : Int32) => obd (f_X1_setRod F37 p0 v39) fun x40 => bnd ((fLo x40) + 1) fun (v41 : Int32) => some (sfLo x40 v41)) 16 v23 x22) 16 v3 F) else (bnd (x1 - p1) fun (v42 : Int32) => obd (f_X1_setRod F p0 v42) fun x43 => some x43)
theorem pc_X1_takeDigit : yX1_takeDigit.cls = RX1 ∧ yX1_takeDigit.cls ≠ "java/lang/invoke/MethodHandle" ∧ yX1_takeDigit.cls ≠ "java/lang/invoke/VarHandle" ∧ (parseMethodDescriptor yX1_takeDigit.desc).map (fun d => d.parameters.length) = some 2 := by decide +kernel
abbrev rm_X1_takeDigit : Room := { frames := 3, cells := 0, slots := 0, locals := 80 }
set_option maxHeartbeats 4000000 in
set_option maxRecDepth 100000 in
theorem c_X1_takeDigit (l : Launch) (dC : Nat → ClassId) (dI : Nat → Nat → Nat) (cI cF cJ cD : ClassId) (q0 q1 q2 q3 q4 q5 q6 q7 q8 : Nat) (F : FR) (p0 : Int32) (p1 : Int32) (res : (FR)) (hf : f_X1_takeDigit F p0 p1 = some res) (sz : Nat) : Met l yX1_takeDigit (ws_ yX1_takeDigit cX1_takeDigit 6 none) rm_X1_takeDigit (sbPre (dC, dI) (TY cI cF cJ cD) (wFR cI cF cJ q0 q1 q2 q3 q4 q5 q6 q7 q8 F) E0 sz [.ref q0, .int p0, .int p1]) (va_Qv (fun (_ : Unit) => True) (sbEnd (dC, dI) (fun _ => wFR cI cF cJ q0 q1 q2 q3 q4 q5 q6 q7 q8 res) (va_A (wFR cI cF cJ q0 q1 q2 q3 q4 q5 q6 q7 q8 F) sz)) (va_A (wFR cI cF cJ q0 q1 q2 q3 q4 q5 q6 q7 q8 F) sz)) 0 0 (va_A (wFR cI cF cJ q0 q1 q2 q3 q4 q5 q6 q7 q8 F) sz) := by
  refine Met.ofW (cc := cX1_takeDigit) (maxL := 6) (ret := none) (by decide) rfl ?_
  intro p e s m args below meth c s₁ B hml hv
  obtain ⟨rfl, hsz, hP, hK, hD0, hE⟩ := hv
  have hx := B.exec
  have hb := B.bytes
  have hr := B.returns
  have hts0 := atoms_spec (ws := ws_ yX1_takeDigit cX1_takeDigit 6 none) B.pre
  have hts := fun (w : Cond) (h : w ∈ LW) => hts0 w (List.mem_cons_of_mem _ h)
  have hown : s.vm.findClass RX1 = some m.cls := findClass_of_methodNamed B.named
  have hlocks := B.notSynchronized
  subst hsz
  have hD := hD0.self (sz := s.heap.size)
  generalize hAe : va_A (wFR cI cF cJ q0 q1 q2 q3 q4 q5 q6 q7 q8 F) s.heap.size = A at hD ⊢
  have hA : ∀ q : Nat, s.heap.size ≤ q → A q := fun q h => by rw [← hAe]; exact Or.inr h
  have hS : va_S A s.heap s.heap [] := va_S.rf
  have hkc := Nat.zero_le rm_X1_takeDigit.cells
  have hks := Nat.zero_le rm_X1_takeDigit.slots
  have hl := lv_entry ([.ref q0, .int p0, .int p1]) (n := 6) (Nat.le_of_ble_eq_true rfl)
  rw [lg_entry_eq]
  generalize (lg_sl ([.ref q0, .int p0, .int p1]) ++ List.replicate (6 - (lg_sl ([.ref q0, .int p0, .int p1])).length) Slot.unset).toArray = ls at hl ⊢
  have hl : lv_has ls 6 [(0, .ref q0), (1, .int p0), (2, .int p1)] := hl
  rw [f_X1_takeDigit] at hf
  refine lv_aload_n hx hb dX1_takeDigit_0 rfl (lv_at hl 0 rfl) ?_
  refine lv_iload_n hx hb dX1_takeDigit_1 rfl (lv_at hl 1 rfl) ?_
  obtain ⟨x1, hx1, hf⟩ := obd_e hf
  refine sb_Vi (As := [.int p0]) (rest := []) ⟨hx, hb, hml, hown, hts⟩ (fun sz => c_X1_valueAt l dC dI cI cF cJ cD q0 q1 q2 q3 q4 q5 q6 q7 q8 F p0  x1 hx1 sz) (cwV 1 hts (g_V q53 q54 q55 q56 q48) rfl rfl rfl pc_X1_valueAt ⟨Nat.le_of_ble_eq_true rfl, Nat.le_of_ble_eq_true rfl⟩) 0 1 rfl rfl hK hP hD hS hA [0, 1, 2, 3, 4, 5, 6, 7, 8] [] rfl rfl (by decide) (by decide) (by decide) (fun _ _ _ _ h => h) (fun _ _ _ => trivial) rfl rfl hl.1 (Nat.le_of_ble_eq_true rfl) dX1_takeDigit_2 ⟨hkc, hks⟩ (fun r9 u H locs hr9 hP hD hS => ?_)
  have hr9 := Eq.symm hr9
  subst hr9
  have hP : va_P (dC, dI) vwCl (wFR cI cF cJ q0 q1 q2 q3 q4 q5 q6 q7 q8 F) H := hP
  have hD : va_D A (wFR cI cF cJ q0 q1 q2 q3 q4 q5 q6 q7 q8 F) := hD
  refine lv_istore_n (lv' := [(3, .int x1), (0, .ref q0), (1, .int p0), (2, .int p1)]) hx hb dX1_takeDigit_5 rfl hl (by decide) rfl (fun ls hl => ?_)
  refine lv_iload_n hx hb dX1_takeDigit_6 rfl (lv_at hl 3 rfl) ?_
  refine lv_iload_n hx hb dX1_takeDigit_7 rfl (lv_at hl 0 rfl) ?_
  refine lv_icmp_gt (tgt := 20) hx hb dX1_takeDigit_8 (by decide) (fun c2 => ?_) (fun c2 => ?_)
  · have hf := ite_t hf c2
    refine lv_iload_n hx hb dX1_takeDigit_20 rfl (lv_at hl 2 rfl) ?_
    refine lv_iconst (v := 1) hx hb dX1_takeDigit_21 (by decide) ?_
    refine lv_iadd hx hb dX1_takeDigit_22 ?_
    refine lv_topi (fun v3 ev3 => ?_)
    have hf := bnd_all hf v3 ev3
    refine lv_istore (lv' := [(4, .int v3), (3, .int x1), (0, .ref q0), (1, .int p0), (2, .int p1)]) hx hb dX1_takeDigit_23 hl (by decide) rfl (fun ls hl => ?_)
    have L25 : ∀ (k : Int32 → FR → Option (FR)), (∀ (a10 : Int32) (F11 : FR) (H : Heap) (locs : List Loc) (ls : Array Slot), va_P (dC, dI) vwCl (wFR cI cF cJ q0 q1 q2 q3 q4 q5 q6 q7 q8 F11) H → va_D A (wFR cI cF cJ q0 q1 q2 q3 q4 q5 q6 q7 q8 F11) → va_S A s.heap H locs → lv_has ls 6 [(4, .int a10), (0, .ref q0), (1, .int p0), (2, .int p1), (3, .int x1)] → k a10 F11 = some res → W p l e (headSpec (ws_ yX1_takeDigit cX1_takeDigit 6 none) rm_X1_takeDigit).room s m ([.ref q0, .int p0, .int p1].toArray) below meth c H locs 0 0 (MQ below (va_Qv (fun (_ : Unit) => True) (sbEnd (dC, dI) (fun _ => wFR cI cF cJ q0 q1 q2 q3 q4 q5 q6 q7 q8 res) (A)) (A)) ([.ref q0, .int p0, .int p1].toArray) s 0 0 A) (F0 m 49 ls [])) → ∀ (n : Nat) (a10 : Int32) (F11 : FR) (H : Heap) (locs : List Loc) (ls : Array Slot), va_P (dC, dI) vwCl (wFR cI cF cJ q0 q1 q2 q3 q4 q5 q6 q7 q8 F11) H → va_D A (wFR cI cF cJ q0 q1 q2 q3 q4 q5 q6 q7 q8 F11) → va_S A s.heap H locs → lv_has ls 6 [(4, .int a10), (0, .ref q0), (1, .int p0), (2, .int p1), (3, .int x1)] → l_X1_takeDigit_25 p0 p1 x1 k n a10 F11 = some res → W p l e (headSpec (ws_ yX1_takeDigit cX1_takeDigit 6 none) rm_X1_takeDigit).room s m ([.ref q0, .int p0, .int p1].toArray) below meth c H locs 0 0 (MQ below (va_Qv (fun (_ : Unit) => True) (sbEnd (dC, dI) (fun _ => wFR cI cF cJ q0 q1 q2 q3 q4 q5 q6 q7 q8 res) (A)) (A)) ([.ref q0, .int p0, .int p1].toArray) s 0 0 A) (F0 m 25 ls []) := by
      intro k hk n
      induction n with
      | zero =>
        intro a12 F13 H locs ls hP hD hS hl hf
        rw [l_X1_takeDigit_25] at hf
        cases hf
      | succ n ih =>
        intro a12 F13 H locs ls hP hD hS hl hf
        rw [l_X1_takeDigit_25] at hf
        refine lv_iload hx hb dX1_takeDigit_25 (lv_at hl 0 rfl) ?_
        refine lv_aload_n hx hb dX1_takeDigit_27 rfl (lv_at hl 1 rfl) ?_
        refine va_get (D := (dC, dI)) (ci := 1) (v := .int (fRd F13)) (C := RX1) (T := TX1) (N := 13) hx hb hts iX1 hown hK hP 0 rfl rfl 1 (by decide) (hts _ q27) (fun _ h9 => h9) rfl dX1_takeDigit_28 ?_
        refine lv_icmp_ge (tgt := 49) hx hb dX1_takeDigit_31 (by decide) (fun c14 => ?_) (fun c14 => ?_)
        · have hf := ite_t hf c14
          exact hk a12 F13 _ _ _ hP hD hS (lv_sub hl [0, 1, 2, 3, 4] rfl) hf
        · have hf := ite_f hf c14
          refine lv_aload_n hx hb dX1_takeDigit_34 rfl (lv_at hl 1 rfl) ?_
          refine lv_iload hx hb dX1_takeDigit_35 (lv_at hl 0 rfl) ?_
          obtain ⟨x15, hx15, hf⟩ := obd_e hf
          refine sb_Vi (As := [.int a12]) (rest := []) ⟨hx, hb, hml, hown, hts⟩ (fun sz => c_X1_valueAt l dC dI cI cF cJ cD q0 q1 q2 q3 q4 q5 q6 q7 q8 F13 a12  x15 hx15 sz) (cwV 1 hts (g_V q53 q54 q55 q56 q48) rfl rfl rfl pc_X1_valueAt ⟨Nat.le_of_ble_eq_true rfl, Nat.le_of_ble_eq_true rfl⟩) 0 1 rfl rfl hK hP hD hS hA [0, 1, 2, 3, 4, 5, 6, 7, 8] [] rfl rfl (by decide) (by decide) (by decide) (fun _ _ _ _ h => h) (fun _ _ _ => trivial) rfl rfl hl.1 (Nat.le_of_ble_eq_true rfl) dX1_takeDigit_37 ⟨hkc, hks⟩ (fun r9 u H locs hr9 hP hD hS => ?_)
          have hr9 := Eq.symm hr9
          subst hr9
          have hP : va_P (dC, dI) vwCl (wFR cI cF cJ q0 q1 q2 q3 q4 q5 q6 q7 q8 F13) H := hP
          have hD : va_D A (wFR cI cF cJ q0 q1 q2 q3 q4 q5 q6 q7 q8 F13) := hD
          refine lv_if_ne (tgt := 49) hx hb dX1_takeDigit_40 (by decide) (fun c16 => ?_) (fun c16 => ?_)
          · have hf := ite_f hf c16
            exact hk a12 F13 _ _ _ hP hD hS (lv_sub hl [0, 1, 2, 3, 4] rfl) hf
          · have hf := ite_t hf c16
            obtain ⟨v17, ev17⟩ : ∃ y : Int32, y = a12 + 1 := ⟨_, rfl⟩
            have hf := bnd_all hf v17 ev17
            refine lv_iinc (v := v17) (lv' := [(4, .int v17), (0, .ref q0), (1, .int p0), (2, .int p1), (3, .int x1)]) hx hb dX1_takeDigit_43 hl (k := 0) rfl (by rw [ev17]; rfl) (by decide) rfl (fun ls hl => ?_)
            refine lv_goto (tgt := 25) hx hb dX1_takeDigit_46 (by decide) ?_
            exact ih v17 F13 _ _ _ hP hD hS (lv_sub hl [0, 1, 2, 3, 4] rfl) hf
    refine L25 _ (fun a18 F19 H locs ls hP hD hS hl hf => ?_) 16 v3 F _ _ _ hP hD hS (lv_sub hl [0, 2, 3, 4, 1] rfl) hf
    refine lv_aload_n hx hb dX1_takeDigit_49 rfl (lv_at hl 1 rfl) ?_
    refine lv_iload hx hb dX1_takeDigit_50 (lv_at hl 0 rfl) ?_
    refine lv_aload_n hx hb dX1_takeDigit_52 rfl (lv_at hl 1 rfl) ?_
    refine lv_iload hx hb dX1_takeDigit_53 (lv_at hl 0 rfl) ?_
    obtain ⟨x20, hx20, hf⟩ := obd_e hf
    refine sb_Vi (As := [.int a18]) (rest := [.int a18, .ref q0]) ⟨hx, hb, hml, hown, hts⟩ (fun sz => c_X1_valueAt l dC dI cI cF cJ cD q0 q1 q2 q3 q4 q5 q6 q7 q8 F19 a18  x20 hx20 sz) (cwV 1 hts (g_V q53 q54 q55 q56 q48) rfl rfl rfl pc_X1_valueAt ⟨Nat.le_of_ble_eq_true rfl, Nat.le_of_ble_eq_true rfl⟩) 0 1 rfl rfl hK hP hD hS hA [0, 1, 2, 3, 4, 5, 6, 7, 8] [] rfl rfl (by decide) (by decide) (by decide) (fun _ _ _ _ h => h) (fun _ _ _ => trivial) rfl rfl hl.1 (Nat.le_of_ble_eq_true rfl) dX1_takeDigit_55 ⟨hkc, hks⟩ (fun r9 u H locs hr9 hP hD hS => ?_)
    have hr9 := Eq.symm hr9
    subst hr9
    have hP : va_P (dC, dI) vwCl (wFR cI cF cJ q0 q1 q2 q3 q4 q5 q6 q7 q8 F19) H := hP
    have hD : va_D A (wFR cI cF cJ q0 q1 q2 q3 q4 q5 q6 q7 q8 F19) := hD
    refine lv_iconst (v := 1) hx hb dX1_takeDigit_58 (by decide) ?_
    refine lv_isub hx hb dX1_takeDigit_59 ?_
    refine lv_topi (fun v21 ev21 => ?_)
    have hf := bnd_all hf v21 ev21
    obtain ⟨x22, hx22, hf⟩ := obd_e hf
    refine sb_Vv (As := [.int a18, .int v21]) (rest := []) ⟨hx, hb, hml, hown, hts⟩ (fun sz => c_X1_setRod l dC dI cI cF cJ cD q0 q1 q2 q3 q4 q5 q6 q7 q8 F19 a18 v21  x22 hx22 sz) (cwV 2 hts (g_V q83 q84 q85 q56 q79) rfl rfl rfl pc_X1_setRod ⟨Nat.le_of_ble_eq_true rfl, Nat.le_of_ble_eq_true rfl⟩) 0 1 rfl rfl hK hP hD hS hA [0, 1, 2, 3, 4, 5, 6, 7, 8] [] rfl rfl (by decide) (by decide) (by decide) (fun _ _ _ _ h => h) (fun _ _ _ => trivial) rfl rfl hl.1 (Nat.le_of_ble_eq_true rfl) dX1_takeDigit_60 ⟨hkc, hks⟩ (fun u H locs hr9 hP hD hS => ?_)
    have hP : va_P (dC, dI) vwCl (wFR cI cF cJ q0 q1 q2 q3 q4 q5 q6 q7 q8 x22) H := hP
    have hD : va_D A (wFR cI cF cJ q0 q1 q2 q3 q4 q5 q6 q7 q8 x22) := hD
    refine lv_iload hx hb dX1_takeDigit_63 (lv_at hl 0 rfl) ?_
    refine lv_iconst (v := 1) hx hb dX1_takeDigit_65 (by decide) ?_
    refine lv_isub hx hb dX1_takeDigit_66 ?_
    refine lv_topi (fun v23 ev23 => ?_)
    have hf := bnd_all hf v23 ev23
    refine lv_istore (lv' := [(5, .int v23), (4, .int a18), (0, .ref q0), (1, .int p0), (2, .int p1), (3, .int x1)]) hx hb dX1_takeDigit_67 hl (by decide) rfl (fun ls hl => ?_)
    have L69 : ∀ (k : Int32 → FR → Option (FR)), (∀ (a29 : Int32) (F30 : FR) (H : Heap) (locs : List Loc) (ls : Array Slot), va_P (dC, dI) vwCl (wFR cI cF cJ q0 q1 q2 q3 q4 q5 q6 q7 q8 F30) H → va_D A (wFR cI cF cJ q0 q1 q2 q3 q4 q5 q6 q7 q8 F30) → va_S A s.heap H locs → lv_has ls 6 [(0, .ref q0), (1, .int p0), (2, .int p1), (3, .int x1)] → k a29 F30 = some res → W p l e (headSpec (ws_ yX1_takeDigit cX1_takeDigit 6 none) rm_X1_takeDigit).room s m ([.ref q0, .int p0, .int p1].toArray) below meth c H locs 0 0 (MQ below (va_Qv (fun (_ : Unit) => True) (sbEnd (dC, dI) (fun _ => wFR cI cF cJ q0 q1 q2 q3 q4 q5 q6 q7 q8 res) (A)) (A)) ([.ref q0, .int p0, .int p1].toArray) s 0 0 A) (F0 m 89 ls [])) → ∀ (n : Nat) (a29 : Int32) (F30 : FR) (H : Heap) (locs : List Loc) (ls : Array Slot), va_P (dC, dI) vwCl (wFR cI cF cJ q0 q1 q2 q3 q4 q5 q6 q7 q8 F30) H → va_D A (wFR cI cF cJ q0 q1 q2 q3 q4 q5 q6 q7 q8 F30) → va_S A s.heap H locs → lv_has ls 6 [(5, .int a29), (0, .ref q0), (1, .int p0), (2, .int p1), (3, .int x1)] → l_X1_takeDigit_69 p0 p1 x1 k n a29 F30 = some res → W p l e (headSpec (ws_ yX1_takeDigit cX1_takeDigit 6 none) rm_X1_takeDigit).room s m ([.ref q0, .int p0, .int p1].toArray) below meth c H locs 0 0 (MQ below (va_Qv (fun (_ : Unit) => True) (sbEnd (dC, dI) (fun _ => wFR cI cF cJ q0 q1 q2 q3 q4 q5 q6 q7 q8 res) (A)) (A)) ([.ref q0, .int p0, .int p1].toArray) s 0 0 A) (F0 m 69 ls []) := by
      intro k hk n
      induction n with
      | zero =>
        intro a31 F32 H locs ls hP hD hS hl hf
        rw [l_X1_takeDigit_69] at hf
        cases hf
      | succ n ih =>
        intro a31 F32 H locs ls hP hD hS hl hf
        rw [l_X1_takeDigit_69] at hf
        refine lv_iload hx hb dX1_takeDigit_69 (lv_at hl 0 rfl) ?_
        refine lv_iload_n hx hb dX1_takeDigit_71 rfl (lv_at hl 2 rfl) ?_
        refine lv_icmp_le (tgt := 89) hx hb dX1_takeDigit_72 (by decide) (fun c33 => ?_) (fun c33 => ?_)
        · have hf := ite_t hf c33
          exact hk a31 F32 _ _ _ hP hD hS (lv_sub hl [1, 2, 3, 4] rfl) hf
        · have hf := ite_f hf c33
          refine lv_aload_n hx hb dX1_takeDigit_75 rfl (lv_at hl 1 rfl) ?_
          refine lv_iload hx hb dX1_takeDigit_76 (lv_at hl 0 rfl) ?_
          refine lv_bipush (v := 9) hx hb dX1_takeDigit_78 (by decide) ?_
          obtain ⟨x34, hx34, hf⟩ := obd_e hf
          refine sb_Vv (As := [.int a31, .int 9]) (rest := []) ⟨hx, hb, hml, hown, hts⟩ (fun sz => c_X1_setRod l dC dI cI cF cJ cD q0 q1 q2 q3 q4 q5 q6 q7 q8 F32 a31 9  x34 hx34 sz) (cwV 2 hts (g_V q83 q84 q85 q56 q79) rfl rfl rfl pc_X1_setRod ⟨Nat.le_of_ble_eq_true rfl, Nat.le_of_ble_eq_true rfl⟩) 0 1 rfl rfl hK hP hD hS hA [0, 1, 2, 3, 4, 5, 6, 7, 8] [] rfl rfl (by decide) (by decide) (by decide) (fun _ _ _ _ h => h) (fun _ _ _ => trivial) rfl rfl hl.1 (Nat.le_of_ble_eq_true rfl) dX1_takeDigit_80 ⟨hkc, hks⟩ (fun u H locs hr9 hP hD hS => ?_)
          have hP : va_P (dC, dI) vwCl (wFR cI cF cJ q0 q1 q2 q3 q4 q5 q6 q7 q8 x34) H := hP
          have hD : va_D A (wFR cI cF cJ q0 q1 q2 q3 q4 q5 q6 q7 q8 x34) := hD
          obtain ⟨v35, ev35⟩ : ∃ y : Int32, y = a31 + (-1) := ⟨_, rfl⟩
          have hf := bnd_all hf v35 ev35
          refine lv_iinc (v := v35) (lv' := [(5, .int v35), (0, .ref q0), (1, .int p0), (2, .int p1), (3, .int x1)]) hx hb dX1_takeDigit_83 hl (k := 0) rfl (by rw [ev35]; rfl) (by decide) rfl (fun ls hl => ?_)
          refine lv_goto (tgt := 69) hx hb dX1_takeDigit_86 (by decide) ?_
          exact ih v35 x34 _ _ _ hP hD hS (lv_sub hl [0, 1, 2, 3, 4] rfl) hf
    refine L69 _ (fun a36 F37 H locs ls hP hD hS hl hf => ?_) 16 v23 x22 _ _ _ hP hD hS (lv_sub hl [0, 2, 3, 4, 5] rfl) hf
    refine lv_aload_n hx hb dX1_takeDigit_89 rfl (lv_at hl 0 rfl) ?_
    refine lv_iload_n hx hb dX1_takeDigit_90 rfl (lv_at hl 1 rfl) ?_
    refine lv_iload_n hx hb dX1_takeDigit_91 rfl (lv_at hl 3 rfl) ?_
    refine lv_bipush (v := 10) hx hb dX1_takeDigit_92 (by decide) ?_
    refine lv_iadd hx hb dX1_takeDigit_94 ?_
    refine lv_topi (fun v38 ev38 => ?_)
    have hf := bnd_all hf v38 ev38
    refine lv_iload_n hx hb dX1_takeDigit_95 rfl (lv_at hl 2 rfl) ?_
    refine lv_isub hx hb dX1_takeDigit_96 ?_
    refine lv_topi (fun v39 ev39 => ?_)
    have hf := bnd_all hf v39 ev39
    obtain ⟨x40, hx40, hf⟩ := obd_e hf
    refine sb_Vv (As := [.int p0, .int v39]) (rest := []) ⟨hx, hb, hml, hown, hts⟩ (fun sz => c_X1_setRod l dC dI cI cF cJ cD q0 q1 q2 q3 q4 q5 q6 q7 q8 F37 p0 v39  x40 hx40 sz) (cwV 2 hts (g_V q83 q84 q85 q56 q79) rfl rfl rfl pc_X1_setRod ⟨Nat.le_of_ble_eq_true rfl, Nat.le_of_ble_eq_true rfl⟩) 0 1 rfl rfl hK hP hD hS hA [0, 1, 2, 3, 4, 5, 6, 7, 8] [] rfl rfl (by decide) (by decide) (by decide) (fun _ _ _ _ h => h) (fun _ _ _ => trivial) rfl rfl hl.1 (Nat.le_of_ble_eq_true rfl) dX1_takeDigit_97 ⟨hkc, hks⟩ (fun u H locs hr9 hP hD hS => ?_)
    have hP : va_P (dC, dI) vwCl (wFR cI cF cJ q0 q1 q2 q3 q4 q5 q6 q7 q8 x40) H := hP
    have hD : va_D A (wFR cI cF cJ q0 q1 q2 q3 q4 q5 q6 q7 q8 x40) := hD
    refine lv_aload_n hx hb dX1_takeDigit_100 rfl (lv_at hl 0 rfl) ?_
    refine lv_dup hx hb dX1_takeDigit_101 rfl ?_
    refine va_get (D := (dC, dI)) (ci := 1) (v := .int (fLo x40)) (C := RX1) (T := TX1) (N := 13) hx hb hts iX1 hown hK hP 0 rfl rfl 9 (by decide) (hts _ q39) (fun _ h9 => h9) rfl dX1_takeDigit_102 ?_
    refine lv_iconst (v := 1) hx hb dX1_takeDigit_105 (by decide) ?_
    refine lv_iadd hx hb dX1_takeDigit_106 ?_
    refine lv_topi (fun v41 ev41 => ?_)
    have hf := bnd_all hf v41 ev41
    refine va_put (D := (dC, dI)) (ci := 1) (v := .int v41) (ty := .int) (C := RX1) (T := TX1) (N := 13) hx hb hts iX1 tyX1 tyX1_ok nmX1 hown hK hP hD hS 0 rfl rfl 9 (by decide) (hts _ q39) (fun _ h9 => h9) rfl (by decide +kernel) rfl rfl (Nat.le_of_ble_eq_true rfl) dX1_takeDigit_107 (fun H locs hP hD hS => ?_)
    have hP : va_P (dC, dI) vwCl (wFR cI cF cJ q0 q1 q2 q3 q4 q5 q6 q7 q8 (sfLo x40 v41)) H := hP
    have hD : va_D A (wFR cI cF cJ q0 q1 q2 q3 q4 q5 q6 q7 q8 (sfLo x40 v41)) := hD
    obtain rfl := Option.some.inj hf
    exact W.vret hx hb hr (fun t ht hW => ⟨⟨(), rfl, trivial, by rw [ht]; exact hP, hD⟩, hS.F ht⟩) hS.2.2 dX1_takeDigit_110
  · have hf := ite_f hf c2
    refine lv_aload_n hx hb dX1_takeDigit_11 rfl (lv_at hl 1 rfl) ?_
    refine lv_iload_n hx hb dX1_takeDigit_12 rfl (lv_at hl 2 rfl) ?_
    refine lv_iload_n hx hb dX1_takeDigit_13 rfl (lv_at hl 0 rfl) ?_
    refine lv_iload_n hx hb dX1_takeDigit_14 rfl (lv_at hl 3 rfl) ?_
    refine lv_isub hx hb dX1_takeDigit_15 ?_
    refine lv_topi (fun v42 ev42 => ?_)
    have hf := bnd_all hf v42 ev42
    obtain ⟨x43, hx43, hf⟩ := obd_e hf
    refine sb_Vv (As := [.int p0, .int v42]) (rest := []) ⟨hx, hb, hml, hown, hts⟩ (fun sz => c_X1_setRod l dC dI cI cF cJ cD q0 q1 q2 q3 q4 q5 q6 q7 q8 F p0 v42  x43 hx43 sz) (cwV 2 hts (g_V q83 q84 q85 q56 q79) rfl rfl rfl pc_X1_setRod ⟨Nat.le_of_ble_eq_true rfl, Nat.le_of_ble_eq_true rfl⟩) 0 1 rfl rfl hK hP hD hS hA [0, 1, 2, 3, 4, 5, 6, 7, 8] [] rfl rfl (by decide) (by decide) (by decide) (fun _ _ _ _ h => h) (fun _ _ _ => trivial) rfl rfl hl.1 (Nat.le_of_ble_eq_true rfl) dX1_takeDigit_16 ⟨hkc, hks⟩ (fun u H locs hr9 hP hD hS => ?_)
    have hP : va_P (dC, dI) vwCl (wFR cI cF cJ q0 q1 q2 q3 q4 q5 q6 q7 q8 x43) H := hP
    have hD : va_D A (wFR cI cF cJ q0 q1 q2 q3 q4 q5 q6 q7 q8 x43) := hD
    obtain rfl := Option.some.inj hf
    exact W.vret hx hb hr (fun t ht hW => ⟨⟨(), rfl, trivial, by rw [ht]; exact hP, hD⟩, hS.F ht⟩) hS.2.2 dX1_takeDigit_19
noncomputable def l_X1_takeNumber_7 (c1 : Int64) (k : Int32 → FR → Option (FR)) : Nat → Int32 → FR → Option (FR)
  | 0, _, _ => none
  | n + 1, a2, F3 => if a2 < 0 then (k a2 F3) else (obd (f_X1_digitAt c1 a2) fun x5 => obd (f_X1_takeDigit F3 a2 x5) fun x6 => bnd (a2 + (-1)) fun (v7 : Int32) => l_X1_takeNumber_7 c1 k n v7 x6)
noncomputable def f_X1_takeNumber (F : FR) (p0 : Int64) : Option (FR) := bnd ((fRd F) - 1) fun (v1 : Int32) => l_X1_takeNumber_7 p0 (fun (a16 : Int32) (F17 : FR) => some F17) 16 v1 F
theorem pc_X1_takeNumber : yX1_takeNumber.cls = RX1 ∧ yX1_takeNumber.cls ≠ "java/lang/invoke/MethodHandle" ∧ yX1_takeNumber.cls ≠ "java/lang/invoke/VarHandle" ∧ (parseMethodDescriptor yX1_takeNumber.desc).map (fun d => d.parameters.length) = some 1 := by decide +kernel
abbrev rm_X1_takeNumber : Room := { frames := 4, cells := 0, slots := 0, locals := 105 }
set_option maxHeartbeats 4000000 in
set_option maxRecDepth 100000 in
theorem c_X1_takeNumber (l : Launch) (dC : Nat → ClassId) (dI : Nat → Nat → Nat) (cI cF cJ cD : ClassId) (q0 q1 q2 q3 q4 q5 q6 q7 q8 : Nat) (F : FR) (p0 : Int64) (res : (FR)) (hf : f_X1_takeNumber F p0 = some res) (sz : Nat) : Met l yX1_takeNumber (ws_ yX1_takeNumber cX1_takeNumber 4 none) rm_X1_takeNumber (sbPre (dC, dI) (TY cI cF cJ cD) (wFR cI cF cJ q0 q1 q2 q3 q4 q5 q6 q7 q8 F) E0 sz [.ref q0, .long p0]) (va_Qv (fun (_ : Unit) => True) (sbEnd (dC, dI) (fun _ => wFR cI cF cJ q0 q1 q2 q3 q4 q5 q6 q7 q8 res) (va_A (wFR cI cF cJ q0 q1 q2 q3 q4 q5 q6 q7 q8 F) sz)) (va_A (wFR cI cF cJ q0 q1 q2 q3 q4 q5 q6 q7 q8 F) sz)) 0 0 (va_A (wFR cI cF cJ q0 q1 q2 q3 q4 q5 q6 q7 q8 F) sz) := by
  refine Met.ofW (cc := cX1_takeNumber) (maxL := 4) (ret := none) (by decide) rfl ?_
  intro p e s m args below meth c s₁ B hml hv
  obtain ⟨rfl, hsz, hP, hK, hD0, hE⟩ := hv
  have hx := B.exec
  have hb := B.bytes
  have hr := B.returns
  have hts0 := atoms_spec (ws := ws_ yX1_takeNumber cX1_takeNumber 4 none) B.pre
  have hts := fun (w : Cond) (h : w ∈ LW) => hts0 w (List.mem_cons_of_mem _ h)
  have hown : s.vm.findClass RX1 = some m.cls := findClass_of_methodNamed B.named
  have hlocks := B.notSynchronized
  subst hsz
  have hD := hD0.self (sz := s.heap.size)
  generalize hAe : va_A (wFR cI cF cJ q0 q1 q2 q3 q4 q5 q6 q7 q8 F) s.heap.size = A at hD ⊢
  have hA : ∀ q : Nat, s.heap.size ≤ q → A q := fun q h => by rw [← hAe]; exact Or.inr h
  have hS : va_S A s.heap s.heap [] := va_S.rf
  have hkc := Nat.zero_le rm_X1_takeNumber.cells
  have hks := Nat.zero_le rm_X1_takeNumber.slots
  have hl := lv_entry ([.ref q0, .long p0]) (n := 4) (Nat.le_of_ble_eq_true rfl)
  rw [lg_entry_eq]
  generalize (lg_sl ([.ref q0, .long p0]) ++ List.replicate (4 - (lg_sl ([.ref q0, .long p0])).length) Slot.unset).toArray = ls at hl ⊢
  have hl : lv_has ls 4 [(0, .ref q0), (1, .long p0)] := hl
  rw [f_X1_takeNumber] at hf
  refine lv_aload_n hx hb dX1_takeNumber_0 rfl (lv_at hl 0 rfl) ?_
  refine va_get (D := (dC, dI)) (ci := 1) (v := .int (fRd F)) (C := RX1) (T := TX1) (N := 13) hx hb hts iX1 hown hK hP 0 rfl rfl 1 (by decide) (hts _ q27) (fun _ h9 => h9) rfl dX1_takeNumber_1 ?_
  refine lv_iconst (v := 1) hx hb dX1_takeNumber_4 (by decide) ?_
  refine lv_isub hx hb dX1_takeNumber_5 ?_
  refine lv_topi (fun v1 ev1 => ?_)
  have hf := bnd_all hf v1 ev1
  refine lv_istore_n (lv' := [(3, .int v1), (0, .ref q0), (1, .long p0)]) hx hb dX1_takeNumber_6 rfl hl (by decide) rfl (fun ls hl => ?_)
  have L7 : ∀ (k : Int32 → FR → Option (FR)), (∀ (a8 : Int32) (F9 : FR) (H : Heap) (locs : List Loc) (ls : Array Slot), va_P (dC, dI) vwCl (wFR cI cF cJ q0 q1 q2 q3 q4 q5 q6 q7 q8 F9) H → va_D A (wFR cI cF cJ q0 q1 q2 q3 q4 q5 q6 q7 q8 F9) → va_S A s.heap H locs → lv_has ls 4 [] → k a8 F9 = some res → W p l e (headSpec (ws_ yX1_takeNumber cX1_takeNumber 4 none) rm_X1_takeNumber).room s m ([.ref q0, .long p0].toArray) below meth c H locs 0 0 (MQ below (va_Qv (fun (_ : Unit) => True) (sbEnd (dC, dI) (fun _ => wFR cI cF cJ q0 q1 q2 q3 q4 q5 q6 q7 q8 res) (A)) (A)) ([.ref q0, .long p0].toArray) s 0 0 A) (F0 m 27 ls [])) → ∀ (n : Nat) (a8 : Int32) (F9 : FR) (H : Heap) (locs : List Loc) (ls : Array Slot), va_P (dC, dI) vwCl (wFR cI cF cJ q0 q1 q2 q3 q4 q5 q6 q7 q8 F9) H → va_D A (wFR cI cF cJ q0 q1 q2 q3 q4 q5 q6 q7 q8 F9) → va_S A s.heap H locs → lv_has ls 4 [(3, .int a8), (0, .ref q0), (1, .long p0)] → l_X1_takeNumber_7 p0 k n a8 F9 = some res → W p l e (headSpec (ws_ yX1_takeNumber cX1_takeNumber 4 none) rm_X1_takeNumber).room s m ([.ref q0, .long p0].toArray) below meth c H locs 0 0 (MQ below (va_Qv (fun (_ : Unit) => True) (sbEnd (dC, dI) (fun _ => wFR cI cF cJ q0 q1 q2 q3 q4 q5 q6 q7 q8 res) (A)) (A)) ([.ref q0, .long p0].toArray) s 0 0 A) (F0 m 7 ls []) := by
    intro k hk n
    induction n with
    | zero =>
      intro a10 F11 H locs ls hP hD hS hl hf
      rw [l_X1_takeNumber_7] at hf
      cases hf
    | succ n ih =>
      intro a10 F11 H locs ls hP hD hS hl hf
      rw [l_X1_takeNumber_7] at hf
      refine lv_iload_n hx hb dX1_takeNumber_7 rfl (lv_at hl 0 rfl) ?_
      refine lv_if_lt (tgt := 27) hx hb dX1_takeNumber_8 (by decide) (fun c12 => ?_) (fun c12 => ?_)
      · have hf := ite_t hf c12
        exact hk a10 F11 _ _ _ hP hD hS (lv_sub hl [] rfl) hf
      · have hf := ite_f hf c12
        refine lv_aload_n hx hb dX1_takeNumber_11 rfl (lv_at hl 1 rfl) ?_
        refine lv_iload_n hx hb dX1_takeNumber_12 rfl (lv_at hl 0 rfl) ?_
        refine lv_lload_n hx hb dX1_takeNumber_13 rfl (lv_at hl 2 rfl) ?_
        refine lv_iload_n hx hb dX1_takeNumber_14 rfl (lv_at hl 0 rfl) ?_
        obtain ⟨x13, hx13, hf⟩ := obd_e hf
        refine sb_Si (As := [.long p0, .int a10]) (rest := [.int a10, .ref q0]) ⟨hx, hb, hml, hown, hts⟩ (fun sz => c_X1_digitAt l dC dI cI cF cJ cD  p0 a10  x13 hx13 sz) (va_cwS 2 hts (g_S q81 q82 q56 q80) rfl rfl rfl ps_X1_digitAt ⟨Nat.le_of_ble_eq_true rfl, Nat.le_of_ble_eq_true rfl⟩)  hK hP hD hS hA [] [0, 1, 2, 3, 4, 5, 6, 7, 8] rfl rfl (by decide) (by decide) (by decide) (fun _ _ _ _ h => h) (fun _ _ _ => trivial) rfl rfl hl.1 (Nat.le_of_ble_eq_true rfl) dX1_takeNumber_15 ⟨hkc, hks⟩ (fun r9 u H locs hr9 hP hD hS => ?_)
        have hr9 := Eq.symm hr9
        subst hr9
        have hP : va_P (dC, dI) vwCl (wFR cI cF cJ q0 q1 q2 q3 q4 q5 q6 q7 q8 F11) H := hP
        have hD : va_D A (wFR cI cF cJ q0 q1 q2 q3 q4 q5 q6 q7 q8 F11) := hD
        obtain ⟨x14, hx14, hf⟩ := obd_e hf
        refine sb_Vv (As := [.int a10, .int x13]) (rest := []) ⟨hx, hb, hml, hown, hts⟩ (fun sz => c_X1_takeDigit l dC dI cI cF cJ cD q0 q1 q2 q3 q4 q5 q6 q7 q8 F11 a10 x13  x14 hx14 sz) (cwV 2 hts (g_V q93 q94 q95 q56 q92) rfl rfl rfl pc_X1_takeDigit ⟨Nat.le_of_ble_eq_true rfl, Nat.le_of_ble_eq_true rfl⟩) 0 1 rfl rfl hK hP hD hS hA [0, 1, 2, 3, 4, 5, 6, 7, 8] [] rfl rfl (by decide) (by decide) (by decide) (fun _ _ _ _ h => h) (fun _ _ _ => trivial) rfl rfl hl.1 (Nat.le_of_ble_eq_true rfl) dX1_takeNumber_18 ⟨hkc, hks⟩ (fun u H locs hr9 hP hD hS => ?_)
        have hP : va_P (dC, dI) vwCl (wFR cI cF cJ q0 q1 q2 q3 q4 q5 q6 q7 q8 x14) H := hP
        have hD : va_D A (wFR cI cF cJ q0 q1 q2 q3 q4 q5 q6 q7 q8 x14) := hD
        obtain ⟨v15, ev15⟩ : ∃ y : Int32, y = a10 + (-1) := ⟨_, rfl⟩
        have hf := bnd_all hf v15 ev15
        refine lv_iinc (v := v15) (lv' := [(3, .int v15), (0, .ref q0), (1, .long p0)]) hx hb dX1_takeNumber_21 hl (k := 0) rfl (by rw [ev15]; rfl) (by decide) rfl (fun ls hl => ?_)
        refine lv_goto (tgt := 7) hx hb dX1_takeNumber_24 (by decide) ?_
        exact ih v15 x14 _ _ _ hP hD hS (lv_sub hl [0, 1, 2] rfl) hf
  refine L7 _ (fun a16 F17 H locs ls hP hD hS hl hf => ?_) 16 v1 F _ _ _ hP hD hS (lv_sub hl [0, 1, 2] rfl) hf
  obtain rfl := Option.some.inj hf
  exact W.vret hx hb hr (fun t ht hW => ⟨⟨(), rfl, trivial, by rw [ht]; exact hP, hD⟩, hS.F ht⟩) hS.2.2 dX1_takeNumber_27
noncomputable def l_X1_multiply_7 (c1 : Int32) (k : Int32 → FR → Option (FR)) : Nat → Int32 → FR → Option (FR)
  | 0, _, _ => none
  | n + 1, a2, F3 => if a2 < 0 then (k a2 F3) else (obd (f_X1_valueAt F3 a2) fun x5 => bnd (x5 * c1) fun (v6 : Int32) => obd (f_X1_setRod F3 a2 0) fun x7 => bnd (v6 - v6 / 10 * 10) fun (v9 : Int32) => obd (f_X1_bring x7 a2 v9) fun x10 => bnd (a2 + 1) fun (v11 : Int32) => bnd (v6 / 10) fun (v13 : Int32) => bnd (v13 - v13 / 10 * 10) fun (v15 : Int32) => obd (f_X1_bring x10 v11 v15) fun x16 => bnd (a2 + 2) fun (v17 : Int32) => bnd (v6 / 100) fun (v19 : Int32) => obd (f_X1_bring x16 v17 v19) fun x20 => bnd (a2 + (-1)) fun (v21 : Int32) => l_X1_multiply_7 c1 k n v21 x20)
noncomputable def f_X1_multiply (F : FR) (p0 : Int32) : Option (FR) := bnd ((fRd F) - 1) fun (v1 : Int32) => l_X1_multiply_7 p0 (fun (a44 : Int32) (F45 : FR) => some F45) 16 v1 F
theorem pc_X1_multiply : yX1_multiply.cls = RX1 ∧ yX1_multiply.cls ≠ "java/lang/invoke/MethodHandle" ∧ yX1_multiply.cls ≠ "java/lang/invoke/VarHandle" ∧ (parseMethodDescriptor yX1_multiply.desc).map (fun d => d.parameters.length) = some 1 := by decide +kernel
abbrev rm_X1_multiply : Room := { frames := 4, cells := 0, slots := 0, locals := 105 }
set_option maxHeartbeats 4000000 in
set_option maxRecDepth 100000 in
theorem c_X1_multiply (l : Launch) (dC : Nat → ClassId) (dI : Nat → Nat → Nat) (cI cF cJ cD : ClassId) (q0 q1 q2 q3 q4 q5 q6 q7 q8 : Nat) (F : FR) (p0 : Int32) (res : (FR)) (hf : f_X1_multiply F p0 = some res) (sz : Nat) : Met l yX1_multiply (ws_ yX1_multiply cX1_multiply 4 none) rm_X1_multiply (sbPre (dC, dI) (TY cI cF cJ cD) (wFR cI cF cJ q0 q1 q2 q3 q4 q5 q6 q7 q8 F) E0 sz [.ref q0, .int p0]) (va_Qv (fun (_ : Unit) => True) (sbEnd (dC, dI) (fun _ => wFR cI cF cJ q0 q1 q2 q3 q4 q5 q6 q7 q8 res) (va_A (wFR cI cF cJ q0 q1 q2 q3 q4 q5 q6 q7 q8 F) sz)) (va_A (wFR cI cF cJ q0 q1 q2 q3 q4 q5 q6 q7 q8 F) sz)) 0 0 (va_A (wFR cI cF cJ q0 q1 q2 q3 q4 q5 q6 q7 q8 F) sz) := by
  refine Met.ofW (cc := cX1_multiply) (maxL := 4) (ret := none) (by decide) rfl ?_
  intro p e s m args below meth c s₁ B hml hv
  obtain ⟨rfl, hsz, hP, hK, hD0, hE⟩ := hv
  have hx := B.exec
  have hb := B.bytes
  have hr := B.returns
  have hts0 := atoms_spec (ws := ws_ yX1_multiply cX1_multiply 4 none) B.pre
  have hts := fun (w : Cond) (h : w ∈ LW) => hts0 w (List.mem_cons_of_mem _ h)
  have hown : s.vm.findClass RX1 = some m.cls := findClass_of_methodNamed B.named
  have hlocks := B.notSynchronized
  subst hsz
  have hD := hD0.self (sz := s.heap.size)
  generalize hAe : va_A (wFR cI cF cJ q0 q1 q2 q3 q4 q5 q6 q7 q8 F) s.heap.size = A at hD ⊢
  have hA : ∀ q : Nat, s.heap.size ≤ q → A q := fun q h => by rw [← hAe]; exact Or.inr h
  have hS : va_S A s.heap s.heap [] := va_S.rf
  have hkc := Nat.zero_le rm_X1_multiply.cells
  have hks := Nat.zero_le rm_X1_multiply.slots
  have hl := lv_entry ([.ref q0, .int p0]) (n := 4) (Nat.le_of_ble_eq_true rfl)
  rw [lg_entry_eq]
  generalize (lg_sl ([.ref q0, .int p0]) ++ List.replicate (4 - (lg_sl ([.ref q0, .int p0])).length) Slot.unset).toArray = ls at hl ⊢
  have hl : lv_has ls 4 [(0, .ref q0), (1, .int p0)] := hl
  rw [f_X1_multiply] at hf
  refine lv_aload_n hx hb dX1_multiply_0 rfl (lv_at hl 0 rfl) ?_
  refine va_get (D := (dC, dI)) (ci := 1) (v := .int (fRd F)) (C := RX1) (T := TX1) (N := 13) hx hb hts iX1 hown hK hP 0 rfl rfl 1 (by decide) (hts _ q27) (fun _ h9 => h9) rfl dX1_multiply_1 ?_
  refine lv_iconst (v := 1) hx hb dX1_multiply_4 (by decide) ?_
  refine lv_isub hx hb dX1_multiply_5 ?_
  refine lv_topi (fun v1 ev1 => ?_)
  have hf := bnd_all hf v1 ev1
  refine lv_istore_n (lv' := [(2, .int v1), (0, .ref q0), (1, .int p0)]) hx hb dX1_multiply_6 rfl hl (by decide) rfl (fun ls hl => ?_)
  have L7 : ∀ (k : Int32 → FR → Option (FR)), (∀ (a22 : Int32) (F23 : FR) (H : Heap) (locs : List Loc) (ls : Array Slot), va_P (dC, dI) vwCl (wFR cI cF cJ q0 q1 q2 q3 q4 q5 q6 q7 q8 F23) H → va_D A (wFR cI cF cJ q0 q1 q2 q3 q4 q5 q6 q7 q8 F23) → va_S A s.heap H locs → lv_has ls 4 [] → k a22 F23 = some res → W p l e (headSpec (ws_ yX1_multiply cX1_multiply 4 none) rm_X1_multiply).room s m ([.ref q0, .int p0].toArray) below meth c H locs 0 0 (MQ below (va_Qv (fun (_ : Unit) => True) (sbEnd (dC, dI) (fun _ => wFR cI cF cJ q0 q1 q2 q3 q4 q5 q6 q7 q8 res) (A)) (A)) ([.ref q0, .int p0].toArray) s 0 0 A) (F0 m 65 ls [])) → ∀ (n : Nat) (a22 : Int32) (F23 : FR) (H : Heap) (locs : List Loc) (ls : Array Slot), va_P (dC, dI) vwCl (wFR cI cF cJ q0 q1 q2 q3 q4 q5 q6 q7 q8 F23) H → va_D A (wFR cI cF cJ q0 q1 q2 q3 q4 q5 q6 q7 q8 F23) → va_S A s.heap H locs → lv_has ls 4 [(2, .int a22), (0, .ref q0), (1, .int p0)] → l_X1_multiply_7 p0 k n a22 F23 = some res → W p l e (headSpec (ws_ yX1_multiply cX1_multiply 4 none) rm_X1_multiply).room s m ([.ref q0, .int p0].toArray) below meth c H locs 0 0 (MQ below (va_Qv (fun (_ : Unit) => True) (sbEnd (dC, dI) (fun _ => wFR cI cF cJ q0 q1 q2 q3 q4 q5 q6 q7 q8 res) (A)) (A)) ([.ref q0, .int p0].toArray) s 0 0 A) (F0 m 7 ls []) := by
    intro k hk n
    induction n with
    | zero =>
      intro a24 F25 H locs ls hP hD hS hl hf
      rw [l_X1_multiply_7] at hf
      cases hf
    | succ n ih =>
      intro a24 F25 H locs ls hP hD hS hl hf
      rw [l_X1_multiply_7] at hf
      refine lv_iload_n hx hb dX1_multiply_7 rfl (lv_at hl 0 rfl) ?_
      refine lv_if_lt (tgt := 65) hx hb dX1_multiply_8 (by decide) (fun c26 => ?_) (fun c26 => ?_)
      · have hf := ite_t hf c26
        exact hk a24 F25 _ _ _ hP hD hS (lv_sub hl [] rfl) hf
      · have hf := ite_f hf c26
        refine lv_aload_n hx hb dX1_multiply_11 rfl (lv_at hl 1 rfl) ?_
        refine lv_iload_n hx hb dX1_multiply_12 rfl (lv_at hl 0 rfl) ?_
        obtain ⟨x27, hx27, hf⟩ := obd_e hf
        refine sb_Vi (As := [.int a24]) (rest := []) ⟨hx, hb, hml, hown, hts⟩ (fun sz => c_X1_valueAt l dC dI cI cF cJ cD q0 q1 q2 q3 q4 q5 q6 q7 q8 F25 a24  x27 hx27 sz) (cwV 1 hts (g_V q53 q54 q55 q56 q48) rfl rfl rfl pc_X1_valueAt ⟨Nat.le_of_ble_eq_true rfl, Nat.le_of_ble_eq_true rfl⟩) 0 1 rfl rfl hK hP hD hS hA [0, 1, 2, 3, 4, 5, 6, 7, 8] [] rfl rfl (by decide) (by decide) (by decide) (fun _ _ _ _ h => h) (fun _ _ _ => trivial) rfl rfl hl.1 (Nat.le_of_ble_eq_true rfl) dX1_multiply_13 ⟨hkc, hks⟩ (fun r9 u H locs hr9 hP hD hS => ?_)
        have hr9 := Eq.symm hr9
        subst hr9
        have hP : va_P (dC, dI) vwCl (wFR cI cF cJ q0 q1 q2 q3 q4 q5 q6 q7 q8 F25) H := hP
        have hD : va_D A (wFR cI cF cJ q0 q1 q2 q3 q4 q5 q6 q7 q8 F25) := hD
        refine lv_iload_n hx hb dX1_multiply_16 rfl (lv_at hl 2 rfl) ?_
        refine lv_imul hx hb dX1_multiply_17 ?_
        refine lv_topi (fun v28 ev28 => ?_)
        have hf := bnd_all hf v28 ev28
        refine lv_istore_n (lv' := [(3, .int v28), (2, .int a24), (0, .ref q0), (1, .int p0)]) hx hb dX1_multiply_18 rfl hl (by decide) rfl (fun ls hl => ?_)
        refine lv_aload_n hx hb dX1_multiply_19 rfl (lv_at hl 2 rfl) ?_
        refine lv_iload_n hx hb dX1_multiply_20 rfl (lv_at hl 1 rfl) ?_
        refine lv_iconst (v := 0) hx hb dX1_multiply_21 (by decide) ?_
        obtain ⟨x29, hx29, hf⟩ := obd_e hf
        refine sb_Vv (As := [.int a24, .int 0]) (rest := []) ⟨hx, hb, hml, hown, hts⟩ (fun sz => c_X1_setRod l dC dI cI cF cJ cD q0 q1 q2 q3 q4 q5 q6 q7 q8 F25 a24 0  x29 hx29 sz) (cwV 2 hts (g_V q83 q84 q85 q56 q79) rfl rfl rfl pc_X1_setRod ⟨Nat.le_of_ble_eq_true rfl, Nat.le_of_ble_eq_true rfl⟩) 0 1 rfl rfl hK hP hD hS hA [0, 1, 2, 3, 4, 5, 6, 7, 8] [] rfl rfl (by decide) (by decide) (by decide) (fun _ _ _ _ h => h) (fun _ _ _ => trivial) rfl rfl hl.1 (Nat.le_of_ble_eq_true rfl) dX1_multiply_22 ⟨hkc, hks⟩ (fun u H locs hr9 hP hD hS => ?_)
        have hP : va_P (dC, dI) vwCl (wFR cI cF cJ q0 q1 q2 q3 q4 q5 q6 q7 q8 x29) H := hP
        have hD : va_D A (wFR cI cF cJ q0 q1 q2 q3 q4 q5 q6 q7 q8 x29) := hD
        refine lv_aload_n hx hb dX1_multiply_25 rfl (lv_at hl 2 rfl) ?_
        refine lv_iload_n hx hb dX1_multiply_26 rfl (lv_at hl 1 rfl) ?_
        refine lv_iload_n hx hb dX1_multiply_27 rfl (lv_at hl 0 rfl) ?_
        refine lv_bipush (v := 10) hx hb dX1_multiply_28 (by decide) ?_
        refine lv_irem hx hb dX1_multiply_30 (by decide) ?_
        refine lv_topi (fun v31 ev31 => ?_)
        have hf := bnd_all hf v31 ev31
        obtain ⟨x32, hx32, hf⟩ := obd_e hf
        refine sb_Vv (As := [.int a24, .int v31]) (rest := []) ⟨hx, hb, hml, hown, hts⟩ (fun sz => c_X1_bring l dC dI cI cF cJ cD q0 q1 q2 q3 q4 q5 q6 q7 q8 x29 a24 v31  x32 hx32 sz) (cwV 2 hts (g_V q88 q89 q90 q56 q87) rfl rfl rfl pc_X1_bring ⟨Nat.le_of_ble_eq_true rfl, Nat.le_of_ble_eq_true rfl⟩) 0 1 rfl rfl hK hP hD hS hA [0, 1, 2, 3, 4, 5, 6, 7, 8] [] rfl rfl (by decide) (by decide) (by decide) (fun _ _ _ _ h => h) (fun _ _ _ => trivial) rfl rfl hl.1 (Nat.le_of_ble_eq_true rfl) dX1_multiply_31 ⟨hkc, hks⟩ (fun u H locs hr9 hP hD hS => ?_)
        have hP : va_P (dC, dI) vwCl (wFR cI cF cJ q0 q1 q2 q3 q4 q5 q6 q7 q8 x32) H := hP
        have hD : va_D A (wFR cI cF cJ q0 q1 q2 q3 q4 q5 q6 q7 q8 x32) := hD
        refine lv_aload_n hx hb dX1_multiply_34 rfl (lv_at hl 2 rfl) ?_
        refine lv_iload_n hx hb dX1_multiply_35 rfl (lv_at hl 1 rfl) ?_
        refine lv_iconst (v := 1) hx hb dX1_multiply_36 (by decide) ?_
        refine lv_iadd hx hb dX1_multiply_37 ?_
        refine lv_topi (fun v33 ev33 => ?_)
        have hf := bnd_all hf v33 ev33
        refine lv_iload_n hx hb dX1_multiply_38 rfl (lv_at hl 0 rfl) ?_
        refine lv_bipush (v := 10) hx hb dX1_multiply_39 (by decide) ?_
        refine lv_idiv hx hb dX1_multiply_41 (by decide) ?_
        refine lv_topi (fun v35 ev35 => ?_)
        have hf := bnd_all hf v35 ev35
        refine lv_bipush (v := 10) hx hb dX1_multiply_42 (by decide) ?_
        refine lv_irem hx hb dX1_multiply_44 (by decide) ?_
        refine lv_topi (fun v37 ev37 => ?_)
        have hf := bnd_all hf v37 ev37
        obtain ⟨x38, hx38, hf⟩ := obd_e hf
        refine sb_Vv (As := [.int v33, .int v37]) (rest := []) ⟨hx, hb, hml, hown, hts⟩ (fun sz => c_X1_bring l dC dI cI cF cJ cD q0 q1 q2 q3 q4 q5 q6 q7 q8 x32 v33 v37  x38 hx38 sz) (cwV 2 hts (g_V q88 q89 q90 q56 q87) rfl rfl rfl pc_X1_bring ⟨Nat.le_of_ble_eq_true rfl, Nat.le_of_ble_eq_true rfl⟩) 0 1 rfl rfl hK hP hD hS hA [0, 1, 2, 3, 4, 5, 6, 7, 8] [] rfl rfl (by decide) (by decide) (by decide) (fun _ _ _ _ h => h) (fun _ _ _ => trivial) rfl rfl hl.1 (Nat.le_of_ble_eq_true rfl) dX1_multiply_45 ⟨hkc, hks⟩ (fun u H locs hr9 hP hD hS => ?_)
        have hP : va_P (dC, dI) vwCl (wFR cI cF cJ q0 q1 q2 q3 q4 q5 q6 q7 q8 x38) H := hP
        have hD : va_D A (wFR cI cF cJ q0 q1 q2 q3 q4 q5 q6 q7 q8 x38) := hD
        refine lv_aload_n hx hb dX1_multiply_48 rfl (lv_at hl 2 rfl) ?_
        refine lv_iload_n hx hb dX1_multiply_49 rfl (lv_at hl 1 rfl) ?_
        refine lv_iconst (v := 2) hx hb dX1_multiply_50 (by decide) ?_
        refine lv_iadd hx hb dX1_multiply_51 ?_
        refine lv_topi (fun v39 ev39 => ?_)
        have hf := bnd_all hf v39 ev39
        refine lv_iload_n hx hb dX1_multiply_52 rfl (lv_at hl 0 rfl) ?_
        refine lv_bipush (v := 100) hx hb dX1_multiply_53 (by decide) ?_
        refine lv_idiv hx hb dX1_multiply_55 (by decide) ?_
        refine lv_topi (fun v41 ev41 => ?_)
        have hf := bnd_all hf v41 ev41
        obtain ⟨x42, hx42, hf⟩ := obd_e hf
        refine sb_Vv (As := [.int v39, .int v41]) (rest := []) ⟨hx, hb, hml, hown, hts⟩ (fun sz => c_X1_bring l dC dI cI cF cJ cD q0 q1 q2 q3 q4 q5 q6 q7 q8 x38 v39 v41  x42 hx42 sz) (cwV 2 hts (g_V q88 q89 q90 q56 q87) rfl rfl rfl pc_X1_bring ⟨Nat.le_of_ble_eq_true rfl, Nat.le_of_ble_eq_true rfl⟩) 0 1 rfl rfl hK hP hD hS hA [0, 1, 2, 3, 4, 5, 6, 7, 8] [] rfl rfl (by decide) (by decide) (by decide) (fun _ _ _ _ h => h) (fun _ _ _ => trivial) rfl rfl hl.1 (Nat.le_of_ble_eq_true rfl) dX1_multiply_56 ⟨hkc, hks⟩ (fun u H locs hr9 hP hD hS => ?_)
        have hP : va_P (dC, dI) vwCl (wFR cI cF cJ q0 q1 q2 q3 q4 q5 q6 q7 q8 x42) H := hP
        have hD : va_D A (wFR cI cF cJ q0 q1 q2 q3 q4 q5 q6 q7 q8 x42) := hD
        obtain ⟨v43, ev43⟩ : ∃ y : Int32, y = a24 + (-1) := ⟨_, rfl⟩
        have hf := bnd_all hf v43 ev43
        refine lv_iinc (v := v43) (lv' := [(2, .int v43), (3, .int v28), (0, .ref q0), (1, .int p0)]) hx hb dX1_multiply_59 hl (k := 1) rfl (by rw [ev43]; rfl) (by decide) rfl (fun ls hl => ?_)
        refine lv_goto (tgt := 7) hx hb dX1_multiply_62 (by decide) ?_
        exact ih v43 x42 _ _ _ hP hD hS (lv_sub hl [0, 2, 3] rfl) hf
  refine L7 _ (fun a44 F45 H locs ls hP hD hS hl hf => ?_) 16 v1 F _ _ _ hP hD hS (lv_sub hl [0, 1, 2] rfl) hf
  obtain rfl := Option.some.inj hf
  exact W.vret hx hb hr (fun t ht hW => ⟨⟨(), rfl, trivial, by rw [ht]; exact hP, hD⟩, hS.F ht⟩) hS.2.2 dX1_multiply_65
noncomputable def l_X1_splitBy_15 (c1 : Int32) (k : Int32 → Int32 → FR → Option (Int32 × FR)) : Nat → Int32 → Int32 → FR → Option (Int32 × FR)
  | 0, _, _, _ => none
  | n + 1, a3, a4, F5 => if a4 < 0 then (k a3 a4 F5) else (bnd (10 * a3) fun (v7 : Int32) => obd (f_X1_valueAt F5 a4) fun x8 => bnd (v7 + x8) fun (v9 : Int32) => gd (nz32 c1) <| bnd (v9 / c1) fun (v11 : Int32) => obd (f_X1_setRod F5 a4 v11) fun x12 => gd (nz32 c1) <| bnd (v9 - v9 / c1 * c1) fun (v14 : Int32) => bnd (a4 + (-1)) fun (v15 : Int32) => l_X1_splitBy_15 c1 k n v14 v15 x12)
noncomputable def f_X1_splitBy (F : FR) (p0 : Int32) : Option (Int32 × FR) := if (0 : Int32) < p0 then (bnd ((fRd F) - 1) fun (v2 : Int32) => l_X1_splitBy_15 p0 (fun (a32 : Int32) (a33 : Int32) (F34 : FR) => some (a32, F34)) 16 0 v2 F) else (some (0, F))
theorem pc_X1_splitBy : yX1_splitBy.cls = RX1 ∧ yX1_splitBy.cls ≠ "java/lang/invoke/MethodHandle" ∧ yX1_splitBy.cls ≠ "java/lang/invoke/VarHandle" ∧ (parseMethodDescriptor yX1_splitBy.desc).map (fun d => d.parameters.length) = some 1 := by decide +kernel
abbrev rm_X1_splitBy : Room := { frames := 3, cells := 0, slots := 0, locals := 80 }
set_option maxHeartbeats 4000000 in
set_option maxRecDepth 100000 in
theorem c_X1_splitBy (l : Launch) (dC : Nat → ClassId) (dI : Nat → Nat → Nat) (cI cF cJ cD : ClassId) (q0 q1 q2 q3 q4 q5 q6 q7 q8 : Nat) (F : FR) (p0 : Int32) (res : (Int32 × FR)) (hf : f_X1_splitBy F p0 = some res) (sz : Nat) : Met l yX1_splitBy (ws_ yX1_splitBy cX1_splitBy 5 (some .int)) rm_X1_splitBy (sbPre (dC, dI) (TY cI cF cJ cD) (wFR cI cF cJ q0 q1 q2 q3 q4 q5 q6 q7 q8 F) E0 sz [.ref q0, .int p0]) (va_Qi (fun (r : Int32) (_ : Unit) => r = res.1) (sbEnd (dC, dI) (fun _ => wFR cI cF cJ q0 q1 q2 q3 q4 q5 q6 q7 q8 res.2) (va_A (wFR cI cF cJ q0 q1 q2 q3 q4 q5 q6 q7 q8 F) sz)) (va_A (wFR cI cF cJ q0 q1 q2 q3 q4 q5 q6 q7 q8 F) sz)) 0 0 (va_A (wFR cI cF cJ q0 q1 q2 q3 q4 q5 q6 q7 q8 F) sz) := by
  refine Met.ofW (cc := cX1_splitBy) (maxL := 5) (ret := (some .int)) (by decide) rfl ?_
  intro p e s m args below meth c s₁ B hml hv
  obtain ⟨rfl, hsz, hP, hK, hD0, hE⟩ := hv
  have hx := B.exec
  have hb := B.bytes
  have hr := B.returns
  have hts0 := atoms_spec (ws := ws_ yX1_splitBy cX1_splitBy 5 (some .int)) B.pre
  have hts := fun (w : Cond) (h : w ∈ LW) => hts0 w (List.mem_cons_of_mem _ h)
  have hown : s.vm.findClass RX1 = some m.cls := findClass_of_methodNamed B.named
  have hlocks := B.notSynchronized
  subst hsz
  have hD := hD0.self (sz := s.heap.size)
  generalize hAe : va_A (wFR cI cF cJ q0 q1 q2 q3 q4 q5 q6 q7 q8 F) s.heap.size = A at hD ⊢
  have hA : ∀ q : Nat, s.heap.size ≤ q → A q := fun q h => by rw [← hAe]; exact Or.inr h
  have hS : va_S A s.heap s.heap [] := va_S.rf
  have hkc := Nat.zero_le rm_X1_splitBy.cells
  have hks := Nat.zero_le rm_X1_splitBy.slots
  have hl := lv_entry ([.ref q0, .int p0]) (n := 5) (Nat.le_of_ble_eq_true rfl)
  rw [lg_entry_eq]
  generalize (lg_sl ([.ref q0, .int p0]) ++ List.replicate (5 - (lg_sl ([.ref q0, .int p0])).length) Slot.unset).toArray = ls at hl ⊢
  have hl : lv_has ls 5 [(0, .ref q0), (1, .int p0)] := hl
  rw [f_X1_splitBy] at hf
  refine lv_iload_n hx hb dX1_splitBy_0 rfl (lv_at hl 1 rfl) ?_
  refine lv_if_gt (tgt := 6) hx hb dX1_splitBy_1 (by decide) (fun c1 => ?_) (fun c1 => ?_)
  · have hf := ite_t hf c1
    refine lv_iconst (v := 0) hx hb dX1_splitBy_6 (by decide) ?_
    refine lv_istore_n (lv' := [(2, .int 0), (0, .ref q0), (1, .int p0)]) hx hb dX1_splitBy_7 rfl hl (by decide) rfl (fun ls hl => ?_)
    refine lv_aload_n hx hb dX1_splitBy_8 rfl (lv_at hl 1 rfl) ?_
    refine va_get (D := (dC, dI)) (ci := 1) (v := .int (fRd F)) (C := RX1) (T := TX1) (N := 13) hx hb hts iX1 hown hK hP 0 rfl rfl 1 (by decide) (hts _ q27) (fun _ h9 => h9) rfl dX1_splitBy_9 ?_
    refine lv_iconst (v := 1) hx hb dX1_splitBy_12 (by decide) ?_
    refine lv_isub hx hb dX1_splitBy_13 ?_
    refine lv_topi (fun v2 ev2 => ?_)
    have hf := bnd_all hf v2 ev2
    refine lv_istore_n (lv' := [(3, .int v2), (2, .int 0), (0, .ref q0), (1, .int p0)]) hx hb dX1_splitBy_14 rfl hl (by decide) rfl (fun ls hl => ?_)
    have L15 : ∀ (k : Int32 → Int32 → FR → Option (Int32 × FR)), (∀ (a16 : Int32) (a17 : Int32) (F18 : FR) (H : Heap) (locs : List Loc) (ls : Array Slot), va_P (dC, dI) vwCl (wFR cI cF cJ q0 q1 q2 q3 q4 q5 q6 q7 q8 F18) H → va_D A (wFR cI cF cJ q0 q1 q2 q3 q4 q5 q6 q7 q8 F18) → va_S A s.heap H locs → lv_has ls 5 [(2, .int a16)] → k a16 a17 F18 = some res → W p l e (headSpec (ws_ yX1_splitBy cX1_splitBy 5 (some .int)) rm_X1_splitBy).room s m ([.ref q0, .int p0].toArray) below meth c H locs 0 0 (MQ below (va_Qi (fun (r : Int32) (_ : Unit) => r = res.1) (sbEnd (dC, dI) (fun _ => wFR cI cF cJ q0 q1 q2 q3 q4 q5 q6 q7 q8 res.2) (A)) (A)) ([.ref q0, .int p0].toArray) s 0 0 A) (F0 m 51 ls [])) → ∀ (n : Nat) (a16 : Int32) (a17 : Int32) (F18 : FR) (H : Heap) (locs : List Loc) (ls : Array Slot), va_P (dC, dI) vwCl (wFR cI cF cJ q0 q1 q2 q3 q4 q5 q6 q7 q8 F18) H → va_D A (wFR cI cF cJ q0 q1 q2 q3 q4 q5 q6 q7 q8 F18) → va_S A s.heap H locs → lv_has ls 5 [(2, .int a16), (3, .int a17), (0, .ref q0), (1, .int p0)] → l_X1_splitBy_15 p0 k n a16 a17 F18 = some res → W p l e (headSpec (ws_ yX1_splitBy cX1_splitBy 5 (some .int)) rm_X1_splitBy).room s m ([.ref q0, .int p0].toArray) below meth c H locs 0 0 (MQ below (va_Qi (fun (r : Int32) (_ : Unit) => r = res.1) (sbEnd (dC, dI) (fun _ => wFR cI cF cJ q0 q1 q2 q3 q4 q5 q6 q7 q8 res.2) (A)) (A)) ([.ref q0, .int p0].toArray) s 0 0 A) (F0 m 15 ls []) := by
      intro k hk n
      induction n with
      | zero =>
        intro a19 a20 F21 H locs ls hP hD hS hl hf
        rw [l_X1_splitBy_15] at hf
        cases hf
      | succ n ih =>
        intro a19 a20 F21 H locs ls hP hD hS hl hf
        rw [l_X1_splitBy_15] at hf
        refine lv_iload_n hx hb dX1_splitBy_15 rfl (lv_at hl 1 rfl) ?_
        refine lv_if_lt (tgt := 51) hx hb dX1_splitBy_16 (by decide) (fun c22 => ?_) (fun c22 => ?_)
        · have hf := ite_t hf c22
          exact hk a19 a20 F21 _ _ _ hP hD hS (lv_sub hl [0] rfl) hf
        · have hf := ite_f hf c22
          refine lv_bipush (v := 10) hx hb dX1_splitBy_19 (by decide) ?_
          refine lv_iload_n hx hb dX1_splitBy_21 rfl (lv_at hl 0 rfl) ?_
          refine lv_imul hx hb dX1_splitBy_22 ?_
          refine lv_topi (fun v23 ev23 => ?_)
          have hf := bnd_all hf v23 ev23
          refine lv_aload_n hx hb dX1_splitBy_23 rfl (lv_at hl 2 rfl) ?_
          refine lv_iload_n hx hb dX1_splitBy_24 rfl (lv_at hl 1 rfl) ?_
          obtain ⟨x24, hx24, hf⟩ := obd_e hf
          refine sb_Vi (As := [.int a20]) (rest := [.int v23]) ⟨hx, hb, hml, hown, hts⟩ (fun sz => c_X1_valueAt l dC dI cI cF cJ cD q0 q1 q2 q3 q4 q5 q6 q7 q8 F21 a20  x24 hx24 sz) (cwV 1 hts (g_V q53 q54 q55 q56 q48) rfl rfl rfl pc_X1_valueAt ⟨Nat.le_of_ble_eq_true rfl, Nat.le_of_ble_eq_true rfl⟩) 0 1 rfl rfl hK hP hD hS hA [0, 1, 2, 3, 4, 5, 6, 7, 8] [] rfl rfl (by decide) (by decide) (by decide) (fun _ _ _ _ h => h) (fun _ _ _ => trivial) rfl rfl hl.1 (Nat.le_of_ble_eq_true rfl) dX1_splitBy_25 ⟨hkc, hks⟩ (fun r9 u H locs hr9 hP hD hS => ?_)
          have hr9 := Eq.symm hr9
          subst hr9
          have hP : va_P (dC, dI) vwCl (wFR cI cF cJ q0 q1 q2 q3 q4 q5 q6 q7 q8 F21) H := hP
          have hD : va_D A (wFR cI cF cJ q0 q1 q2 q3 q4 q5 q6 q7 q8 F21) := hD
          refine lv_iadd hx hb dX1_splitBy_28 ?_
          refine lv_topi (fun v25 ev25 => ?_)
          have hf := bnd_all hf v25 ev25
          refine lv_istore (lv' := [(4, .int v25), (2, .int a19), (3, .int a20), (0, .ref q0), (1, .int p0)]) hx hb dX1_splitBy_29 hl (by decide) rfl (fun ls hl => ?_)
          refine lv_aload_n hx hb dX1_splitBy_31 rfl (lv_at hl 3 rfl) ?_
          refine lv_iload_n hx hb dX1_splitBy_32 rfl (lv_at hl 2 rfl) ?_
          refine lv_iload hx hb dX1_splitBy_33 (lv_at hl 0 rfl) ?_
          refine lv_iload_n hx hb dX1_splitBy_35 rfl (lv_at hl 4 rfl) ?_
          obtain ⟨g26, hf⟩ := gd_e hf
          refine lv_idiv hx hb dX1_splitBy_36 (nz32_e g26) ?_
          refine lv_topi (fun v27 ev27 => ?_)
          have hf := bnd_all hf v27 ev27
          obtain ⟨x28, hx28, hf⟩ := obd_e hf
          refine sb_Vv (As := [.int a20, .int v27]) (rest := []) ⟨hx, hb, hml, hown, hts⟩ (fun sz => c_X1_setRod l dC dI cI cF cJ cD q0 q1 q2 q3 q4 q5 q6 q7 q8 F21 a20 v27  x28 hx28 sz) (cwV 2 hts (g_V q83 q84 q85 q56 q79) rfl rfl rfl pc_X1_setRod ⟨Nat.le_of_ble_eq_true rfl, Nat.le_of_ble_eq_true rfl⟩) 0 1 rfl rfl hK hP hD hS hA [0, 1, 2, 3, 4, 5, 6, 7, 8] [] rfl rfl (by decide) (by decide) (by decide) (fun _ _ _ _ h => h) (fun _ _ _ => trivial) rfl rfl hl.1 (Nat.le_of_ble_eq_true rfl) dX1_splitBy_37 ⟨hkc, hks⟩ (fun u H locs hr9 hP hD hS => ?_)
          have hP : va_P (dC, dI) vwCl (wFR cI cF cJ q0 q1 q2 q3 q4 q5 q6 q7 q8 x28) H := hP
          have hD : va_D A (wFR cI cF cJ q0 q1 q2 q3 q4 q5 q6 q7 q8 x28) := hD
          refine lv_iload hx hb dX1_splitBy_40 (lv_at hl 0 rfl) ?_
          refine lv_iload_n hx hb dX1_splitBy_42 rfl (lv_at hl 4 rfl) ?_
          obtain ⟨g29, hf⟩ := gd_e hf
          refine lv_irem hx hb dX1_splitBy_43 (nz32_e g29) ?_
          refine lv_topi (fun v30 ev30 => ?_)
          have hf := bnd_all hf v30 ev30
          refine lv_istore_n (lv' := [(2, .int v30), (4, .int v25), (3, .int a20), (0, .ref q0), (1, .int p0)]) hx hb dX1_splitBy_44 rfl hl (by decide) rfl (fun ls hl => ?_)
          obtain ⟨v31, ev31⟩ : ∃ y : Int32, y = a20 + (-1) := ⟨_, rfl⟩
          have hf := bnd_all hf v31 ev31
          refine lv_iinc (v := v31) (lv' := [(3, .int v31), (2, .int v30), (4, .int v25), (0, .ref q0), (1, .int p0)]) hx hb dX1_splitBy_45 hl (k := 2) rfl (by rw [ev31]; rfl) (by decide) rfl (fun ls hl => ?_)
          refine lv_goto (tgt := 15) hx hb dX1_splitBy_48 (by decide) ?_
          exact ih v30 v31 x28 _ _ _ hP hD hS (lv_sub hl [1, 0, 3, 4] rfl) hf
    refine L15 _ (fun a32 a33 F34 H locs ls hP hD hS hl hf => ?_) 16 0 v2 F _ _ _ hP hD hS (lv_sub hl [1, 0, 2, 3] rfl) hf
    refine lv_iload_n hx hb dX1_splitBy_51 rfl (lv_at hl 0 rfl) ?_
    obtain rfl := Option.some.inj hf
    exact W.iret (v := a32) hx hb hr (fun t ht hW => ⟨⟨_, (), rfl, rfl, by rw [ht]; exact hP, hD⟩, hS.F ht⟩) hS.2.2 dX1_splitBy_52
  · have hf := ite_f hf c1
    refine lv_iconst (v := 0) hx hb dX1_splitBy_4 (by decide) ?_
    obtain rfl := Option.some.inj hf
    exact W.iret (v := 0) hx hb hr (fun t ht hW => ⟨⟨_, (), rfl, rfl, by rw [ht]; exact hP, hD⟩, hS.F ht⟩) hS.2.2 dX1_splitBy_5
noncomputable def l_X1_shiftLeft_18 (c1 : Int32) (k : Int32 → FR → Option (Int32 × FR)) : Nat → Int32 → FR → Option (Int32 × FR)
  | 0, _, _ => none
  | n + 1, a4, F5 => if a4 ≤ 0 then (k a4 F5) else (bnd (a4 - 1) fun (v7 : Int32) => obd (f_X1_valueAt F5 v7) fun x8 => obd (f_X1_setRod F5 a4 x8) fun x9 => bnd (a4 + (-1)) fun (v10 : Int32) => l_X1_shiftLeft_18 c1 k n v10 x9)
noncomputable def f_X1_shiftLeft (F : FR) : Option (Int32 × FR) := bnd ((fRd F) - 1) fun (v1 : Int32) => obd (f_X1_valueAt F v1) fun x2 => bnd ((fRd F) - 1) fun (v3 : Int32) => l_X1_shiftLeft_18 x2 (fun (a20 : Int32) (F21 : FR) => obd (f_X1_setRod F21 0 0) fun x22 => bnd ((fSp x22) + x2) fun (v23 : Int32) => some (x2, (sfSp x22 v23))) 16 v3 F
theorem pc_X1_shiftLeft : yX1_shiftLeft.cls = RX1 ∧ yX1_shiftLeft.cls ≠ "java/lang/invoke/MethodHandle" ∧ yX1_shiftLeft.cls ≠ "java/lang/invoke/VarHandle" ∧ (parseMethodDescriptor yX1_shiftLeft.desc).map (fun d => d.parameters.length) = some 0 := by decide +kernel
abbrev rm_X1_shiftLeft : Room := { frames := 3, cells := 0, slots := 0, locals := 80 }
set_option maxHeartbeats 4000000 in
set_option maxRecDepth 100000 in
theorem c_X1_shiftLeft (l : Launch) (dC : Nat → ClassId) (dI : Nat → Nat → Nat) (cI cF cJ cD : ClassId) (q0 q1 q2 q3 q4 q5 q6 q7 q8 : Nat) (F : FR) (res : (Int32 × FR)) (hf : f_X1_shiftLeft F = some res) (sz : Nat) : Met l yX1_shiftLeft (ws_ yX1_shiftLeft cX1_shiftLeft 3 (some .int)) rm_X1_shiftLeft (sbPre (dC, dI) (TY cI cF cJ cD) (wFR cI cF cJ q0 q1 q2 q3 q4 q5 q6 q7 q8 F) E0 sz [.ref q0]) (va_Qi (fun (r : Int32) (_ : Unit) => r = res.1) (sbEnd (dC, dI) (fun _ => wFR cI cF cJ q0 q1 q2 q3 q4 q5 q6 q7 q8 res.2) (va_A (wFR cI cF cJ q0 q1 q2 q3 q4 q5 q6 q7 q8 F) sz)) (va_A (wFR cI cF cJ q0 q1 q2 q3 q4 q5 q6 q7 q8 F) sz)) 0 0 (va_A (wFR cI cF cJ q0 q1 q2 q3 q4 q5 q6 q7 q8 F) sz) := by
  refine Met.ofW (cc := cX1_shiftLeft) (maxL := 3) (ret := (some .int)) (by decide) rfl ?_
  intro p e s m args below meth c s₁ B hml hv
  obtain ⟨rfl, hsz, hP, hK, hD0, hE⟩ := hv
  have hx := B.exec
  have hb := B.bytes
  have hr := B.returns
  have hts0 := atoms_spec (ws := ws_ yX1_shiftLeft cX1_shiftLeft 3 (some .int)) B.pre
  have hts := fun (w : Cond) (h : w ∈ LW) => hts0 w (List.mem_cons_of_mem _ h)
  have hown : s.vm.findClass RX1 = some m.cls := findClass_of_methodNamed B.named
  have hlocks := B.notSynchronized
  subst hsz
  have hD := hD0.self (sz := s.heap.size)
  generalize hAe : va_A (wFR cI cF cJ q0 q1 q2 q3 q4 q5 q6 q7 q8 F) s.heap.size = A at hD ⊢
  have hA : ∀ q : Nat, s.heap.size ≤ q → A q := fun q h => by rw [← hAe]; exact Or.inr h
  have hS : va_S A s.heap s.heap [] := va_S.rf
  have hkc := Nat.zero_le rm_X1_shiftLeft.cells
  have hks := Nat.zero_le rm_X1_shiftLeft.slots
  have hl := lv_entry ([.ref q0]) (n := 3) (Nat.le_of_ble_eq_true rfl)
  rw [lg_entry_eq]
  generalize (lg_sl ([.ref q0]) ++ List.replicate (3 - (lg_sl ([.ref q0])).length) Slot.unset).toArray = ls at hl ⊢
  have hl : lv_has ls 3 [(0, .ref q0)] := hl
  rw [f_X1_shiftLeft] at hf
  refine lv_aload_n hx hb dX1_shiftLeft_0 rfl (lv_at hl 0 rfl) ?_
  refine lv_aload_n hx hb dX1_shiftLeft_1 rfl (lv_at hl 0 rfl) ?_
  refine va_get (D := (dC, dI)) (ci := 1) (v := .int (fRd F)) (C := RX1) (T := TX1) (N := 13) hx hb hts iX1 hown hK hP 0 rfl rfl 1 (by decide) (hts _ q27) (fun _ h9 => h9) rfl dX1_shiftLeft_2 ?_
  refine lv_iconst (v := 1) hx hb dX1_shiftLeft_5 (by decide) ?_
  refine lv_isub hx hb dX1_shiftLeft_6 ?_
  refine lv_topi (fun v1 ev1 => ?_)
  have hf := bnd_all hf v1 ev1
  obtain ⟨x2, hx2, hf⟩ := obd_e hf
  refine sb_Vi (As := [.int v1]) (rest := []) ⟨hx, hb, hml, hown, hts⟩ (fun sz => c_X1_valueAt l dC dI cI cF cJ cD q0 q1 q2 q3 q4 q5 q6 q7 q8 F v1  x2 hx2 sz) (cwV 1 hts (g_V q53 q54 q55 q56 q48) rfl rfl rfl pc_X1_valueAt ⟨Nat.le_of_ble_eq_true rfl, Nat.le_of_ble_eq_true rfl⟩) 0 1 rfl rfl hK hP hD hS hA [0, 1, 2, 3, 4, 5, 6, 7, 8] [] rfl rfl (by decide) (by decide) (by decide) (fun _ _ _ _ h => h) (fun _ _ _ => trivial) rfl rfl hl.1 (Nat.le_of_ble_eq_true rfl) dX1_shiftLeft_7 ⟨hkc, hks⟩ (fun r9 u H locs hr9 hP hD hS => ?_)
  have hr9 := Eq.symm hr9
  subst hr9
  have hP : va_P (dC, dI) vwCl (wFR cI cF cJ q0 q1 q2 q3 q4 q5 q6 q7 q8 F) H := hP
  have hD : va_D A (wFR cI cF cJ q0 q1 q2 q3 q4 q5 q6 q7 q8 F) := hD
  refine lv_istore_n (lv' := [(1, .int x2), (0, .ref q0)]) hx hb dX1_shiftLeft_10 rfl hl (by decide) rfl (fun ls hl => ?_)
  refine lv_aload_n hx hb dX1_shiftLeft_11 rfl (lv_at hl 1 rfl) ?_
  refine va_get (D := (dC, dI)) (ci := 1) (v := .int (fRd F)) (C := RX1) (T := TX1) (N := 13) hx hb hts iX1 hown hK hP 0 rfl rfl 1 (by decide) (hts _ q27) (fun _ h9 => h9) rfl dX1_shiftLeft_12 ?_
  refine lv_iconst (v := 1) hx hb dX1_shiftLeft_15 (by decide) ?_
  refine lv_isub hx hb dX1_shiftLeft_16 ?_
  refine lv_topi (fun v3 ev3 => ?_)
  have hf := bnd_all hf v3 ev3
  refine lv_istore_n (lv' := [(2, .int v3), (1, .int x2), (0, .ref q0)]) hx hb dX1_shiftLeft_17 rfl hl (by decide) rfl (fun ls hl => ?_)
  have L18 : ∀ (k : Int32 → FR → Option (Int32 × FR)), (∀ (a11 : Int32) (F12 : FR) (H : Heap) (locs : List Loc) (ls : Array Slot), va_P (dC, dI) vwCl (wFR cI cF cJ q0 q1 q2 q3 q4 q5 q6 q7 q8 F12) H → va_D A (wFR cI cF cJ q0 q1 q2 q3 q4 q5 q6 q7 q8 F12) → va_S A s.heap H locs → lv_has ls 3 [(0, .ref q0), (1, .int x2)] → k a11 F12 = some res → W p l e (headSpec (ws_ yX1_shiftLeft cX1_shiftLeft 3 (some .int)) rm_X1_shiftLeft).room s m ([.ref q0].toArray) below meth c H locs 0 0 (MQ below (va_Qi (fun (r : Int32) (_ : Unit) => r = res.1) (sbEnd (dC, dI) (fun _ => wFR cI cF cJ q0 q1 q2 q3 q4 q5 q6 q7 q8 res.2) (A)) (A)) ([.ref q0].toArray) s 0 0 A) (F0 m 40 ls [])) → ∀ (n : Nat) (a11 : Int32) (F12 : FR) (H : Heap) (locs : List Loc) (ls : Array Slot), va_P (dC, dI) vwCl (wFR cI cF cJ q0 q1 q2 q3 q4 q5 q6 q7 q8 F12) H → va_D A (wFR cI cF cJ q0 q1 q2 q3 q4 q5 q6 q7 q8 F12) → va_S A s.heap H locs → lv_has ls 3 [(2, .int a11), (0, .ref q0), (1, .int x2)] → l_X1_shiftLeft_18 x2 k n a11 F12 = some res → W p l e (headSpec (ws_ yX1_shiftLeft cX1_shiftLeft 3 (some .int)) rm_X1_shiftLeft).room s m ([.ref q0].toArray) below meth c H locs 0 0 (MQ below (va_Qi (fun (r : Int32) (_ : Unit) => r = res.1) (sbEnd (dC, dI) (fun _ => wFR cI cF cJ q0 q1 q2 q3 q4 q5 q6 q7 q8 res.2) (A)) (A)) ([.ref q0].toArray) s 0 0 A) (F0 m 18 ls []) := by
    intro k hk n
    induction n with
    | zero =>
      intro a13 F14 H locs ls hP hD hS hl hf
      rw [l_X1_shiftLeft_18] at hf
      cases hf
    | succ n ih =>
      intro a13 F14 H locs ls hP hD hS hl hf
      rw [l_X1_shiftLeft_18] at hf
      refine lv_iload_n hx hb dX1_shiftLeft_18 rfl (lv_at hl 0 rfl) ?_
      refine lv_if_le (tgt := 40) hx hb dX1_shiftLeft_19 (by decide) (fun c15 => ?_) (fun c15 => ?_)
      · have hf := ite_t hf c15
        exact hk a13 F14 _ _ _ hP hD hS (lv_sub hl [1, 2] rfl) hf
      · have hf := ite_f hf c15
        refine lv_aload_n hx hb dX1_shiftLeft_22 rfl (lv_at hl 1 rfl) ?_
        refine lv_iload_n hx hb dX1_shiftLeft_23 rfl (lv_at hl 0 rfl) ?_
        refine lv_aload_n hx hb dX1_shiftLeft_24 rfl (lv_at hl 1 rfl) ?_
        refine lv_iload_n hx hb dX1_shiftLeft_25 rfl (lv_at hl 0 rfl) ?_
        refine lv_iconst (v := 1) hx hb dX1_shiftLeft_26 (by decide) ?_
        refine lv_isub hx hb dX1_shiftLeft_27 ?_
        refine lv_topi (fun v16 ev16 => ?_)
        have hf := bnd_all hf v16 ev16
        obtain ⟨x17, hx17, hf⟩ := obd_e hf
        refine sb_Vi (As := [.int v16]) (rest := [.int a13, .ref q0]) ⟨hx, hb, hml, hown, hts⟩ (fun sz => c_X1_valueAt l dC dI cI cF cJ cD q0 q1 q2 q3 q4 q5 q6 q7 q8 F14 v16  x17 hx17 sz) (cwV 1 hts (g_V q53 q54 q55 q56 q48) rfl rfl rfl pc_X1_valueAt ⟨Nat.le_of_ble_eq_true rfl, Nat.le_of_ble_eq_true rfl⟩) 0 1 rfl rfl hK hP hD hS hA [0, 1, 2, 3, 4, 5, 6, 7, 8] [] rfl rfl (by decide) (by decide) (by decide) (fun _ _ _ _ h => h) (fun _ _ _ => trivial) rfl rfl hl.1 (Nat.le_of_ble_eq_true rfl) dX1_shiftLeft_28 ⟨hkc, hks⟩ (fun r9 u H locs hr9 hP hD hS => ?_)
        have hr9 := Eq.symm hr9
        subst hr9
        have hP : va_P (dC, dI) vwCl (wFR cI cF cJ q0 q1 q2 q3 q4 q5 q6 q7 q8 F14) H := hP
        have hD : va_D A (wFR cI cF cJ q0 q1 q2 q3 q4 q5 q6 q7 q8 F14) := hD
        obtain ⟨x18, hx18, hf⟩ := obd_e hf
        refine sb_Vv (As := [.int a13, .int x17]) (rest := []) ⟨hx, hb, hml, hown, hts⟩ (fun sz => c_X1_setRod l dC dI cI cF cJ cD q0 q1 q2 q3 q4 q5 q6 q7 q8 F14 a13 x17  x18 hx18 sz) (cwV 2 hts (g_V q83 q84 q85 q56 q79) rfl rfl rfl pc_X1_setRod ⟨Nat.le_of_ble_eq_true rfl, Nat.le_of_ble_eq_true rfl⟩) 0 1 rfl rfl hK hP hD hS hA [0, 1, 2, 3, 4, 5, 6, 7, 8] [] rfl rfl (by decide) (by decide) (by decide) (fun _ _ _ _ h => h) (fun _ _ _ => trivial) rfl rfl hl.1 (Nat.le_of_ble_eq_true rfl) dX1_shiftLeft_31 ⟨hkc, hks⟩ (fun u H locs hr9 hP hD hS => ?_)
        have hP : va_P (dC, dI) vwCl (wFR cI cF cJ q0 q1 q2 q3 q4 q5 q6 q7 q8 x18) H := hP
        have hD : va_D A (wFR cI cF cJ q0 q1 q2 q3 q4 q5 q6 q7 q8 x18) := hD
        obtain ⟨v19, ev19⟩ : ∃ y : Int32, y = a13 + (-1) := ⟨_, rfl⟩
        have hf := bnd_all hf v19 ev19
        refine lv_iinc (v := v19) (lv' := [(2, .int v19), (0, .ref q0), (1, .int x2)]) hx hb dX1_shiftLeft_34 hl (k := 0) rfl (by rw [ev19]; rfl) (by decide) rfl (fun ls hl => ?_)
        refine lv_goto (tgt := 18) hx hb dX1_shiftLeft_37 (by decide) ?_
        exact ih v19 x18 _ _ _ hP hD hS (lv_sub hl [0, 1, 2] rfl) hf
  refine L18 _ (fun a20 F21 H locs ls hP hD hS hl hf => ?_) 16 v3 F _ _ _ hP hD hS (lv_sub hl [0, 2, 1] rfl) hf
  refine lv_aload_n hx hb dX1_shiftLeft_40 rfl (lv_at hl 0 rfl) ?_
  refine lv_iconst (v := 0) hx hb dX1_shiftLeft_41 (by decide) ?_
  refine lv_iconst (v := 0) hx hb dX1_shiftLeft_42 (by decide) ?_
  obtain ⟨x22, hx22, hf⟩ := obd_e hf
  refine sb_Vv (As := [.int 0, .int 0]) (rest := []) ⟨hx, hb, hml, hown, hts⟩ (fun sz => c_X1_setRod l dC dI cI cF cJ cD q0 q1 q2 q3 q4 q5 q6 q7 q8 F21 0 0  x22 hx22 sz) (cwV 2 hts (g_V q83 q84 q85 q56 q79) rfl rfl rfl pc_X1_setRod ⟨Nat.le_of_ble_eq_true rfl, Nat.le_of_ble_eq_true rfl⟩) 0 1 rfl rfl hK hP hD hS hA [0, 1, 2, 3, 4, 5, 6, 7, 8] [] rfl rfl (by decide) (by decide) (by decide) (fun _ _ _ _ h => h) (fun _ _ _ => trivial) rfl rfl hl.1 (Nat.le_of_ble_eq_true rfl) dX1_shiftLeft_43 ⟨hkc, hks⟩ (fun u H locs hr9 hP hD hS => ?_)
  have hP : va_P (dC, dI) vwCl (wFR cI cF cJ q0 q1 q2 q3 q4 q5 q6 q7 q8 x22) H := hP
  have hD : va_D A (wFR cI cF cJ q0 q1 q2 q3 q4 q5 q6 q7 q8 x22) := hD
  refine lv_aload_n hx hb dX1_shiftLeft_46 rfl (lv_at hl 0 rfl) ?_
  refine lv_dup hx hb dX1_shiftLeft_47 rfl ?_
  refine va_get (D := (dC, dI)) (ci := 1) (v := .int (fSp x22)) (C := RX1) (T := TX1) (N := 13) hx hb hts iX1 hown hK hP 0 rfl rfl 10 (by decide) (hts _ q40) (fun _ h9 => h9) rfl dX1_shiftLeft_48 ?_
  refine lv_iload_n hx hb dX1_shiftLeft_51 rfl (lv_at hl 1 rfl) ?_
  refine lv_iadd hx hb dX1_shiftLeft_52 ?_
  refine lv_topi (fun v23 ev23 => ?_)
  have hf := bnd_all hf v23 ev23
  refine va_put (D := (dC, dI)) (ci := 1) (v := .int v23) (ty := .int) (C := RX1) (T := TX1) (N := 13) hx hb hts iX1 tyX1 tyX1_ok nmX1 hown hK hP hD hS 0 rfl rfl 10 (by decide) (hts _ q40) (fun _ h9 => h9) rfl (by decide +kernel) rfl rfl (Nat.le_of_ble_eq_true rfl) dX1_shiftLeft_53 (fun H locs hP hD hS => ?_)
  have hP : va_P (dC, dI) vwCl (wFR cI cF cJ q0 q1 q2 q3 q4 q5 q6 q7 q8 (sfSp x22 v23)) H := hP
  have hD : va_D A (wFR cI cF cJ q0 q1 q2 q3 q4 q5 q6 q7 q8 (sfSp x22 v23)) := hD
  refine lv_iload_n hx hb dX1_shiftLeft_56 rfl (lv_at hl 1 rfl) ?_
  obtain rfl := Option.some.inj hf
  exact W.iret (v := x2) hx hb hr (fun t ht hW => ⟨⟨_, (), rfl, rfl, by rw [ht]; exact hP, hD⟩, hS.F ht⟩) hS.2.2 dX1_shiftLeft_57
noncomputable def l_X1_shiftRight_8 (c1 : Int32) (k : Int32 → FR → Option (Int32 × FR)) : Nat → Int32 → FR → Option (Int32 × FR)
  | 0, _, _ => none
  | n + 1, a2, F3 => bnd ((fRd F3) - 1) fun (v4 : Int32) => if v4 ≤ a2 then (k a2 F3) else (bnd (a2 + 1) fun (v6 : Int32) => obd (f_X1_valueAt F3 v6) fun x7 => obd (f_X1_setRod F3 a2 x7) fun x8 => bnd (a2 + 1) fun (v9 : Int32) => l_X1_shiftRight_8 c1 k n v9 x8)
noncomputable def f_X1_shiftRight (F : FR) : Option (Int32 × FR) := obd (f_X1_valueAt F 0) fun x1 => l_X1_shiftRight_8 x1 (fun (a20 : Int32) (F21 : FR) => bnd ((fRd F21) - 1) fun (v22 : Int32) => obd (f_X1_setRod F21 v22 0) fun x23 => some (x1, x23)) 16 0 F
theorem pc_X1_shiftRight : yX1_shiftRight.cls = RX1 ∧ yX1_shiftRight.cls ≠ "java/lang/invoke/MethodHandle" ∧ yX1_shiftRight.cls ≠ "java/lang/invoke/VarHandle" ∧ (parseMethodDescriptor yX1_shiftRight.desc).map (fun d => d.parameters.length) = some 0 := by decide +kernel
abbrev rm_X1_shiftRight : Room := { frames := 3, cells := 0, slots := 0, locals := 80 }
set_option maxHeartbeats 4000000 in
set_option maxRecDepth 100000 in
theorem c_X1_shiftRight (l : Launch) (dC : Nat → ClassId) (dI : Nat → Nat → Nat) (cI cF cJ cD : ClassId) (q0 q1 q2 q3 q4 q5 q6 q7 q8 : Nat) (F : FR) (res : (Int32 × FR)) (hf : f_X1_shiftRight F = some res) (sz : Nat) : Met l yX1_shiftRight (ws_ yX1_shiftRight cX1_shiftRight 3 (some .int)) rm_X1_shiftRight (sbPre (dC, dI) (TY cI cF cJ cD) (wFR cI cF cJ q0 q1 q2 q3 q4 q5 q6 q7 q8 F) E0 sz [.ref q0]) (va_Qi (fun (r : Int32) (_ : Unit) => r = res.1) (sbEnd (dC, dI) (fun _ => wFR cI cF cJ q0 q1 q2 q3 q4 q5 q6 q7 q8 res.2) (va_A (wFR cI cF cJ q0 q1 q2 q3 q4 q5 q6 q7 q8 F) sz)) (va_A (wFR cI cF cJ q0 q1 q2 q3 q4 q5 q6 q7 q8 F) sz)) 0 0 (va_A (wFR cI cF cJ q0 q1 q2 q3 q4 q5 q6 q7 q8 F) sz) := by
  refine Met.ofW (cc := cX1_shiftRight) (maxL := 3) (ret := (some .int)) (by decide) rfl ?_
  intro p e s m args below meth c s₁ B hml hv
  obtain ⟨rfl, hsz, hP, hK, hD0, hE⟩ := hv
  have hx := B.exec
  have hb := B.bytes
  have hr := B.returns
  have hts0 := atoms_spec (ws := ws_ yX1_shiftRight cX1_shiftRight 3 (some .int)) B.pre
  have hts := fun (w : Cond) (h : w ∈ LW) => hts0 w (List.mem_cons_of_mem _ h)
  have hown : s.vm.findClass RX1 = some m.cls := findClass_of_methodNamed B.named
  have hlocks := B.notSynchronized
  subst hsz
  have hD := hD0.self (sz := s.heap.size)
  generalize hAe : va_A (wFR cI cF cJ q0 q1 q2 q3 q4 q5 q6 q7 q8 F) s.heap.size = A at hD ⊢
  have hA : ∀ q : Nat, s.heap.size ≤ q → A q := fun q h => by rw [← hAe]; exact Or.inr h
  have hS : va_S A s.heap s.heap [] := va_S.rf
  have hkc := Nat.zero_le rm_X1_shiftRight.cells
  have hks := Nat.zero_le rm_X1_shiftRight.slots
  have hl := lv_entry ([.ref q0]) (n := 3) (Nat.le_of_ble_eq_true rfl)
  rw [lg_entry_eq]
  generalize (lg_sl ([.ref q0]) ++ List.replicate (3 - (lg_sl ([.ref q0])).length) Slot.unset).toArray = ls at hl ⊢
  have hl : lv_has ls 3 [(0, .ref q0)] := hl
  rw [f_X1_shiftRight] at hf
  refine lv_aload_n hx hb dX1_shiftRight_0 rfl (lv_at hl 0 rfl) ?_
  refine lv_iconst (v := 0) hx hb dX1_shiftRight_1 (by decide) ?_
  obtain ⟨x1, hx1, hf⟩ := obd_e hf
  refine sb_Vi (As := [.int 0]) (rest := []) ⟨hx, hb, hml, hown, hts⟩ (fun sz => c_X1_valueAt l dC dI cI cF cJ cD q0 q1 q2 q3 q4 q5 q6 q7 q8 F 0  x1 hx1 sz) (cwV 1 hts (g_V q53 q54 q55 q56 q48) rfl rfl rfl pc_X1_valueAt ⟨Nat.le_of_ble_eq_true rfl, Nat.le_of_ble_eq_true rfl⟩) 0 1 rfl rfl hK hP hD hS hA [0, 1, 2, 3, 4, 5, 6, 7, 8] [] rfl rfl (by decide) (by decide) (by decide) (fun _ _ _ _ h => h) (fun _ _ _ => trivial) rfl rfl hl.1 (Nat.le_of_ble_eq_true rfl) dX1_shiftRight_2 ⟨hkc, hks⟩ (fun r9 u H locs hr9 hP hD hS => ?_)
  have hr9 := Eq.symm hr9
  subst hr9
  have hP : va_P (dC, dI) vwCl (wFR cI cF cJ q0 q1 q2 q3 q4 q5 q6 q7 q8 F) H := hP
  have hD : va_D A (wFR cI cF cJ q0 q1 q2 q3 q4 q5 q6 q7 q8 F) := hD
  refine lv_istore_n (lv' := [(1, .int x1), (0, .ref q0)]) hx hb dX1_shiftRight_5 rfl hl (by decide) rfl (fun ls hl => ?_)
  refine lv_iconst (v := 0) hx hb dX1_shiftRight_6 (by decide) ?_
  refine lv_istore_n (lv' := [(2, .int 0), (1, .int x1), (0, .ref q0)]) hx hb dX1_shiftRight_7 rfl hl (by decide) rfl (fun ls hl => ?_)
  have L8 : ∀ (k : Int32 → FR → Option (Int32 × FR)), (∀ (a10 : Int32) (F11 : FR) (H : Heap) (locs : List Loc) (ls : Array Slot), va_P (dC, dI) vwCl (wFR cI cF cJ q0 q1 q2 q3 q4 q5 q6 q7 q8 F11) H → va_D A (wFR cI cF cJ q0 q1 q2 q3 q4 q5 q6 q7 q8 F11) → va_S A s.heap H locs → lv_has ls 3 [(0, .ref q0), (1, .int x1)] → k a10 F11 = some res → W p l e (headSpec (ws_ yX1_shiftRight cX1_shiftRight 3 (some .int)) rm_X1_shiftRight).room s m ([.ref q0].toArray) below meth c H locs 0 0 (MQ below (va_Qi (fun (r : Int32) (_ : Unit) => r = res.1) (sbEnd (dC, dI) (fun _ => wFR cI cF cJ q0 q1 q2 q3 q4 q5 q6 q7 q8 res.2) (A)) (A)) ([.ref q0].toArray) s 0 0 A) (F0 m 36 ls [])) → ∀ (n : Nat) (a10 : Int32) (F11 : FR) (H : Heap) (locs : List Loc) (ls : Array Slot), va_P (dC, dI) vwCl (wFR cI cF cJ q0 q1 q2 q3 q4 q5 q6 q7 q8 F11) H → va_D A (wFR cI cF cJ q0 q1 q2 q3 q4 q5 q6 q7 q8 F11) → va_S A s.heap H locs → lv_has ls 3 [(2, .int a10), (0, .ref q0), (1, .int x1)] → l_X1_shiftRight_8 x1 k n a10 F11 = some res → W p l e (headSpec (ws_ yX1_shiftRight cX1_shiftRight 3 (some .int)) rm_X1_shiftRight).room s m ([.ref q0].toArray) below meth c H locs 0 0 (MQ below (va_Qi (fun (r : Int32) (_ : Unit) => r = res.1) (sbEnd (dC, dI) (fun _ => wFR cI cF cJ q0 q1 q2 q3 q4 q5 q6 q7 q8 res.2) (A)) (A)) ([.ref q0].toArray) s 0 0 A) (F0 m 8 ls []) := by
    intro k hk n
    induction n with
    | zero =>
      intro a12 F13 H locs ls hP hD hS hl hf
      rw [l_X1_shiftRight_8] at hf
      cases hf
    | succ n ih =>
      intro a12 F13 H locs ls hP hD hS hl hf
      rw [l_X1_shiftRight_8] at hf
      refine lv_iload_n hx hb dX1_shiftRight_8 rfl (lv_at hl 0 rfl) ?_
      refine lv_aload_n hx hb dX1_shiftRight_9 rfl (lv_at hl 1 rfl) ?_
      refine va_get (D := (dC, dI)) (ci := 1) (v := .int (fRd F13)) (C := RX1) (T := TX1) (N := 13) hx hb hts iX1 hown hK hP 0 rfl rfl 1 (by decide) (hts _ q27) (fun _ h9 => h9) rfl dX1_shiftRight_10 ?_
      refine lv_iconst (v := 1) hx hb dX1_shiftRight_13 (by decide) ?_
      refine lv_isub hx hb dX1_shiftRight_14 ?_
      refine lv_topi (fun v14 ev14 => ?_)
      have hf := bnd_all hf v14 ev14
      refine lv_icmp_ge (tgt := 36) hx hb dX1_shiftRight_15 (by decide) (fun c15 => ?_) (fun c15 => ?_)
      · have hf := ite_t hf c15
        exact hk a12 F13 _ _ _ hP hD hS (lv_sub hl [1, 2] rfl) hf
      · have hf := ite_f hf c15
        refine lv_aload_n hx hb dX1_shiftRight_18 rfl (lv_at hl 1 rfl) ?_
        refine lv_iload_n hx hb dX1_shiftRight_19 rfl (lv_at hl 0 rfl) ?_
        refine lv_aload_n hx hb dX1_shiftRight_20 rfl (lv_at hl 1 rfl) ?_
        refine lv_iload_n hx hb dX1_shiftRight_21 rfl (lv_at hl 0 rfl) ?_
        refine lv_iconst (v := 1) hx hb dX1_shiftRight_22 (by decide) ?_
        refine lv_iadd hx hb dX1_shiftRight_23 ?_
        refine lv_topi (fun v16 ev16 => ?_)
        have hf := bnd_all hf v16 ev16
        obtain ⟨x17, hx17, hf⟩ := obd_e hf
        refine sb_Vi (As := [.int v16]) (rest := [.int a12, .ref q0]) ⟨hx, hb, hml, hown, hts⟩ (fun sz => c_X1_valueAt l dC dI cI cF cJ cD q0 q1 q2 q3 q4 q5 q6 q7 q8 F13 v16  x17 hx17 sz) (cwV 1 hts (g_V q53 q54 q55 q56 q48) rfl rfl rfl pc_X1_valueAt ⟨Nat.le_of_ble_eq_true rfl, Nat.le_of_ble_eq_true rfl⟩) 0 1 rfl rfl hK hP hD hS hA [0, 1, 2, 3, 4, 5, 6, 7, 8] [] rfl rfl (by decide) (by decide) (by decide) (fun _ _ _ _ h => h) (fun _ _ _ => trivial) rfl rfl hl.1 (Nat.le_of_ble_eq_true rfl) dX1_shiftRight_24 ⟨hkc, hks⟩ (fun r9 u H locs hr9 hP hD hS => ?_)
        have hr9 := Eq.symm hr9
        subst hr9
        have hP : va_P (dC, dI) vwCl (wFR cI cF cJ q0 q1 q2 q3 q4 q5 q6 q7 q8 F13) H := hP
        have hD : va_D A (wFR cI cF cJ q0 q1 q2 q3 q4 q5 q6 q7 q8 F13) := hD
        obtain ⟨x18, hx18, hf⟩ := obd_e hf
        refine sb_Vv (As := [.int a12, .int x17]) (rest := []) ⟨hx, hb, hml, hown, hts⟩ (fun sz => c_X1_setRod l dC dI cI cF cJ cD q0 q1 q2 q3 q4 q5 q6 q7 q8 F13 a12 x17  x18 hx18 sz) (cwV 2 hts (g_V q83 q84 q85 q56 q79) rfl rfl rfl pc_X1_setRod ⟨Nat.le_of_ble_eq_true rfl, Nat.le_of_ble_eq_true rfl⟩) 0 1 rfl rfl hK hP hD hS hA [0, 1, 2, 3, 4, 5, 6, 7, 8] [] rfl rfl (by decide) (by decide) (by decide) (fun _ _ _ _ h => h) (fun _ _ _ => trivial) rfl rfl hl.1 (Nat.le_of_ble_eq_true rfl) dX1_shiftRight_27 ⟨hkc, hks⟩ (fun u H locs hr9 hP hD hS => ?_)
        have hP : va_P (dC, dI) vwCl (wFR cI cF cJ q0 q1 q2 q3 q4 q5 q6 q7 q8 x18) H := hP
        have hD : va_D A (wFR cI cF cJ q0 q1 q2 q3 q4 q5 q6 q7 q8 x18) := hD
        obtain ⟨v19, ev19⟩ : ∃ y : Int32, y = a12 + 1 := ⟨_, rfl⟩
        have hf := bnd_all hf v19 ev19
        refine lv_iinc (v := v19) (lv' := [(2, .int v19), (0, .ref q0), (1, .int x1)]) hx hb dX1_shiftRight_30 hl (k := 0) rfl (by rw [ev19]; rfl) (by decide) rfl (fun ls hl => ?_)
        refine lv_goto (tgt := 8) hx hb dX1_shiftRight_33 (by decide) ?_
        exact ih v19 x18 _ _ _ hP hD hS (lv_sub hl [0, 1, 2] rfl) hf
  refine L8 _ (fun a20 F21 H locs ls hP hD hS hl hf => ?_) 16 0 F _ _ _ hP hD hS (lv_sub hl [0, 2, 1] rfl) hf
  refine lv_aload_n hx hb dX1_shiftRight_36 rfl (lv_at hl 0 rfl) ?_
  refine lv_aload_n hx hb dX1_shiftRight_37 rfl (lv_at hl 0 rfl) ?_
  refine va_get (D := (dC, dI)) (ci := 1) (v := .int (fRd F21)) (C := RX1) (T := TX1) (N := 13) hx hb hts iX1 hown hK hP 0 rfl rfl 1 (by decide) (hts _ q27) (fun _ h9 => h9) rfl dX1_shiftRight_38 ?_
  refine lv_iconst (v := 1) hx hb dX1_shiftRight_41 (by decide) ?_
  refine lv_isub hx hb dX1_shiftRight_42 ?_
  refine lv_topi (fun v22 ev22 => ?_)
  have hf := bnd_all hf v22 ev22
  refine lv_iconst (v := 0) hx hb dX1_shiftRight_43 (by decide) ?_
  obtain ⟨x23, hx23, hf⟩ := obd_e hf
  refine sb_Vv (As := [.int v22, .int 0]) (rest := []) ⟨hx, hb, hml, hown, hts⟩ (fun sz => c_X1_setRod l dC dI cI cF cJ cD q0 q1 q2 q3 q4 q5 q6 q7 q8 F21 v22 0  x23 hx23 sz) (cwV 2 hts (g_V q83 q84 q85 q56 q79) rfl rfl rfl pc_X1_setRod ⟨Nat.le_of_ble_eq_true rfl, Nat.le_of_ble_eq_true rfl⟩) 0 1 rfl rfl hK hP hD hS hA [0, 1, 2, 3, 4, 5, 6, 7, 8] [] rfl rfl (by decide) (by decide) (by decide) (fun _ _ _ _ h => h) (fun _ _ _ => trivial) rfl rfl hl.1 (Nat.le_of_ble_eq_true rfl) dX1_shiftRight_44 ⟨hkc, hks⟩ (fun u H locs hr9 hP hD hS => ?_)
  have hP : va_P (dC, dI) vwCl (wFR cI cF cJ q0 q1 q2 q3 q4 q5 q6 q7 q8 x23) H := hP
  have hD : va_D A (wFR cI cF cJ q0 q1 q2 q3 q4 q5 q6 q7 q8 x23) := hD
  refine lv_iload_n hx hb dX1_shiftRight_47 rfl (lv_at hl 1 rfl) ?_
  obtain rfl := Option.some.inj hf
  exact W.iret (v := x1) hx hb hr (fun t ht hW => ⟨⟨_, (), rfl, rfl, by rw [ht]; exact hP, hD⟩, hS.F ht⟩) hS.2.2 dX1_shiftRight_48
noncomputable def l_X1_tidyRods_2 (k : Int32 → FR → Option (FR)) : Nat → Int32 → FR → Option (FR)
  | 0, _, _ => none
  | n + 1, a1, F2 => if (fRd F2) ≤ a1 then (k a1 F2) else (obd (f_X1_valueAt F2 a1) fun x4 => if x4 ≤ 9 then (bnd (a1 + 1) fun (v6 : Int32) => l_X1_tidyRods_2 k n v6 F2) else (bnd (x4 - 10) fun (v7 : Int32) => obd (f_X1_setRod F2 a1 v7) fun x8 => bnd ((fCa x8) + 1) fun (v9 : Int32) => bnd (a1 + 1) fun (v10 : Int32) => obd (f_X1_bring (sfCa x8 v9) v10 1) fun x11 => bnd (a1 + 1) fun (v12 : Int32) => l_X1_tidyRods_2 k n v12 x11))
noncomputable def f_X1_tidyRods (F : FR) : Option (FR) := l_X1_tidyRods_2 (fun (a27 : Int32) (F28 : FR) => some F28) 16 0 F
theorem pc_X1_tidyRods : yX1_tidyRods.cls = RX1 ∧ yX1_tidyRods.cls ≠ "java/lang/invoke/MethodHandle" ∧ yX1_tidyRods.cls ≠ "java/lang/invoke/VarHandle" ∧ (parseMethodDescriptor yX1_tidyRods.desc).map (fun d => d.parameters.length) = some 0 := by decide +kernel
abbrev rm_X1_tidyRods : Room := { frames := 4, cells := 0, slots := 0, locals := 105 }
set_option maxHeartbeats 4000000 in
set_option maxRecDepth 100000 in
theorem c_X1_tidyRods (l : Launch) (dC : Nat → ClassId) (dI : Nat → Nat → Nat) (cI cF cJ cD : ClassId) (q0 q1 q2 q3 q4 q5 q6 q7 q8 : Nat) (F : FR) (res : (FR)) (hf : f_X1_tidyRods F = some res) (sz : Nat) : Met l yX1_tidyRods (ws_ yX1_tidyRods cX1_tidyRods 3 none) rm_X1_tidyRods (sbPre (dC, dI) (TY cI cF cJ cD) (wFR cI cF cJ q0 q1 q2 q3 q4 q5 q6 q7 q8 F) E0 sz [.ref q0]) (va_Qv (fun (_ : Unit) => True) (sbEnd (dC, dI) (fun _ => wFR cI cF cJ q0 q1 q2 q3 q4 q5 q6 q7 q8 res) (va_A (wFR cI cF cJ q0 q1 q2 q3 q4 q5 q6 q7 q8 F) sz)) (va_A (wFR cI cF cJ q0 q1 q2 q3 q4 q5 q6 q7 q8 F) sz)) 0 0 (va_A (wFR cI cF cJ q0 q1 q2 q3 q4 q5 q6 q7 q8 F) sz) := by
  refine Met.ofW (cc := cX1_tidyRods) (maxL := 3) (ret := none) (by decide) rfl ?_
  intro p e s m args below meth c s₁ B hml hv
  obtain ⟨rfl, hsz, hP, hK, hD0, hE⟩ := hv
  have hx := B.exec
  have hb := B.bytes
  have hr := B.returns
  have hts0 := atoms_spec (ws := ws_ yX1_tidyRods cX1_tidyRods 3 none) B.pre
  have hts := fun (w : Cond) (h : w ∈ LW) => hts0 w (List.mem_cons_of_mem _ h)
  have hown : s.vm.findClass RX1 = some m.cls := findClass_of_methodNamed B.named
  have hlocks := B.notSynchronized
  subst hsz
  have hD := hD0.self (sz := s.heap.size)
  generalize hAe : va_A (wFR cI cF cJ q0 q1 q2 q3 q4 q5 q6 q7 q8 F) s.heap.size = A at hD ⊢
  have hA : ∀ q : Nat, s.heap.size ≤ q → A q := fun q h => by rw [← hAe]; exact Or.inr h
  have hS : va_S A s.heap s.heap [] := va_S.rf
  have hkc := Nat.zero_le rm_X1_tidyRods.cells
  have hks := Nat.zero_le rm_X1_tidyRods.slots
  have hl := lv_entry ([.ref q0]) (n := 3) (Nat.le_of_ble_eq_true rfl)
  rw [lg_entry_eq]
  generalize (lg_sl ([.ref q0]) ++ List.replicate (3 - (lg_sl ([.ref q0])).length) Slot.unset).toArray = ls at hl ⊢
  have hl : lv_has ls 3 [(0, .ref q0)] := hl
  rw [f_X1_tidyRods] at hf
  refine lv_iconst (v := 0) hx hb dX1_tidyRods_0 (by decide) ?_
  refine lv_istore_n (lv' := [(1, .int 0), (0, .ref q0)]) hx hb dX1_tidyRods_1 rfl hl (by decide) rfl (fun ls hl => ?_)
  have L2 : ∀ (k : Int32 → FR → Option (FR)), (∀ (a13 : Int32) (F14 : FR) (H : Heap) (locs : List Loc) (ls : Array Slot), va_P (dC, dI) vwCl (wFR cI cF cJ q0 q1 q2 q3 q4 q5 q6 q7 q8 F14) H → va_D A (wFR cI cF cJ q0 q1 q2 q3 q4 q5 q6 q7 q8 F14) → va_S A s.heap H locs → lv_has ls 3 [] → k a13 F14 = some res → W p l e (headSpec (ws_ yX1_tidyRods cX1_tidyRods 3 none) rm_X1_tidyRods).room s m ([.ref q0].toArray) below meth c H locs 0 0 (MQ below (va_Qv (fun (_ : Unit) => True) (sbEnd (dC, dI) (fun _ => wFR cI cF cJ q0 q1 q2 q3 q4 q5 q6 q7 q8 res) (A)) (A)) ([.ref q0].toArray) s 0 0 A) (F0 m 55 ls [])) → ∀ (n : Nat) (a13 : Int32) (F14 : FR) (H : Heap) (locs : List Loc) (ls : Array Slot), va_P (dC, dI) vwCl (wFR cI cF cJ q0 q1 q2 q3 q4 q5 q6 q7 q8 F14) H → va_D A (wFR cI cF cJ q0 q1 q2 q3 q4 q5 q6 q7 q8 F14) → va_S A s.heap H locs → lv_has ls 3 [(1, .int a13), (0, .ref q0)] → l_X1_tidyRods_2  k n a13 F14 = some res → W p l e (headSpec (ws_ yX1_tidyRods cX1_tidyRods 3 none) rm_X1_tidyRods).room s m ([.ref q0].toArray) below meth c H locs 0 0 (MQ below (va_Qv (fun (_ : Unit) => True) (sbEnd (dC, dI) (fun _ => wFR cI cF cJ q0 q1 q2 q3 q4 q5 q6 q7 q8 res) (A)) (A)) ([.ref q0].toArray) s 0 0 A) (F0 m 2 ls []) := by
    intro k hk n
    induction n with
    | zero =>
      intro a15 F16 H locs ls hP hD hS hl hf
      rw [l_X1_tidyRods_2] at hf
      cases hf
    | succ n ih =>
      intro a15 F16 H locs ls hP hD hS hl hf
      rw [l_X1_tidyRods_2] at hf
      refine lv_iload_n hx hb dX1_tidyRods_2 rfl (lv_at hl 0 rfl) ?_
      refine lv_aload_n hx hb dX1_tidyRods_3 rfl (lv_at hl 1 rfl) ?_
      refine va_get (D := (dC, dI)) (ci := 1) (v := .int (fRd F16)) (C := RX1) (T := TX1) (N := 13) hx hb hts iX1 hown hK hP 0 rfl rfl 1 (by decide) (hts _ q27) (fun _ h9 => h9) rfl dX1_tidyRods_4 ?_
      refine lv_icmp_ge (tgt := 55) hx hb dX1_tidyRods_7 (by decide) (fun c17 => ?_) (fun c17 => ?_)
      · have hf := ite_t hf c17
        exact hk a15 F16 _ _ _ hP hD hS (lv_sub hl [] rfl) hf
      · have hf := ite_f hf c17
        refine lv_aload_n hx hb dX1_tidyRods_10 rfl (lv_at hl 1 rfl) ?_
        refine lv_iload_n hx hb dX1_tidyRods_11 rfl (lv_at hl 0 rfl) ?_
        obtain ⟨x18, hx18, hf⟩ := obd_e hf
        refine sb_Vi (As := [.int a15]) (rest := []) ⟨hx, hb, hml, hown, hts⟩ (fun sz => c_X1_valueAt l dC dI cI cF cJ cD q0 q1 q2 q3 q4 q5 q6 q7 q8 F16 a15  x18 hx18 sz) (cwV 1 hts (g_V q53 q54 q55 q56 q48) rfl rfl rfl pc_X1_valueAt ⟨Nat.le_of_ble_eq_true rfl, Nat.le_of_ble_eq_true rfl⟩) 0 1 rfl rfl hK hP hD hS hA [0, 1, 2, 3, 4, 5, 6, 7, 8] [] rfl rfl (by decide) (by decide) (by decide) (fun _ _ _ _ h => h) (fun _ _ _ => trivial) rfl rfl hl.1 (Nat.le_of_ble_eq_true rfl) dX1_tidyRods_12 ⟨hkc, hks⟩ (fun r9 u H locs hr9 hP hD hS => ?_)
        have hr9 := Eq.symm hr9
        subst hr9
        have hP : va_P (dC, dI) vwCl (wFR cI cF cJ q0 q1 q2 q3 q4 q5 q6 q7 q8 F16) H := hP
        have hD : va_D A (wFR cI cF cJ q0 q1 q2 q3 q4 q5 q6 q7 q8 F16) := hD
        refine lv_istore_n (lv' := [(2, .int x18), (1, .int a15), (0, .ref q0)]) hx hb dX1_tidyRods_15 rfl hl (by decide) rfl (fun ls hl => ?_)
        refine lv_iload_n hx hb dX1_tidyRods_16 rfl (lv_at hl 0 rfl) ?_
        refine lv_bipush (v := 9) hx hb dX1_tidyRods_17 (by decide) ?_
        refine lv_icmp_le (tgt := 49) hx hb dX1_tidyRods_19 (by decide) (fun c19 => ?_) (fun c19 => ?_)
        · have hf := ite_t hf c19
          obtain ⟨v20, ev20⟩ : ∃ y : Int32, y = a15 + 1 := ⟨_, rfl⟩
          have hf := bnd_all hf v20 ev20
          refine lv_iinc (v := v20) (lv' := [(1, .int v20), (2, .int x18), (0, .ref q0)]) hx hb dX1_tidyRods_49 hl (k := 1) rfl (by rw [ev20]; rfl) (by decide) rfl (fun ls hl => ?_)
          refine lv_goto (tgt := 2) hx hb dX1_tidyRods_52 (by decide) ?_
          exact ih v20 F16 _ _ _ hP hD hS (lv_sub hl [0, 2] rfl) hf
        · have hf := ite_f hf c19
          refine lv_aload_n hx hb dX1_tidyRods_22 rfl (lv_at hl 2 rfl) ?_
          refine lv_iload_n hx hb dX1_tidyRods_23 rfl (lv_at hl 1 rfl) ?_
          refine lv_iload_n hx hb dX1_tidyRods_24 rfl (lv_at hl 0 rfl) ?_
          refine lv_bipush (v := 10) hx hb dX1_tidyRods_25 (by decide) ?_
          refine lv_isub hx hb dX1_tidyRods_27 ?_
          refine lv_topi (fun v21 ev21 => ?_)
          have hf := bnd_all hf v21 ev21
          obtain ⟨x22, hx22, hf⟩ := obd_e hf
          refine sb_Vv (As := [.int a15, .int v21]) (rest := []) ⟨hx, hb, hml, hown, hts⟩ (fun sz => c_X1_setRod l dC dI cI cF cJ cD q0 q1 q2 q3 q4 q5 q6 q7 q8 F16 a15 v21  x22 hx22 sz) (cwV 2 hts (g_V q83 q84 q85 q56 q79) rfl rfl rfl pc_X1_setRod ⟨Nat.le_of_ble_eq_true rfl, Nat.le_of_ble_eq_true rfl⟩) 0 1 rfl rfl hK hP hD hS hA [0, 1, 2, 3, 4, 5, 6, 7, 8] [] rfl rfl (by decide) (by decide) (by decide) (fun _ _ _ _ h => h) (fun _ _ _ => trivial) rfl rfl hl.1 (Nat.le_of_ble_eq_true rfl) dX1_tidyRods_28 ⟨hkc, hks⟩ (fun u H locs hr9 hP hD hS => ?_)
          have hP : va_P (dC, dI) vwCl (wFR cI cF cJ q0 q1 q2 q3 q4 q5 q6 q7 q8 x22) H := hP
          have hD : va_D A (wFR cI cF cJ q0 q1 q2 q3 q4 q5 q6 q7 q8 x22) := hD
          refine lv_aload_n hx hb dX1_tidyRods_31 rfl (lv_at hl 2 rfl) ?_
          refine lv_dup hx hb dX1_tidyRods_32 rfl ?_
          refine va_get (D := (dC, dI)) (ci := 1) (v := .int (fCa x22)) (C := RX1) (T := TX1) (N := 13) hx hb hts iX1 hown hK hP 0 rfl rfl 8 (by decide) (hts _ q38) (fun _ h9 => h9) rfl dX1_tidyRods_33 ?_
          refine lv_iconst (v := 1) hx hb dX1_tidyRods_36 (by decide) ?_
          refine lv_iadd hx hb dX1_tidyRods_37 ?_
          refine lv_topi (fun v23 ev23 => ?_)
          have hf := bnd_all hf v23 ev23
          refine va_put (D := (dC, dI)) (ci := 1) (v := .int v23) (ty := .int) (C := RX1) (T := TX1) (N := 13) hx hb hts iX1 tyX1 tyX1_ok nmX1 hown hK hP hD hS 0 rfl rfl 8 (by decide) (hts _ q38) (fun _ h9 => h9) rfl (by decide +kernel) rfl rfl (Nat.le_of_ble_eq_true rfl) dX1_tidyRods_38 (fun H locs hP hD hS => ?_)
          have hP : va_P (dC, dI) vwCl (wFR cI cF cJ q0 q1 q2 q3 q4 q5 q6 q7 q8 (sfCa x22 v23)) H := hP
          have hD : va_D A (wFR cI cF cJ q0 q1 q2 q3 q4 q5 q6 q7 q8 (sfCa x22 v23)) := hD
          refine lv_aload_n hx hb dX1_tidyRods_41 rfl (lv_at hl 2 rfl) ?_
          refine lv_iload_n hx hb dX1_tidyRods_42 rfl (lv_at hl 1 rfl) ?_
          refine lv_iconst (v := 1) hx hb dX1_tidyRods_43 (by decide) ?_
          refine lv_iadd hx hb dX1_tidyRods_44 ?_
          refine lv_topi (fun v24 ev24 => ?_)
          have hf := bnd_all hf v24 ev24
          refine lv_iconst (v := 1) hx hb dX1_tidyRods_45 (by decide) ?_
          obtain ⟨x25, hx25, hf⟩ := obd_e hf
          refine sb_Vv (As := [.int v24, .int 1]) (rest := []) ⟨hx, hb, hml, hown, hts⟩ (fun sz => c_X1_bring l dC dI cI cF cJ cD q0 q1 q2 q3 q4 q5 q6 q7 q8 (sfCa x22 v23) v24 1  x25 hx25 sz) (cwV 2 hts (g_V q88 q89 q90 q56 q87) rfl rfl rfl pc_X1_bring ⟨Nat.le_of_ble_eq_true rfl, Nat.le_of_ble_eq_true rfl⟩) 0 1 rfl rfl hK hP hD hS hA [0, 1, 2, 3, 4, 5, 6, 7, 8] [] rfl rfl (by decide) (by decide) (by decide) (fun _ _ _ _ h => h) (fun _ _ _ => trivial) rfl rfl hl.1 (Nat.le_of_ble_eq_true rfl) dX1_tidyRods_46 ⟨hkc, hks⟩ (fun u H locs hr9 hP hD hS => ?_)
          have hP : va_P (dC, dI) vwCl (wFR cI cF cJ q0 q1 q2 q3 q4 q5 q6 q7 q8 x25) H := hP
          have hD : va_D A (wFR cI cF cJ q0 q1 q2 q3 q4 q5 q6 q7 q8 x25) := hD
          obtain ⟨v26, ev26⟩ : ∃ y : Int32, y = a15 + 1 := ⟨_, rfl⟩
          have hf := bnd_all hf v26 ev26
          refine lv_iinc (v := v26) (lv' := [(1, .int v26), (2, .int x18), (0, .ref q0)]) hx hb dX1_tidyRods_49 hl (k := 1) rfl (by rw [ev26]; rfl) (by decide) rfl (fun ls hl => ?_)
          refine lv_goto (tgt := 2) hx hb dX1_tidyRods_52 (by decide) ?_
          exact ih v26 x25 _ _ _ hP hD hS (lv_sub hl [0, 2] rfl) hf
  refine L2 _ (fun a27 F28 H locs ls hP hD hS hl hf => ?_) 16 0 F _ _ _ hP hD hS (lv_sub hl [0, 1] rfl) hf
  obtain rfl := Option.some.inj hf
  exact W.vret hx hb hr (fun t ht hW => ⟨⟨(), rfl, trivial, by rw [ht]; exact hP, hD⟩, hS.F ht⟩) hS.2.2 dX1_tidyRods_55
noncomputable def l_X0_keepIn_7 (c2 : Int32) (k : Int32 → DK → Option (DK)) : Nat → Int32 → DK → Option (DK)
  | 0, _, _ => none
  | n + 1, a2, F3 => if (8 : Int32) ≤ a2 then (k a2 F3) else (bnd (c2 + a2) fun (v5 : Int32) => if v5 < 0 then (bnd (a2 + 1) fun (v7 : Int32) => l_X0_keepIn_7 c2 k n v7 F3) else (bnd (c2 + a2) fun (v8 : Int32) => if (96 : Int32) ≤ v8 then (bnd (a2 + 1) fun (v10 : Int32) => l_X0_keepIn_7 c2 k n v10 F3) else (bnd (c2 + a2) fun (v11 : Int32) => gd (gin a2 8) <| bnd ((dCn F3) (Int32.toNatClampNeg a2)) fun (v13 : Int32) => gd (gin v11 96) <| bnd (a2 + 1) fun (v15 : Int32) => l_X0_keepIn_7 c2 k n v15 (sdKp F3 (upd (dKp F3) (Int32.toNatClampNeg v11) v13)))))
noncomputable def f_X0_keepIn (D : DK) (p0 : Int32) : Option (DK) := bnd (p0 * 8) fun (v1 : Int32) => l_X0_keepIn_7 v1 (fun (a32 : Int32) (F33 : DK) => some F33) 16 0 D
theorem pc_X0_keepIn : yX0_keepIn.cls = RX0 ∧ yX0_keepIn.cls ≠ "java/lang/invoke/MethodHandle" ∧ yX0_keepIn.cls ≠ "java/lang/invoke/VarHandle" ∧ (parseMethodDescriptor yX0_keepIn.desc).map (fun d => d.parameters.length) = some 1 := by decide +kernel
abbrev rm_X0_keepIn : Room := { frames := 1, cells := 0, slots := 0, locals := 21 }
set_option maxHeartbeats 4000000 in
set_option maxRecDepth 100000 in
theorem c_X0_keepIn (l : Launch) (dC : Nat → ClassId) (dI : Nat → Nat → Nat) (cI cF cJ cD : ClassId) (q0 q1 q2 q3 : Nat) (D : DK) (p0 : Int32) (res : (DK)) (hf : f_X0_keepIn D p0 = some res) (sz : Nat) : Met l yX0_keepIn (ws_ yX0_keepIn cX0_keepIn 4 none) rm_X0_keepIn (sbPre (dC, dI) (TY cI cF cJ cD) (wDK cI cF cJ q0 q1 q2 q3 D) E0 sz [.ref q0, .int p0]) (va_Qv (fun (_ : Unit) => True) (sbEnd (dC, dI) (fun _ => wDK cI cF cJ q0 q1 q2 q3 res) (va_A (wDK cI cF cJ q0 q1 q2 q3 D) sz)) (va_A (wDK cI cF cJ q0 q1 q2 q3 D) sz)) 0 0 (va_A (wDK cI cF cJ q0 q1 q2 q3 D) sz) := by
  refine Met.ofW (cc := cX0_keepIn) (maxL := 4) (ret := none) (by decide) rfl ?_
  intro p e s m args below meth c s₁ B hml hv
  obtain ⟨rfl, hsz, hP, hK, hD0, hE⟩ := hv
  have hx := B.exec
  have hb := B.bytes
  have hr := B.returns
  have hts0 := atoms_spec (ws := ws_ yX0_keepIn cX0_keepIn 4 none) B.pre
  have hts := fun (w : Cond) (h : w ∈ LW) => hts0 w (List.mem_cons_of_mem _ h)
  have hown : s.vm.findClass RX0 = some m.cls := findClass_of_methodNamed B.named
  have hlocks := B.notSynchronized
  subst hsz
  have hD := hD0.self (sz := s.heap.size)
  generalize hAe : va_A (wDK cI cF cJ q0 q1 q2 q3 D) s.heap.size = A at hD ⊢
  have hA : ∀ q : Nat, s.heap.size ≤ q → A q := fun q h => by rw [← hAe]; exact Or.inr h
  have hS : va_S A s.heap s.heap [] := va_S.rf
  have hkc := Nat.zero_le rm_X0_keepIn.cells
  have hks := Nat.zero_le rm_X0_keepIn.slots
  have hl := lv_entry ([.ref q0, .int p0]) (n := 4) (Nat.le_of_ble_eq_true rfl)
  rw [lg_entry_eq]
  generalize (lg_sl ([.ref q0, .int p0]) ++ List.replicate (4 - (lg_sl ([.ref q0, .int p0])).length) Slot.unset).toArray = ls at hl ⊢
  have hl : lv_has ls 4 [(0, .ref q0), (1, .int p0)] := hl
  rw [f_X0_keepIn] at hf
  refine lv_iload_n hx hb dX0_keepIn_0 rfl (lv_at hl 1 rfl) ?_
  refine lv_bipush (v := 8) hx hb dX0_keepIn_1 (by decide) ?_
  refine lv_imul hx hb dX0_keepIn_3 ?_
  refine lv_topi (fun v1 ev1 => ?_)
  have hf := bnd_all hf v1 ev1
  refine lv_istore_n (lv' := [(2, .int v1), (0, .ref q0), (1, .int p0)]) hx hb dX0_keepIn_4 rfl hl (by decide) rfl (fun ls hl => ?_)
  refine lv_iconst (v := 0) hx hb dX0_keepIn_5 (by decide) ?_
  refine lv_istore_n (lv' := [(3, .int 0), (2, .int v1), (0, .ref q0), (1, .int p0)]) hx hb dX0_keepIn_6 rfl hl (by decide) rfl (fun ls hl => ?_)
  have L7 : ∀ (k : Int32 → DK → Option (DK)), (∀ (a16 : Int32) (F17 : DK) (H : Heap) (locs : List Loc) (ls : Array Slot), va_P (dC, dI) vwCl (wDK cI cF cJ q0 q1 q2 q3 F17) H → va_D A (wDK cI cF cJ q0 q1 q2 q3 F17) → va_S A s.heap H locs → lv_has ls 4 [] → k a16 F17 = some res → W p l e (headSpec (ws_ yX0_keepIn cX0_keepIn 4 none) rm_X0_keepIn).room s m ([.ref q0, .int p0].toArray) below meth c H locs 0 0 (MQ below (va_Qv (fun (_ : Unit) => True) (sbEnd (dC, dI) (fun _ => wDK cI cF cJ q0 q1 q2 q3 res) (A)) (A)) ([.ref q0, .int p0].toArray) s 0 0 A) (F0 m 53 ls [])) → ∀ (n : Nat) (a16 : Int32) (F17 : DK) (H : Heap) (locs : List Loc) (ls : Array Slot), va_P (dC, dI) vwCl (wDK cI cF cJ q0 q1 q2 q3 F17) H → va_D A (wDK cI cF cJ q0 q1 q2 q3 F17) → va_S A s.heap H locs → lv_has ls 4 [(3, .int a16), (0, .ref q0), (2, .int v1)] → l_X0_keepIn_7 v1 k n a16 F17 = some res → W p l e (headSpec (ws_ yX0_keepIn cX0_keepIn 4 none) rm_X0_keepIn).room s m ([.ref q0, .int p0].toArray) below meth c H locs 0 0 (MQ below (va_Qv (fun (_ : Unit) => True) (sbEnd (dC, dI) (fun _ => wDK cI cF cJ q0 q1 q2 q3 res) (A)) (A)) ([.ref q0, .int p0].toArray) s 0 0 A) (F0 m 7 ls []) := by
    intro k hk n
    induction n with
    | zero =>
      intro a18 F19 H locs ls hP hD hS hl hf
      rw [l_X0_keepIn_7] at hf
      cases hf
    | succ n ih =>
      intro a18 F19 H locs ls hP hD hS hl hf
      rw [l_X0_keepIn_7] at hf
      refine lv_iload_n hx hb dX0_keepIn_7 rfl (lv_at hl 0 rfl) ?_
      refine lv_aload_n hx hb dX0_keepIn_8 rfl (lv_at hl 1 rfl) ?_
      refine va_get (D := (dC, dI)) (ci := 0) (v := .ref q1) (C := RX0) (T := TX0) (N := 4) hx hb hts iX0 hown hK hP 0 rfl rfl 1 (by decide) (hts _ q5) (fun _ h9 => h9) rfl dX0_keepIn_9 ?_
      refine va_alen (v := 8) hx hb hK hP 1 0 rfl rfl rfl dX0_keepIn_12 ?_
      refine lv_icmp_ge (tgt := 53) hx hb dX0_keepIn_13 (by decide) (fun c20 => ?_) (fun c20 => ?_)
      · have hf := ite_t hf c20
        exact hk a18 F19 _ _ _ hP hD hS (lv_sub hl [] rfl) hf
      · have hf := ite_f hf c20
        refine lv_iload_n hx hb dX0_keepIn_16 rfl (lv_at hl 2 rfl) ?_
        refine lv_iload_n hx hb dX0_keepIn_17 rfl (lv_at hl 0 rfl) ?_
        refine lv_iadd hx hb dX0_keepIn_18 ?_
        refine lv_topi (fun v21 ev21 => ?_)
        have hf := bnd_all hf v21 ev21
        refine lv_if_lt (tgt := 47) hx hb dX0_keepIn_19 (by decide) (fun c22 => ?_) (fun c22 => ?_)
        · have hf := ite_t hf c22
          obtain ⟨v23, ev23⟩ : ∃ y : Int32, y = a18 + 1 := ⟨_, rfl⟩
          have hf := bnd_all hf v23 ev23
          refine lv_iinc (v := v23) (lv' := [(3, .int v23), (0, .ref q0), (2, .int v1)]) hx hb dX0_keepIn_47 hl (k := 0) rfl (by rw [ev23]; rfl) (by decide) rfl (fun ls hl => ?_)
          refine lv_goto (tgt := 7) hx hb dX0_keepIn_50 (by decide) ?_
          exact ih v23 F19 _ _ _ hP hD hS (lv_sub hl [0, 1, 2] rfl) hf
        · have hf := ite_f hf c22
          refine lv_iload_n hx hb dX0_keepIn_22 rfl (lv_at hl 2 rfl) ?_
          refine lv_iload_n hx hb dX0_keepIn_23 rfl (lv_at hl 0 rfl) ?_
          refine lv_iadd hx hb dX0_keepIn_24 ?_
          refine lv_topi (fun v24 ev24 => ?_)
          have hf := bnd_all hf v24 ev24
          refine lv_aload_n hx hb dX0_keepIn_25 rfl (lv_at hl 1 rfl) ?_
          refine va_get (D := (dC, dI)) (ci := 0) (v := .ref q3) (C := RX0) (T := TX0) (N := 4) hx hb hts iX0 hown hK hP 0 rfl rfl 3 (by decide) (hts _ q7) (fun _ h9 => h9) rfl dX0_keepIn_26 ?_
          refine va_alen (v := 96) hx hb hK hP 3 0 rfl rfl rfl dX0_keepIn_29 ?_
          refine lv_icmp_ge (tgt := 47) hx hb dX0_keepIn_30 (by decide) (fun c25 => ?_) (fun c25 => ?_)
          · have hf := ite_t hf c25
            obtain ⟨v26, ev26⟩ : ∃ y : Int32, y = a18 + 1 := ⟨_, rfl⟩
            have hf := bnd_all hf v26 ev26
            refine lv_iinc (v := v26) (lv' := [(3, .int v26), (0, .ref q0), (2, .int v1)]) hx hb dX0_keepIn_47 hl (k := 0) rfl (by rw [ev26]; rfl) (by decide) rfl (fun ls hl => ?_)
            refine lv_goto (tgt := 7) hx hb dX0_keepIn_50 (by decide) ?_
            exact ih v26 F19 _ _ _ hP hD hS (lv_sub hl [0, 1, 2] rfl) hf
          · have hf := ite_f hf c25
            refine lv_aload_n hx hb dX0_keepIn_33 rfl (lv_at hl 1 rfl) ?_
            refine va_get (D := (dC, dI)) (ci := 0) (v := .ref q3) (C := RX0) (T := TX0) (N := 4) hx hb hts iX0 hown hK hP 0 rfl rfl 3 (by decide) (hts _ q7) (fun _ h9 => h9) rfl dX0_keepIn_34 ?_
            refine lv_iload_n hx hb dX0_keepIn_37 rfl (lv_at hl 2 rfl) ?_
            refine lv_iload_n hx hb dX0_keepIn_38 rfl (lv_at hl 0 rfl) ?_
            refine lv_iadd hx hb dX0_keepIn_39 ?_
            refine lv_topi (fun v27 ev27 => ?_)
            have hf := bnd_all hf v27 ev27
            refine lv_aload_n hx hb dX0_keepIn_40 rfl (lv_at hl 1 rfl) ?_
            refine va_get (D := (dC, dI)) (ci := 0) (v := .ref q1) (C := RX0) (T := TX0) (N := 4) hx hb hts iX0 hown hK hP 0 rfl rfl 1 (by decide) (hts _ q5) (fun _ h9 => h9) rfl dX0_keepIn_41 ?_
            refine lv_iload_n hx hb dX0_keepIn_44 rfl (lv_at hl 0 rfl) ?_
            obtain ⟨g28, hf⟩ := gd_e hf
            refine va_iald hx hb hK hP 1 0 rfl rfl (gin_in g28) dX0_keepIn_45 ?_
            refine lv_topi (fun v29 ev29 => ?_)
            have hf := bnd_all hf v29 ev29
            obtain ⟨g30, hf⟩ := gd_e hf
            refine va_iast hx hb hK hP hD hS 3 0 rfl rfl (gin_in g30) dX0_keepIn_46 (fun H locs hP hD hS => ?_)
            have hP : va_P (dC, dI) vwCl (wDK cI cF cJ q0 q1 q2 q3 (sdKp F19 (upd (dKp F19) (Int32.toNatClampNeg v27) v29))) H := hP
            have hD : va_D A (wDK cI cF cJ q0 q1 q2 q3 (sdKp F19 (upd (dKp F19) (Int32.toNatClampNeg v27) v29))) := hD
            obtain ⟨v31, ev31⟩ : ∃ y : Int32, y = a18 + 1 := ⟨_, rfl⟩
            have hf := bnd_all hf v31 ev31
            refine lv_iinc (v := v31) (lv' := [(3, .int v31), (0, .ref q0), (2, .int v1)]) hx hb dX0_keepIn_47 hl (k := 0) rfl (by rw [ev31]; rfl) (by decide) rfl (fun ls hl => ?_)
            refine lv_goto (tgt := 7) hx hb dX0_keepIn_50 (by decide) ?_
            exact ih v31 (sdKp F19 (upd (dKp F19) (Int32.toNatClampNeg v27) v29)) _ _ _ hP hD hS (lv_sub hl [0, 1, 2] rfl) hf
  refine L7 _ (fun a32 F33 H locs ls hP hD hS hl hf => ?_) 16 0 D _ _ _ hP hD hS (lv_sub hl [0, 2, 1] rfl) hf
  obtain rfl := Option.some.inj hf
  exact W.vret hx hb hr (fun t ht hW => ⟨⟨(), rfl, trivial, by rw [ht]; exact hP, hD⟩, hS.F ht⟩) hS.2.2 dX0_keepIn_53
noncomputable def l_X0_restoreFrom_7 (c2 : Int32) (k : Int32 → DK → Option (DK)) : Nat → Int32 → DK → Option (DK)
  | 0, _, _ => none
  | n + 1, a2, F3 => if (8 : Int32) ≤ a2 then (k a2 F3) else (bnd (c2 + a2) fun (v5 : Int32) => if v5 < 0 then (bnd (a2 + 1) fun (v7 : Int32) => l_X0_restoreFrom_7 c2 k n v7 F3) else (bnd (c2 + a2) fun (v8 : Int32) => if (96 : Int32) ≤ v8 then (bnd (a2 + 1) fun (v10 : Int32) => l_X0_restoreFrom_7 c2 k n v10 F3) else (bnd (c2 + a2) fun (v11 : Int32) => gd (gin v11 96) <| bnd ((dKp F3) (Int32.toNatClampNeg v11)) fun (v13 : Int32) => gd (gin a2 8) <| bnd (a2 + 1) fun (v15 : Int32) => l_X0_restoreFrom_7 c2 k n v15 (sdCn F3 (upd (dCn F3) (Int32.toNatClampNeg a2) v13)))))
noncomputable def f_X0_restoreFrom (D : DK) (p0 : Int32) : Option (DK) := bnd (p0 * 8) fun (v1 : Int32) => l_X0_restoreFrom_7 v1 (fun (a32 : Int32) (F33 : DK) => some F33) 16 0 D
theorem pc_X0_restoreFrom : yX0_restoreFrom.cls = RX0 ∧ yX0_restoreFrom.cls ≠ "java/lang/invoke/MethodHandle" ∧ yX0_restoreFrom.cls ≠ "java/lang/invoke/VarHandle" ∧ (parseMethodDescriptor yX0_restoreFrom.desc).map (fun d => d.parameters.length) = some 1 := by decide +kernel
abbrev rm_X0_restoreFrom : Room := { frames := 1, cells := 0, slots := 0, locals := 21 }
set_option maxHeartbeats 4000000 in
set_option maxRecDepth 100000 in
theorem c_X0_restoreFrom (l : Launch) (dC : Nat → ClassId) (dI : Nat → Nat → Nat) (cI cF cJ cD : ClassId) (q0 q1 q2 q3 : Nat) (D : DK) (p0 : Int32) (res : (DK)) (hf : f_X0_restoreFrom D p0 = some res) (sz : Nat) : Met l yX0_restoreFrom (ws_ yX0_restoreFrom cX0_restoreFrom 4 none) rm_X0_restoreFrom (sbPre (dC, dI) (TY cI cF cJ cD) (wDK cI cF cJ q0 q1 q2 q3 D) E0 sz [.ref q0, .int p0]) (va_Qv (fun (_ : Unit) => True) (sbEnd (dC, dI) (fun _ => wDK cI cF cJ q0 q1 q2 q3 res) (va_A (wDK cI cF cJ q0 q1 q2 q3 D) sz)) (va_A (wDK cI cF cJ q0 q1 q2 q3 D) sz)) 0 0 (va_A (wDK cI cF cJ q0 q1 q2 q3 D) sz) := by
  refine Met.ofW (cc := cX0_restoreFrom) (maxL := 4) (ret := none) (by decide) rfl ?_
  intro p e s m args below meth c s₁ B hml hv
  obtain ⟨rfl, hsz, hP, hK, hD0, hE⟩ := hv
  have hx := B.exec
  have hb := B.bytes
  have hr := B.returns
  have hts0 := atoms_spec (ws := ws_ yX0_restoreFrom cX0_restoreFrom 4 none) B.pre
  have hts := fun (w : Cond) (h : w ∈ LW) => hts0 w (List.mem_cons_of_mem _ h)
  have hown : s.vm.findClass RX0 = some m.cls := findClass_of_methodNamed B.named
  have hlocks := B.notSynchronized
  subst hsz
  have hD := hD0.self (sz := s.heap.size)
  generalize hAe : va_A (wDK cI cF cJ q0 q1 q2 q3 D) s.heap.size = A at hD ⊢
  have hA : ∀ q : Nat, s.heap.size ≤ q → A q := fun q h => by rw [← hAe]; exact Or.inr h
  have hS : va_S A s.heap s.heap [] := va_S.rf
  have hkc := Nat.zero_le rm_X0_restoreFrom.cells
  have hks := Nat.zero_le rm_X0_restoreFrom.slots
  have hl := lv_entry ([.ref q0, .int p0]) (n := 4) (Nat.le_of_ble_eq_true rfl)
  rw [lg_entry_eq]
  generalize (lg_sl ([.ref q0, .int p0]) ++ List.replicate (4 - (lg_sl ([.ref q0, .int p0])).length) Slot.unset).toArray = ls at hl ⊢
  have hl : lv_has ls 4 [(0, .ref q0), (1, .int p0)] := hl
  rw [f_X0_restoreFrom] at hf
  refine lv_iload_n hx hb dX0_restoreFrom_0 rfl (lv_at hl 1 rfl) ?_
  refine lv_bipush (v := 8) hx hb dX0_restoreFrom_1 (by decide) ?_
  refine lv_imul hx hb dX0_restoreFrom_3 ?_
  refine lv_topi (fun v1 ev1 => ?_)
  have hf := bnd_all hf v1 ev1
  refine lv_istore_n (lv' := [(2, .int v1), (0, .ref q0), (1, .int p0)]) hx hb dX0_restoreFrom_4 rfl hl (by decide) rfl (fun ls hl => ?_)
  refine lv_iconst (v := 0) hx hb dX0_restoreFrom_5 (by decide) ?_
  refine lv_istore_n (lv' := [(3, .int 0), (2, .int v1), (0, .ref q0), (1, .int p0)]) hx hb dX0_restoreFrom_6 rfl hl (by decide) rfl (fun ls hl => ?_)
  have L7 : ∀ (k : Int32 → DK → Option (DK)), (∀ (a16 : Int32) (F17 : DK) (H : Heap) (locs : List Loc) (ls : Array Slot), va_P (dC, dI) vwCl (wDK cI cF cJ q0 q1 q2 q3 F17) H → va_D A (wDK cI cF cJ q0 q1 q2 q3 F17) → va_S A s.heap H locs → lv_has ls 4 [] → k a16 F17 = some res → W p l e (headSpec (ws_ yX0_restoreFrom cX0_restoreFrom 4 none) rm_X0_restoreFrom).room s m ([.ref q0, .int p0].toArray) below meth c H locs 0 0 (MQ below (va_Qv (fun (_ : Unit) => True) (sbEnd (dC, dI) (fun _ => wDK cI cF cJ q0 q1 q2 q3 res) (A)) (A)) ([.ref q0, .int p0].toArray) s 0 0 A) (F0 m 53 ls [])) → ∀ (n : Nat) (a16 : Int32) (F17 : DK) (H : Heap) (locs : List Loc) (ls : Array Slot), va_P (dC, dI) vwCl (wDK cI cF cJ q0 q1 q2 q3 F17) H → va_D A (wDK cI cF cJ q0 q1 q2 q3 F17) → va_S A s.heap H locs → lv_has ls 4 [(3, .int a16), (0, .ref q0), (2, .int v1)] → l_X0_restoreFrom_7 v1 k n a16 F17 = some res → W p l e (headSpec (ws_ yX0_restoreFrom cX0_restoreFrom 4 none) rm_X0_restoreFrom).room s m ([.ref q0, .int p0].toArray) below meth c H locs 0 0 (MQ below (va_Qv (fun (_ : Unit) => True) (sbEnd (dC, dI) (fun _ => wDK cI cF cJ q0 q1 q2 q3 res) (A)) (A)) ([.ref q0, .int p0].toArray) s 0 0 A) (F0 m 7 ls []) := by
    intro k hk n
    induction n with
    | zero =>
      intro a18 F19 H locs ls hP hD hS hl hf
      rw [l_X0_restoreFrom_7] at hf
      cases hf
    | succ n ih =>
      intro a18 F19 H locs ls hP hD hS hl hf
      rw [l_X0_restoreFrom_7] at hf
      refine lv_iload_n hx hb dX0_restoreFrom_7 rfl (lv_at hl 0 rfl) ?_
      refine lv_aload_n hx hb dX0_restoreFrom_8 rfl (lv_at hl 1 rfl) ?_
      refine va_get (D := (dC, dI)) (ci := 0) (v := .ref q1) (C := RX0) (T := TX0) (N := 4) hx hb hts iX0 hown hK hP 0 rfl rfl 1 (by decide) (hts _ q5) (fun _ h9 => h9) rfl dX0_restoreFrom_9 ?_
      refine va_alen (v := 8) hx hb hK hP 1 0 rfl rfl rfl dX0_restoreFrom_12 ?_
      refine lv_icmp_ge (tgt := 53) hx hb dX0_restoreFrom_13 (by decide) (fun c20 => ?_) (fun c20 => ?_)
      · have hf := ite_t hf c20
        exact hk a18 F19 _ _ _ hP hD hS (lv_sub hl [] rfl) hf
      · have hf := ite_f hf c20
        refine lv_iload_n hx hb dX0_restoreFrom_16 rfl (lv_at hl 2 rfl) ?_
        refine lv_iload_n hx hb dX0_restoreFrom_17 rfl (lv_at hl 0 rfl) ?_
        refine lv_iadd hx hb dX0_restoreFrom_18 ?_
        refine lv_topi (fun v21 ev21 => ?_)
        have hf := bnd_all hf v21 ev21
        refine lv_if_lt (tgt := 47) hx hb dX0_restoreFrom_19 (by decide) (fun c22 => ?_) (fun c22 => ?_)
        · have hf := ite_t hf c22
          obtain ⟨v23, ev23⟩ : ∃ y : Int32, y = a18 + 1 := ⟨_, rfl⟩
          have hf := bnd_all hf v23 ev23
          refine lv_iinc (v := v23) (lv' := [(3, .int v23), (0, .ref q0), (2, .int v1)]) hx hb dX0_restoreFrom_47 hl (k := 0) rfl (by rw [ev23]; rfl) (by decide) rfl (fun ls hl => ?_)
          refine lv_goto (tgt := 7) hx hb dX0_restoreFrom_50 (by decide) ?_
          exact ih v23 F19 _ _ _ hP hD hS (lv_sub hl [0, 1, 2] rfl) hf
        · have hf := ite_f hf c22
          refine lv_iload_n hx hb dX0_restoreFrom_22 rfl (lv_at hl 2 rfl) ?_
          refine lv_iload_n hx hb dX0_restoreFrom_23 rfl (lv_at hl 0 rfl) ?_
          refine lv_iadd hx hb dX0_restoreFrom_24 ?_
          refine lv_topi (fun v24 ev24 => ?_)
          have hf := bnd_all hf v24 ev24
          refine lv_aload_n hx hb dX0_restoreFrom_25 rfl (lv_at hl 1 rfl) ?_
          refine va_get (D := (dC, dI)) (ci := 0) (v := .ref q3) (C := RX0) (T := TX0) (N := 4) hx hb hts iX0 hown hK hP 0 rfl rfl 3 (by decide) (hts _ q7) (fun _ h9 => h9) rfl dX0_restoreFrom_26 ?_
          refine va_alen (v := 96) hx hb hK hP 3 0 rfl rfl rfl dX0_restoreFrom_29 ?_
          refine lv_icmp_ge (tgt := 47) hx hb dX0_restoreFrom_30 (by decide) (fun c25 => ?_) (fun c25 => ?_)
          · have hf := ite_t hf c25
            obtain ⟨v26, ev26⟩ : ∃ y : Int32, y = a18 + 1 := ⟨_, rfl⟩
            have hf := bnd_all hf v26 ev26
            refine lv_iinc (v := v26) (lv' := [(3, .int v26), (0, .ref q0), (2, .int v1)]) hx hb dX0_restoreFrom_47 hl (k := 0) rfl (by rw [ev26]; rfl) (by decide) rfl (fun ls hl => ?_)
            refine lv_goto (tgt := 7) hx hb dX0_restoreFrom_50 (by decide) ?_
            exact ih v26 F19 _ _ _ hP hD hS (lv_sub hl [0, 1, 2] rfl) hf
          · have hf := ite_f hf c25
            refine lv_aload_n hx hb dX0_restoreFrom_33 rfl (lv_at hl 1 rfl) ?_
            refine va_get (D := (dC, dI)) (ci := 0) (v := .ref q1) (C := RX0) (T := TX0) (N := 4) hx hb hts iX0 hown hK hP 0 rfl rfl 1 (by decide) (hts _ q5) (fun _ h9 => h9) rfl dX0_restoreFrom_34 ?_
            refine lv_iload_n hx hb dX0_restoreFrom_37 rfl (lv_at hl 0 rfl) ?_
            refine lv_aload_n hx hb dX0_restoreFrom_38 rfl (lv_at hl 1 rfl) ?_
            refine va_get (D := (dC, dI)) (ci := 0) (v := .ref q3) (C := RX0) (T := TX0) (N := 4) hx hb hts iX0 hown hK hP 0 rfl rfl 3 (by decide) (hts _ q7) (fun _ h9 => h9) rfl dX0_restoreFrom_39 ?_
            refine lv_iload_n hx hb dX0_restoreFrom_42 rfl (lv_at hl 2 rfl) ?_
            refine lv_iload_n hx hb dX0_restoreFrom_43 rfl (lv_at hl 0 rfl) ?_
            refine lv_iadd hx hb dX0_restoreFrom_44 ?_
            refine lv_topi (fun v27 ev27 => ?_)
            have hf := bnd_all hf v27 ev27
            obtain ⟨g28, hf⟩ := gd_e hf
            refine va_iald hx hb hK hP 3 0 rfl rfl (gin_in g28) dX0_restoreFrom_45 ?_
            refine lv_topi (fun v29 ev29 => ?_)
            have hf := bnd_all hf v29 ev29
            obtain ⟨g30, hf⟩ := gd_e hf
            refine va_iast hx hb hK hP hD hS 1 0 rfl rfl (gin_in g30) dX0_restoreFrom_46 (fun H locs hP hD hS => ?_)
            have hP : va_P (dC, dI) vwCl (wDK cI cF cJ q0 q1 q2 q3 (sdCn F19 (upd (dCn F19) (Int32.toNatClampNeg a18) v29))) H := hP
            have hD : va_D A (wDK cI cF cJ q0 q1 q2 q3 (sdCn F19 (upd (dCn F19) (Int32.toNatClampNeg a18) v29))) := hD
            obtain ⟨v31, ev31⟩ : ∃ y : Int32, y = a18 + 1 := ⟨_, rfl⟩
            have hf := bnd_all hf v31 ev31
            refine lv_iinc (v := v31) (lv' := [(3, .int v31), (0, .ref q0), (2, .int v1)]) hx hb dX0_restoreFrom_47 hl (k := 0) rfl (by rw [ev31]; rfl) (by decide) rfl (fun ls hl => ?_)
            refine lv_goto (tgt := 7) hx hb dX0_restoreFrom_50 (by decide) ?_
            exact ih v31 (sdCn F19 (upd (dCn F19) (Int32.toNatClampNeg a18) v29)) _ _ _ hP hD hS (lv_sub hl [0, 1, 2] rfl) hf
  refine L7 _ (fun a32 F33 H locs ls hP hD hS hl hf => ?_) 16 0 D _ _ _ hP hD hS (lv_sub hl [0, 2, 1] rfl) hf
  obtain rfl := Option.some.inj hf
  exact W.vret hx hb hr (fun t ht hW => ⟨⟨(), rfl, trivial, by rw [ht]; exact hP, hD⟩, hS.F ht⟩) hS.2.2 dX0_restoreFrom_53
noncomputable def l_X0_copyFrom_10 (R1 : DK) (k : Int32 → DK → Option (DK)) : Nat → Int32 → DK → Option (DK)
  | 0, _, _ => none
  | n + 1, a1, F2 => if (8 : Int32) ≤ a1 then (k a1 F2) else (obd (f_X0_countAt R1 a1) fun x4 => gd (gin a1 8) <| bnd (a1 + 1) fun (v6 : Int32) => l_X0_copyFrom_10 R1 k n v6 (sdCn F2 (upd (dCn F2) (Int32.toNatClampNeg a1) x4)))
noncomputable def l_X0_copyFrom_38 (R1 : DK) (k : Int32 → DK → Option (DK)) : Nat → Int32 → DK → Option (DK)
  | 0, _, _ => none
  | n + 1, a17, F18 => if (8 : Int32) ≤ a17 then (k a17 F18) else (obd (f_X0_wearAt R1 a17) fun x20 => gd (gin a17 8) <| bnd (a17 + 1) fun (v22 : Int32) => l_X0_copyFrom_38 R1 k n v22 (sdWe F18 (upd (dWe F18) (Int32.toNatClampNeg a17) x20)))
noncomputable def f_X0_copyFrom (D : DK) (D2 : DK) : Option (DK) := l_X0_copyFrom_10 D2 (fun (a15 : Int32) (F16 : DK) => l_X0_copyFrom_38 D2 (fun (a31 : Int32) (F32 : DK) => some F32) 16 0 F16) 16 0 (sdSz D (dSz D2))
theorem pc_X0_copyFrom : yX0_copyFrom.cls = RX0 ∧ yX0_copyFrom.cls ≠ "java/lang/invoke/MethodHandle" ∧ yX0_copyFrom.cls ≠ "java/lang/invoke/VarHandle" ∧ (parseMethodDescriptor yX0_copyFrom.desc).map (fun d => d.parameters.length) = some 1 := by decide +kernel
abbrev rm_X0_copyFrom : Room := { frames := 2, cells := 0, slots := 0, locals := 42 }
set_option maxHeartbeats 4000000 in
set_option maxRecDepth 100000 in
theorem c_X0_copyFrom (l : Launch) (dC : Nat → ClassId) (dI : Nat → Nat → Nat) (cI cF cJ cD : ClassId) (q0 q1 q2 q3 r0 r1 r2 r3 : Nat) (D : DK) (D2 : DK) (res : (DK)) (hf : f_X0_copyFrom D D2 = some res) (sz : Nat) : Met l yX0_copyFrom (ws_ yX0_copyFrom cX0_copyFrom 3 none) rm_X0_copyFrom (sbPre (dC, dI) (TY cI cF cJ cD) (wDK cI cF cJ q0 q1 q2 q3 D ++ (wDK cI cF cJ r0 r1 r2 r3 D2)) E0 sz [.ref q0, .ref r0]) (va_Qv (fun (_ : Unit) => True) (sbEnd (dC, dI) (fun _ => wDK cI cF cJ q0 q1 q2 q3 res ++ (wDK cI cF cJ r0 r1 r2 r3 D2)) (va_A (wDK cI cF cJ q0 q1 q2 q3 D ++ (wDK cI cF cJ r0 r1 r2 r3 D2)) sz)) (va_A (wDK cI cF cJ q0 q1 q2 q3 D ++ (wDK cI cF cJ r0 r1 r2 r3 D2)) sz)) 0 0 (va_A (wDK cI cF cJ q0 q1 q2 q3 D ++ (wDK cI cF cJ r0 r1 r2 r3 D2)) sz) := by
  refine Met.ofW (cc := cX0_copyFrom) (maxL := 3) (ret := none) (by decide) rfl ?_
  intro p e s m args below meth c s₁ B hml hv
  obtain ⟨rfl, hsz, hP, hK, hD0, hE⟩ := hv
  have hx := B.exec
  have hb := B.bytes
  have hr := B.returns
  have hts0 := atoms_spec (ws := ws_ yX0_copyFrom cX0_copyFrom 3 none) B.pre
  have hts := fun (w : Cond) (h : w ∈ LW) => hts0 w (List.mem_cons_of_mem _ h)
  have hown : s.vm.findClass RX0 = some m.cls := findClass_of_methodNamed B.named
  have hlocks := B.notSynchronized
  subst hsz
  have hD := hD0.self (sz := s.heap.size)
  generalize hAe : va_A (wDK cI cF cJ q0 q1 q2 q3 D ++ (wDK cI cF cJ r0 r1 r2 r3 D2)) s.heap.size = A at hD ⊢
  have hA : ∀ q : Nat, s.heap.size ≤ q → A q := fun q h => by rw [← hAe]; exact Or.inr h
  have hS : va_S A s.heap s.heap [] := va_S.rf
  have hkc := Nat.zero_le rm_X0_copyFrom.cells
  have hks := Nat.zero_le rm_X0_copyFrom.slots
  have hl := lv_entry ([.ref q0, .ref r0]) (n := 3) (Nat.le_of_ble_eq_true rfl)
  rw [lg_entry_eq]
  generalize (lg_sl ([.ref q0, .ref r0]) ++ List.replicate (3 - (lg_sl ([.ref q0, .ref r0])).length) Slot.unset).toArray = ls at hl ⊢
  have hl : lv_has ls 3 [(0, .ref q0), (1, .ref r0)] := hl
  rw [f_X0_copyFrom] at hf
  refine lv_aload_n hx hb dX0_copyFrom_0 rfl (lv_at hl 0 rfl) ?_
  refine lv_aload_n hx hb dX0_copyFrom_1 rfl (lv_at hl 1 rfl) ?_
  refine va_get (D := (dC, dI)) (ci := 0) (v := .int (dSz D2)) (C := RX0) (T := TX0) (N := 4) hx hb hts iX0 hown hK hP 4 rfl rfl 0 (by decide) (hts _ q8) (fun _ h9 => h9) rfl dX0_copyFrom_2 ?_
  refine va_put (D := (dC, dI)) (ci := 0) (v := .int (dSz D2)) (ty := .int) (C := RX0) (T := TX0) (N := 4) hx hb hts iX0 tyX0 tyX0_ok nmX0 hown hK hP hD hS 0 rfl rfl 0 (by decide) (hts _ q8) (fun _ h9 => h9) rfl (by decide +kernel) rfl rfl (Nat.le_of_ble_eq_true rfl) dX0_copyFrom_5 (fun H locs hP hD hS => ?_)
  have hP : va_P (dC, dI) vwCl (wDK cI cF cJ q0 q1 q2 q3 (sdSz D (dSz D2)) ++ (wDK cI cF cJ r0 r1 r2 r3 D2)) H := hP
  have hD : va_D A (wDK cI cF cJ q0 q1 q2 q3 (sdSz D (dSz D2)) ++ (wDK cI cF cJ r0 r1 r2 r3 D2)) := hD
  refine lv_iconst (v := 0) hx hb dX0_copyFrom_8 (by decide) ?_
  refine lv_istore_n (lv' := [(2, .int 0), (0, .ref q0), (1, .ref r0)]) hx hb dX0_copyFrom_9 rfl hl (by decide) rfl (fun ls hl => ?_)
  have L10 : ∀ (k : Int32 → DK → Option (DK)), (∀ (a7 : Int32) (F8 : DK) (H : Heap) (locs : List Loc) (ls : Array Slot), va_P (dC, dI) vwCl (wDK cI cF cJ q0 q1 q2 q3 F8 ++ (wDK cI cF cJ r0 r1 r2 r3 D2)) H → va_D A (wDK cI cF cJ q0 q1 q2 q3 F8 ++ (wDK cI cF cJ r0 r1 r2 r3 D2)) → va_S A s.heap H locs → lv_has ls 3 [(0, .ref q0), (1, .ref r0)] → k a7 F8 = some res → W p l e (headSpec (ws_ yX0_copyFrom cX0_copyFrom 3 none) rm_X0_copyFrom).room s m ([.ref q0, .ref r0].toArray) below meth c H locs 0 0 (MQ below (va_Qv (fun (_ : Unit) => True) (sbEnd (dC, dI) (fun _ => wDK cI cF cJ q0 q1 q2 q3 res ++ (wDK cI cF cJ r0 r1 r2 r3 D2)) (A)) (A)) ([.ref q0, .ref r0].toArray) s 0 0 A) (F0 m 36 ls [])) → ∀ (n : Nat) (a7 : Int32) (F8 : DK) (H : Heap) (locs : List Loc) (ls : Array Slot), va_P (dC, dI) vwCl (wDK cI cF cJ q0 q1 q2 q3 F8 ++ (wDK cI cF cJ r0 r1 r2 r3 D2)) H → va_D A (wDK cI cF cJ q0 q1 q2 q3 F8 ++ (wDK cI cF cJ r0 r1 r2 r3 D2)) → va_S A s.heap H locs → lv_has ls 3 [(2, .int a7), (0, .ref q0), (1, .ref r0)] → l_X0_copyFrom_10 D2 k n a7 F8 = some res → W p l e (headSpec (ws_ yX0_copyFrom cX0_copyFrom 3 none) rm_X0_copyFrom).room s m ([.ref q0, .ref r0].toArray) below meth c H locs 0 0 (MQ below (va_Qv (fun (_ : Unit) => True) (sbEnd (dC, dI) (fun _ => wDK cI cF cJ q0 q1 q2 q3 res ++ (wDK cI cF cJ r0 r1 r2 r3 D2)) (A)) (A)) ([.ref q0, .ref r0].toArray) s 0 0 A) (F0 m 10 ls []) := by
    intro k hk n
    induction n with
    | zero =>
      intro a9 F10 H locs ls hP hD hS hl hf
      rw [l_X0_copyFrom_10] at hf
      cases hf
    | succ n ih =>
      intro a9 F10 H locs ls hP hD hS hl hf
      rw [l_X0_copyFrom_10] at hf
      refine lv_iload_n hx hb dX0_copyFrom_10 rfl (lv_at hl 0 rfl) ?_
      refine lv_aload_n hx hb dX0_copyFrom_11 rfl (lv_at hl 1 rfl) ?_
      refine va_get (D := (dC, dI)) (ci := 0) (v := .ref q1) (C := RX0) (T := TX0) (N := 4) hx hb hts iX0 hown hK hP 0 rfl rfl 1 (by decide) (hts _ q5) (fun _ h9 => h9) rfl dX0_copyFrom_12 ?_
      refine va_alen (v := 8) hx hb hK hP 1 0 rfl rfl rfl dX0_copyFrom_15 ?_
      refine lv_icmp_ge (tgt := 36) hx hb dX0_copyFrom_16 (by decide) (fun c11 => ?_) (fun c11 => ?_)
      · have hf := ite_t hf c11
        exact hk a9 F10 _ _ _ hP hD hS (lv_sub hl [1, 2] rfl) hf
      · have hf := ite_f hf c11
        refine lv_aload_n hx hb dX0_copyFrom_19 rfl (lv_at hl 1 rfl) ?_
        refine va_get (D := (dC, dI)) (ci := 0) (v := .ref q1) (C := RX0) (T := TX0) (N := 4) hx hb hts iX0 hown hK hP 0 rfl rfl 1 (by decide) (hts _ q5) (fun _ h9 => h9) rfl dX0_copyFrom_20 ?_
        refine lv_iload_n hx hb dX0_copyFrom_23 rfl (lv_at hl 0 rfl) ?_
        refine lv_aload_n hx hb dX0_copyFrom_24 rfl (lv_at hl 2 rfl) ?_
        refine lv_iload_n hx hb dX0_copyFrom_25 rfl (lv_at hl 0 rfl) ?_
        obtain ⟨x12, hx12, hf⟩ := obd_e hf
        refine sb_Vi (As := [.int a9]) (rest := [.int a9, .ref q1]) ⟨hx, hb, hml, hown, hts⟩ (fun sz => c_X0_countAt l dC dI cI cF cJ cD r0 r1 r2 r3 D2 a9  x12 hx12 sz) (cwV 1 hts (g_V q17 q18 q19 q15 q9) rfl rfl rfl pc_X0_countAt ⟨Nat.le_of_ble_eq_true rfl, Nat.le_of_ble_eq_true rfl⟩) 0 0 rfl rfl hK hP hD hS hA [4, 5, 6, 7] [0, 1, 2, 3] rfl rfl (by decide) (by decide) (by decide) (fun _ _ _ _ h => h) (fun _ _ _ => trivial) rfl rfl hl.1 (Nat.le_of_ble_eq_true rfl) dX0_copyFrom_26 ⟨hkc, hks⟩ (fun r9 u H locs hr9 hP hD hS => ?_)
        have hr9 := Eq.symm hr9
        subst hr9
        have hP : va_P (dC, dI) vwCl (wDK cI cF cJ q0 q1 q2 q3 F10 ++ (wDK cI cF cJ r0 r1 r2 r3 D2)) H := hP
        have hD : va_D A (wDK cI cF cJ q0 q1 q2 q3 F10 ++ (wDK cI cF cJ r0 r1 r2 r3 D2)) := hD
        obtain ⟨g13, hf⟩ := gd_e hf
        refine va_iast hx hb hK hP hD hS 1 0 rfl rfl (gin_in g13) dX0_copyFrom_29 (fun H locs hP hD hS => ?_)
        have hP : va_P (dC, dI) vwCl (wDK cI cF cJ q0 q1 q2 q3 (sdCn F10 (upd (dCn F10) (Int32.toNatClampNeg a9) x12)) ++ (wDK cI cF cJ r0 r1 r2 r3 D2)) H := hP
        have hD : va_D A (wDK cI cF cJ q0 q1 q2 q3 (sdCn F10 (upd (dCn F10) (Int32.toNatClampNeg a9) x12)) ++ (wDK cI cF cJ r0 r1 r2 r3 D2)) := hD
        obtain ⟨v14, ev14⟩ : ∃ y : Int32, y = a9 + 1 := ⟨_, rfl⟩
        have hf := bnd_all hf v14 ev14
        refine lv_iinc (v := v14) (lv' := [(2, .int v14), (0, .ref q0), (1, .ref r0)]) hx hb dX0_copyFrom_30 hl (k := 0) rfl (by rw [ev14]; rfl) (by decide) rfl (fun ls hl => ?_)
        refine lv_goto (tgt := 10) hx hb dX0_copyFrom_33 (by decide) ?_
        exact ih v14 (sdCn F10 (upd (dCn F10) (Int32.toNatClampNeg a9) x12)) _ _ _ hP hD hS (lv_sub hl [0, 1, 2] rfl) hf
  refine L10 _ (fun a15 F16 H locs ls hP hD hS hl hf => ?_) 16 0 (sdSz D (dSz D2)) _ _ _ hP hD hS (lv_sub hl [0, 1, 2] rfl) hf
  refine lv_iconst (v := 0) hx hb dX0_copyFrom_36 (by decide) ?_
  refine lv_istore_n (lv' := [(2, .int 0), (0, .ref q0), (1, .ref r0)]) hx hb dX0_copyFrom_37 rfl hl (by decide) rfl (fun ls hl => ?_)
  have L38 : ∀ (k : Int32 → DK → Option (DK)), (∀ (a23 : Int32) (F24 : DK) (H : Heap) (locs : List Loc) (ls : Array Slot), va_P (dC, dI) vwCl (wDK cI cF cJ q0 q1 q2 q3 F24 ++ (wDK cI cF cJ r0 r1 r2 r3 D2)) H → va_D A (wDK cI cF cJ q0 q1 q2 q3 F24 ++ (wDK cI cF cJ r0 r1 r2 r3 D2)) → va_S A s.heap H locs → lv_has ls 3 [] → k a23 F24 = some res → W p l e (headSpec (ws_ yX0_copyFrom cX0_copyFrom 3 none) rm_X0_copyFrom).room s m ([.ref q0, .ref r0].toArray) below meth c H locs 0 0 (MQ below (va_Qv (fun (_ : Unit) => True) (sbEnd (dC, dI) (fun _ => wDK cI cF cJ q0 q1 q2 q3 res ++ (wDK cI cF cJ r0 r1 r2 r3 D2)) (A)) (A)) ([.ref q0, .ref r0].toArray) s 0 0 A) (F0 m 64 ls [])) → ∀ (n : Nat) (a23 : Int32) (F24 : DK) (H : Heap) (locs : List Loc) (ls : Array Slot), va_P (dC, dI) vwCl (wDK cI cF cJ q0 q1 q2 q3 F24 ++ (wDK cI cF cJ r0 r1 r2 r3 D2)) H → va_D A (wDK cI cF cJ q0 q1 q2 q3 F24 ++ (wDK cI cF cJ r0 r1 r2 r3 D2)) → va_S A s.heap H locs → lv_has ls 3 [(2, .int a23), (0, .ref q0), (1, .ref r0)] → l_X0_copyFrom_38 D2 k n a23 F24 = some res → W p l e (headSpec (ws_ yX0_copyFrom cX0_copyFrom 3 none) rm_X0_copyFrom).room s m ([.ref q0, .ref r0].toArray) below meth c H locs 0 0 (MQ below (va_Qv (fun (_ : Unit) => True) (sbEnd (dC, dI) (fun _ => wDK cI cF cJ q0 q1 q2 q3 res ++ (wDK cI cF cJ r0 r1 r2 r3 D2)) (A)) (A)) ([.ref q0, .ref r0].toArray) s 0 0 A) (F0 m 38 ls []) := by
    intro k hk n
    induction n with
    | zero =>
      intro a25 F26 H locs ls hP hD hS hl hf
      rw [l_X0_copyFrom_38] at hf
      cases hf
    | succ n ih =>
      intro a25 F26 H locs ls hP hD hS hl hf
      rw [l_X0_copyFrom_38] at hf
      refine lv_iload_n hx hb dX0_copyFrom_38 rfl (lv_at hl 0 rfl) ?_
      refine lv_aload_n hx hb dX0_copyFrom_39 rfl (lv_at hl 1 rfl) ?_
      refine va_get (D := (dC, dI)) (ci := 0) (v := .ref q2) (C := RX0) (T := TX0) (N := 4) hx hb hts iX0 hown hK hP 0 rfl rfl 2 (by decide) (hts _ q6) (fun _ h9 => h9) rfl dX0_copyFrom_40 ?_
      refine va_alen (v := 8) hx hb hK hP 2 0 rfl rfl rfl dX0_copyFrom_43 ?_
      refine lv_icmp_ge (tgt := 64) hx hb dX0_copyFrom_44 (by decide) (fun c27 => ?_) (fun c27 => ?_)
      · have hf := ite_t hf c27
        exact hk a25 F26 _ _ _ hP hD hS (lv_sub hl [] rfl) hf
      · have hf := ite_f hf c27
        refine lv_aload_n hx hb dX0_copyFrom_47 rfl (lv_at hl 1 rfl) ?_
        refine va_get (D := (dC, dI)) (ci := 0) (v := .ref q2) (C := RX0) (T := TX0) (N := 4) hx hb hts iX0 hown hK hP 0 rfl rfl 2 (by decide) (hts _ q6) (fun _ h9 => h9) rfl dX0_copyFrom_48 ?_
        refine lv_iload_n hx hb dX0_copyFrom_51 rfl (lv_at hl 0 rfl) ?_
        refine lv_aload_n hx hb dX0_copyFrom_52 rfl (lv_at hl 2 rfl) ?_
        refine lv_iload_n hx hb dX0_copyFrom_53 rfl (lv_at hl 0 rfl) ?_
        obtain ⟨x28, hx28, hf⟩ := obd_e hf
        refine sb_Vi (As := [.int a25]) (rest := [.int a25, .ref q2]) ⟨hx, hb, hml, hown, hts⟩ (fun sz => c_X0_wearAt l dC dI cI cF cJ cD r0 r1 r2 r3 D2 a25  x28 hx28 sz) (cwV 1 hts (g_V q12 q13 q14 q15 q10) rfl rfl rfl pc_X0_wearAt ⟨Nat.le_of_ble_eq_true rfl, Nat.le_of_ble_eq_true rfl⟩) 0 0 rfl rfl hK hP hD hS hA [4, 5, 6, 7] [0, 1, 2, 3] rfl rfl (by decide) (by decide) (by decide) (fun _ _ _ _ h => h) (fun _ _ _ => trivial) rfl rfl hl.1 (Nat.le_of_ble_eq_true rfl) dX0_copyFrom_54 ⟨hkc, hks⟩ (fun r9 u H locs hr9 hP hD hS => ?_)
        have hr9 := Eq.symm hr9
        subst hr9
        have hP : va_P (dC, dI) vwCl (wDK cI cF cJ q0 q1 q2 q3 F26 ++ (wDK cI cF cJ r0 r1 r2 r3 D2)) H := hP
        have hD : va_D A (wDK cI cF cJ q0 q1 q2 q3 F26 ++ (wDK cI cF cJ r0 r1 r2 r3 D2)) := hD
        obtain ⟨g29, hf⟩ := gd_e hf
        refine va_iast hx hb hK hP hD hS 2 0 rfl rfl (gin_in g29) dX0_copyFrom_57 (fun H locs hP hD hS => ?_)
        have hP : va_P (dC, dI) vwCl (wDK cI cF cJ q0 q1 q2 q3 (sdWe F26 (upd (dWe F26) (Int32.toNatClampNeg a25) x28)) ++ (wDK cI cF cJ r0 r1 r2 r3 D2)) H := hP
        have hD : va_D A (wDK cI cF cJ q0 q1 q2 q3 (sdWe F26 (upd (dWe F26) (Int32.toNatClampNeg a25) x28)) ++ (wDK cI cF cJ r0 r1 r2 r3 D2)) := hD
        obtain ⟨v30, ev30⟩ : ∃ y : Int32, y = a25 + 1 := ⟨_, rfl⟩
        have hf := bnd_all hf v30 ev30
        refine lv_iinc (v := v30) (lv' := [(2, .int v30), (0, .ref q0), (1, .ref r0)]) hx hb dX0_copyFrom_58 hl (k := 0) rfl (by rw [ev30]; rfl) (by decide) rfl (fun ls hl => ?_)
        refine lv_goto (tgt := 38) hx hb dX0_copyFrom_61 (by decide) ?_
        exact ih v30 (sdWe F26 (upd (dWe F26) (Int32.toNatClampNeg a25) x28)) _ _ _ hP hD hS (lv_sub hl [0, 1, 2] rfl) hf
  refine L38 _ (fun a31 F32 H locs ls hP hD hS hl hf => ?_) 16 0 F16 _ _ _ hP hD hS (lv_sub hl [0, 1, 2] rfl) hf
  obtain rfl := Option.some.inj hf
  exact W.vret hx hb hr (fun t ht hW => ⟨⟨(), rfl, trivial, by rw [ht]; exact hP, hD⟩, hS.F ht⟩) hS.2.2 dX0_copyFrom_64
noncomputable def f_X1_keepBeads (F : FR) : Option (FR) := obd (f_X0_keepIn (fAb F) (fNs F)) fun x1 => obd (f_X0_keepIn (fBe F) (fNs F)) fun x2 => bnd ((fNs F) + 1) fun (v3 : Int32) => bnd (v3 - v3 / 12 * 12) fun (v5 : Int32) => if (12 : Int32) ≤ (fKc F) then (some (sfNs (sfBe (sfAb F x1) x2) v5)) else (bnd ((fKc F) + 1) fun (v7 : Int32) => some (sfNs (sfKc (sfBe (sfAb F x1) x2) v7) v5))
theorem pc_X1_keepBeads : yX1_keepBeads.cls = RX1 ∧ yX1_keepBeads.cls ≠ "java/lang/invoke/MethodHandle" ∧ yX1_keepBeads.cls ≠ "java/lang/invoke/VarHandle" ∧ (parseMethodDescriptor yX1_keepBeads.desc).map (fun d => d.parameters.length) = some 0 := by decide +kernel
abbrev rm_X1_keepBeads : Room := { frames := 2, cells := 0, slots := 0, locals := 44 }
set_option maxHeartbeats 4000000 in
set_option maxRecDepth 100000 in
theorem c_X1_keepBeads (l : Launch) (dC : Nat → ClassId) (dI : Nat → Nat → Nat) (cI cF cJ cD : ClassId) (q0 q1 q2 q3 q4 q5 q6 q7 q8 : Nat) (F : FR) (res : (FR)) (hf : f_X1_keepBeads F = some res) (sz : Nat) : Met l yX1_keepBeads (ws_ yX1_keepBeads cX1_keepBeads 1 none) rm_X1_keepBeads (sbPre (dC, dI) (TY cI cF cJ cD) (wFR cI cF cJ q0 q1 q2 q3 q4 q5 q6 q7 q8 F) E0 sz [.ref q0]) (va_Qv (fun (_ : Unit) => True) (sbEnd (dC, dI) (fun _ => wFR cI cF cJ q0 q1 q2 q3 q4 q5 q6 q7 q8 res) (va_A (wFR cI cF cJ q0 q1 q2 q3 q4 q5 q6 q7 q8 F) sz)) (va_A (wFR cI cF cJ q0 q1 q2 q3 q4 q5 q6 q7 q8 F) sz)) 0 0 (va_A (wFR cI cF cJ q0 q1 q2 q3 q4 q5 q6 q7 q8 F) sz) := by
  refine Met.ofW (cc := cX1_keepBeads) (maxL := 1) (ret := none) (by decide) rfl ?_
  intro p e s m args below meth c s₁ B hml hv
  obtain ⟨rfl, hsz, hP, hK, hD0, hE⟩ := hv
  have hx := B.exec
  have hb := B.bytes
  have hr := B.returns
  have hts0 := atoms_spec (ws := ws_ yX1_keepBeads cX1_keepBeads 1 none) B.pre
  have hts := fun (w : Cond) (h : w ∈ LW) => hts0 w (List.mem_cons_of_mem _ h)
  have hown : s.vm.findClass RX1 = some m.cls := findClass_of_methodNamed B.named
  have hlocks := B.notSynchronized
  subst hsz
  have hD := hD0.self (sz := s.heap.size)
  generalize hAe : va_A (wFR cI cF cJ q0 q1 q2 q3 q4 q5 q6 q7 q8 F) s.heap.size = A at hD ⊢
  have hA : ∀ q : Nat, s.heap.size ≤ q → A q := fun q h => by rw [← hAe]; exact Or.inr h
  have hS : va_S A s.heap s.heap [] := va_S.rf
  have hkc := Nat.zero_le rm_X1_keepBeads.cells
  have hks := Nat.zero_le rm_X1_keepBeads.slots
  have hl := lv_entry ([.ref q0]) (n := 1) (Nat.le_of_ble_eq_true rfl)
  rw [lg_entry_eq]
  generalize (lg_sl ([.ref q0]) ++ List.replicate (1 - (lg_sl ([.ref q0])).length) Slot.unset).toArray = ls at hl ⊢
  have hl : lv_has ls 1 [(0, .ref q0)] := hl
  rw [f_X1_keepBeads] at hf
  refine lv_aload_n hx hb dX1_keepBeads_0 rfl (lv_at hl 0 rfl) ?_
  refine va_get (D := (dC, dI)) (ci := 1) (v := .ref q1) (C := RX1) (T := TX1) (N := 13) hx hb hts iX1 hown hK hP 0 rfl rfl 2 (by decide) (hts _ q30) (fun _ h9 => h9) rfl dX1_keepBeads_1 ?_
  refine lv_aload_n hx hb dX1_keepBeads_4 rfl (lv_at hl 0 rfl) ?_
  refine va_get (D := (dC, dI)) (ci := 1) (v := .int (fNs F)) (C := RX1) (T := TX1) (N := 13) hx hb hts iX1 hown hK hP 0 rfl rfl 12 (by decide) (hts _ q103) (fun _ h9 => h9) rfl dX1_keepBeads_5 ?_
  obtain ⟨x1, hx1, hf⟩ := obd_e hf
  refine sb_Vv (As := [.int (fNs F)]) (rest := []) ⟨hx, hb, hml, hown, hts⟩ (fun sz => c_X0_keepIn l dC dI cI cF cJ cD q1 q2 q3 q4 (fAb F) (fNs F)  x1 hx1 sz) (cwV 1 hts (g_V q105 q106 q107 q15 q21) rfl rfl rfl pc_X0_keepIn ⟨Nat.le_of_ble_eq_true rfl, Nat.le_of_ble_eq_true rfl⟩) 0 0 rfl rfl hK hP hD hS hA [1, 2, 3, 4] [0, 5, 6, 7, 8] rfl rfl (by decide) (by decide) (by decide) (fun _ _ _ _ h => h) (fun _ _ _ => trivial) rfl rfl hl.1 (Nat.le_of_ble_eq_true rfl) dX1_keepBeads_8 ⟨hkc, hks⟩ (fun u H locs hr9 hP hD hS => ?_)
  have hP : va_P (dC, dI) vwCl (wFR cI cF cJ q0 q1 q2 q3 q4 q5 q6 q7 q8 (sfAb F x1)) H := hP.sub [0, 5, 6, 7, 8, 1, 2, 3, 4] rfl
  have hD : va_D A (wFR cI cF cJ q0 q1 q2 q3 q4 q5 q6 q7 q8 (sfAb F x1)) := hD.sub [0, 5, 6, 7, 8, 1, 2, 3, 4] (by decide) rfl
  refine lv_aload_n hx hb dX1_keepBeads_11 rfl (lv_at hl 0 rfl) ?_
  refine va_get (D := (dC, dI)) (ci := 1) (v := .ref q5) (C := RX1) (T := TX1) (N := 13) hx hb hts iX1 hown hK hP 0 rfl rfl 3 (by decide) (hts _ q31) (fun _ h9 => h9) rfl dX1_keepBeads_12 ?_
  refine lv_aload_n hx hb dX1_keepBeads_15 rfl (lv_at hl 0 rfl) ?_
  refine va_get (D := (dC, dI)) (ci := 1) (v := .int (fNs F)) (C := RX1) (T := TX1) (N := 13) hx hb hts iX1 hown hK hP 0 rfl rfl 12 (by decide) (hts _ q103) (fun _ h9 => h9) rfl dX1_keepBeads_16 ?_
  obtain ⟨x2, hx2, hf⟩ := obd_e hf
  refine sb_Vv (As := [.int (fNs F)]) (rest := []) ⟨hx, hb, hml, hown, hts⟩ (fun sz => c_X0_keepIn l dC dI cI cF cJ cD q5 q6 q7 q8 (fBe F) (fNs F)  x2 hx2 sz) (cwV 1 hts (g_V q105 q106 q107 q15 q21) rfl rfl rfl pc_X0_keepIn ⟨Nat.le_of_ble_eq_true rfl, Nat.le_of_ble_eq_true rfl⟩) 0 0 rfl rfl hK hP hD hS hA [5, 6, 7, 8] [0, 1, 2, 3, 4] rfl rfl (by decide) (by decide) (by decide) (fun _ _ _ _ h => h) (fun _ _ _ => trivial) rfl rfl hl.1 (Nat.le_of_ble_eq_true rfl) dX1_keepBeads_19 ⟨hkc, hks⟩ (fun u H locs hr9 hP hD hS => ?_)
  have hP : va_P (dC, dI) vwCl (wFR cI cF cJ q0 q1 q2 q3 q4 q5 q6 q7 q8 (sfBe (sfAb F x1) x2)) H := hP
  have hD : va_D A (wFR cI cF cJ q0 q1 q2 q3 q4 q5 q6 q7 q8 (sfBe (sfAb F x1) x2)) := hD
  refine lv_aload_n hx hb dX1_keepBeads_22 rfl (lv_at hl 0 rfl) ?_
  refine lv_aload_n hx hb dX1_keepBeads_23 rfl (lv_at hl 0 rfl) ?_
  refine va_get (D := (dC, dI)) (ci := 1) (v := .int (fNs F)) (C := RX1) (T := TX1) (N := 13) hx hb hts iX1 hown hK hP 0 rfl rfl 12 (by decide) (hts _ q103) (fun _ h9 => h9) rfl dX1_keepBeads_24 ?_
  refine lv_iconst (v := 1) hx hb dX1_keepBeads_27 (by decide) ?_
  refine lv_iadd hx hb dX1_keepBeads_28 ?_
  refine lv_topi (fun v3 ev3 => ?_)
  have hf := bnd_all hf v3 ev3
  refine lv_bipush (v := 12) hx hb dX1_keepBeads_29 (by decide) ?_
  refine lv_irem hx hb dX1_keepBeads_31 (by decide) ?_
  refine lv_topi (fun v5 ev5 => ?_)
  have hf := bnd_all hf v5 ev5
  refine va_put (D := (dC, dI)) (ci := 1) (v := .int v5) (ty := .int) (C := RX1) (T := TX1) (N := 13) hx hb hts iX1 tyX1 tyX1_ok nmX1 hown hK hP hD hS 0 rfl rfl 12 (by decide) (hts _ q103) (fun _ h9 => h9) rfl (by decide +kernel) rfl rfl (Nat.le_of_ble_eq_true rfl) dX1_keepBeads_32 (fun H locs hP hD hS => ?_)
  have hP : va_P (dC, dI) vwCl (wFR cI cF cJ q0 q1 q2 q3 q4 q5 q6 q7 q8 (sfNs (sfBe (sfAb F x1) x2) v5)) H := hP
  have hD : va_D A (wFR cI cF cJ q0 q1 q2 q3 q4 q5 q6 q7 q8 (sfNs (sfBe (sfAb F x1) x2) v5)) := hD
  refine lv_aload_n hx hb dX1_keepBeads_35 rfl (lv_at hl 0 rfl) ?_
  refine va_get (D := (dC, dI)) (ci := 1) (v := .int (fKc F)) (C := RX1) (T := TX1) (N := 13) hx hb hts iX1 hown hK hP 0 rfl rfl 11 (by decide) (hts _ q104) (fun _ h9 => h9) rfl dX1_keepBeads_36 ?_
  refine lv_bipush (v := 12) hx hb dX1_keepBeads_39 (by decide) ?_
  refine lv_icmp_ge (tgt := 54) hx hb dX1_keepBeads_41 (by decide) (fun c6 => ?_) (fun c6 => ?_)
  · have hf := ite_t hf c6
    obtain rfl := Option.some.inj hf
    exact W.vret hx hb hr (fun t ht hW => ⟨⟨(), rfl, trivial, by rw [ht]; exact hP, hD⟩, hS.F ht⟩) hS.2.2 dX1_keepBeads_54
  · have hf := ite_f hf c6
    refine lv_aload_n hx hb dX1_keepBeads_44 rfl (lv_at hl 0 rfl) ?_
    refine lv_dup hx hb dX1_keepBeads_45 rfl ?_
    refine va_get (D := (dC, dI)) (ci := 1) (v := .int (fKc F)) (C := RX1) (T := TX1) (N := 13) hx hb hts iX1 hown hK hP 0 rfl rfl 11 (by decide) (hts _ q104) (fun _ h9 => h9) rfl dX1_keepBeads_46 ?_
    refine lv_iconst (v := 1) hx hb dX1_keepBeads_49 (by decide) ?_
    refine lv_iadd hx hb dX1_keepBeads_50 ?_
    refine lv_topi (fun v7 ev7 => ?_)
    have hf := bnd_all hf v7 ev7
    refine va_put (D := (dC, dI)) (ci := 1) (v := .int v7) (ty := .int) (C := RX1) (T := TX1) (N := 13) hx hb hts iX1 tyX1 tyX1_ok nmX1 hown hK hP hD hS 0 rfl rfl 11 (by decide) (hts _ q104) (fun _ h9 => h9) rfl (by decide +kernel) rfl rfl (Nat.le_of_ble_eq_true rfl) dX1_keepBeads_51 (fun H locs hP hD hS => ?_)
    have hP : va_P (dC, dI) vwCl (wFR cI cF cJ q0 q1 q2 q3 q4 q5 q6 q7 q8 (sfNs (sfKc (sfBe (sfAb F x1) x2) v7) v5)) H := hP
    have hD : va_D A (wFR cI cF cJ q0 q1 q2 q3 q4 q5 q6 q7 q8 (sfNs (sfKc (sfBe (sfAb F x1) x2) v7) v5)) := hD
    obtain rfl := Option.some.inj hf
    exact W.vret hx hb hr (fun t ht hW => ⟨⟨(), rfl, trivial, by rw [ht]; exact hP, hD⟩, hS.F ht⟩) hS.2.2 dX1_keepBeads_54
noncomputable def f_X1_restoreBeads (F : FR) : Option (FR) := bnd ((fNs F) + 12) fun (v1 : Int32) => bnd (v1 - 1) fun (v2 : Int32) => bnd (v2 - v2 / 12 * 12) fun (v4 : Int32) => obd (f_X0_restoreFrom (fAb F) v4) fun x5 => obd (f_X0_restoreFrom (fBe F) v4) fun x6 => bnd ((fKc F) - 1) fun (v7 : Int32) => some (sfNs (sfKc (sfBe (sfAb F x5) x6) v7) v4)
theorem pc_X1_restoreBeads : yX1_restoreBeads.cls = RX1 ∧ yX1_restoreBeads.cls ≠ "java/lang/invoke/MethodHandle" ∧ yX1_restoreBeads.cls ≠ "java/lang/invoke/VarHandle" ∧ (parseMethodDescriptor yX1_restoreBeads.desc).map (fun d => d.parameters.length) = some 0 := by decide +kernel
abbrev rm_X1_restoreBeads : Room := { frames := 2, cells := 0, slots := 0, locals := 44 }
set_option maxHeartbeats 4000000 in
set_option maxRecDepth 100000 in
theorem c_X1_restoreBeads (l : Launch) (dC : Nat → ClassId) (dI : Nat → Nat → Nat) (cI cF cJ cD : ClassId) (q0 q1 q2 q3 q4 q5 q6 q7 q8 : Nat) (F : FR) (res : (FR)) (hf : f_X1_restoreBeads F = some res) (sz : Nat) : Met l yX1_restoreBeads (ws_ yX1_restoreBeads cX1_restoreBeads 1 none) rm_X1_restoreBeads (sbPre (dC, dI) (TY cI cF cJ cD) (wFR cI cF cJ q0 q1 q2 q3 q4 q5 q6 q7 q8 F) E0 sz [.ref q0]) (va_Qv (fun (_ : Unit) => True) (sbEnd (dC, dI) (fun _ => wFR cI cF cJ q0 q1 q2 q3 q4 q5 q6 q7 q8 res) (va_A (wFR cI cF cJ q0 q1 q2 q3 q4 q5 q6 q7 q8 F) sz)) (va_A (wFR cI cF cJ q0 q1 q2 q3 q4 q5 q6 q7 q8 F) sz)) 0 0 (va_A (wFR cI cF cJ q0 q1 q2 q3 q4 q5 q6 q7 q8 F) sz) := by
  refine Met.ofW (cc := cX1_restoreBeads) (maxL := 1) (ret := none) (by decide) rfl ?_
  intro p e s m args below meth c s₁ B hml hv
  obtain ⟨rfl, hsz, hP, hK, hD0, hE⟩ := hv
  have hx := B.exec
  have hb := B.bytes
  have hr := B.returns
  have hts0 := atoms_spec (ws := ws_ yX1_restoreBeads cX1_restoreBeads 1 none) B.pre
  have hts := fun (w : Cond) (h : w ∈ LW) => hts0 w (List.mem_cons_of_mem _ h)
  have hown : s.vm.findClass RX1 = some m.cls := findClass_of_methodNamed B.named
  have hlocks := B.notSynchronized
  subst hsz
  have hD := hD0.self (sz := s.heap.size)
  generalize hAe : va_A (wFR cI cF cJ q0 q1 q2 q3 q4 q5 q6 q7 q8 F) s.heap.size = A at hD ⊢
  have hA : ∀ q : Nat, s.heap.size ≤ q → A q := fun q h => by rw [← hAe]; exact Or.inr h
  have hS : va_S A s.heap s.heap [] := va_S.rf
  have hkc := Nat.zero_le rm_X1_restoreBeads.cells
  have hks := Nat.zero_le rm_X1_restoreBeads.slots
  have hl := lv_entry ([.ref q0]) (n := 1) (Nat.le_of_ble_eq_true rfl)
  rw [lg_entry_eq]
  generalize (lg_sl ([.ref q0]) ++ List.replicate (1 - (lg_sl ([.ref q0])).length) Slot.unset).toArray = ls at hl ⊢
  have hl : lv_has ls 1 [(0, .ref q0)] := hl
  rw [f_X1_restoreBeads] at hf
  refine lv_aload_n hx hb dX1_restoreBeads_0 rfl (lv_at hl 0 rfl) ?_
  refine lv_aload_n hx hb dX1_restoreBeads_1 rfl (lv_at hl 0 rfl) ?_
  refine va_get (D := (dC, dI)) (ci := 1) (v := .int (fNs F)) (C := RX1) (T := TX1) (N := 13) hx hb hts iX1 hown hK hP 0 rfl rfl 12 (by decide) (hts _ q103) (fun _ h9 => h9) rfl dX1_restoreBeads_2 ?_
  refine lv_bipush (v := 12) hx hb dX1_restoreBeads_5 (by decide) ?_
  refine lv_iadd hx hb dX1_restoreBeads_7 ?_
  refine lv_topi (fun v1 ev1 => ?_)
  have hf := bnd_all hf v1 ev1
  refine lv_iconst (v := 1) hx hb dX1_restoreBeads_8 (by decide) ?_
  refine lv_isub hx hb dX1_restoreBeads_9 ?_
  refine lv_topi (fun v2 ev2 => ?_)
  have hf := bnd_all hf v2 ev2
  refine lv_bipush (v := 12) hx hb dX1_restoreBeads_10 (by decide) ?_
  refine lv_irem hx hb dX1_restoreBeads_12 (by decide) ?_
  refine lv_topi (fun v4 ev4 => ?_)
  have hf := bnd_all hf v4 ev4
  refine va_put (D := (dC, dI)) (ci := 1) (v := .int v4) (ty := .int) (C := RX1) (T := TX1) (N := 13) hx hb hts iX1 tyX1 tyX1_ok nmX1 hown hK hP hD hS 0 rfl rfl 12 (by decide) (hts _ q103) (fun _ h9 => h9) rfl (by decide +kernel) rfl rfl (Nat.le_of_ble_eq_true rfl) dX1_restoreBeads_13 (fun H locs hP hD hS => ?_)
  have hP : va_P (dC, dI) vwCl (wFR cI cF cJ q0 q1 q2 q3 q4 q5 q6 q7 q8 (sfNs F v4)) H := hP
  have hD : va_D A (wFR cI cF cJ q0 q1 q2 q3 q4 q5 q6 q7 q8 (sfNs F v4)) := hD
  refine lv_aload_n hx hb dX1_restoreBeads_16 rfl (lv_at hl 0 rfl) ?_
  refine va_get (D := (dC, dI)) (ci := 1) (v := .ref q1) (C := RX1) (T := TX1) (N := 13) hx hb hts iX1 hown hK hP 0 rfl rfl 2 (by decide) (hts _ q30) (fun _ h9 => h9) rfl dX1_restoreBeads_17 ?_
  refine lv_aload_n hx hb dX1_restoreBeads_20 rfl (lv_at hl 0 rfl) ?_
  refine va_get (D := (dC, dI)) (ci := 1) (v := .int v4) (C := RX1) (T := TX1) (N := 13) hx hb hts iX1 hown hK hP 0 rfl rfl 12 (by decide) (hts _ q103) (fun _ h9 => h9) rfl dX1_restoreBeads_21 ?_
  obtain ⟨x5, hx5, hf⟩ := obd_e hf
  refine sb_Vv (As := [.int v4]) (rest := []) ⟨hx, hb, hml, hown, hts⟩ (fun sz => c_X0_restoreFrom l dC dI cI cF cJ cD q1 q2 q3 q4 (fAb F) v4  x5 hx5 sz) (cwV 1 hts (g_V q109 q110 q111 q15 q22) rfl rfl rfl pc_X0_restoreFrom ⟨Nat.le_of_ble_eq_true rfl, Nat.le_of_ble_eq_true rfl⟩) 0 0 rfl rfl hK hP hD hS hA [1, 2, 3, 4] [0, 5, 6, 7, 8] rfl rfl (by decide) (by decide) (by decide) (fun _ _ _ _ h => h) (fun _ _ _ => trivial) rfl rfl hl.1 (Nat.le_of_ble_eq_true rfl) dX1_restoreBeads_24 ⟨hkc, hks⟩ (fun u H locs hr9 hP hD hS => ?_)
  have hP : va_P (dC, dI) vwCl (wFR cI cF cJ q0 q1 q2 q3 q4 q5 q6 q7 q8 (sfNs (sfAb F x5) v4)) H := hP.sub [0, 5, 6, 7, 8, 1, 2, 3, 4] rfl
  have hD : va_D A (wFR cI cF cJ q0 q1 q2 q3 q4 q5 q6 q7 q8 (sfNs (sfAb F x5) v4)) := hD.sub [0, 5, 6, 7, 8, 1, 2, 3, 4] (by decide) rfl
  refine lv_aload_n hx hb dX1_restoreBeads_27 rfl (lv_at hl 0 rfl) ?_
  refine va_get (D := (dC, dI)) (ci := 1) (v := .ref q5) (C := RX1) (T := TX1) (N := 13) hx hb hts iX1 hown hK hP 0 rfl rfl 3 (by decide) (hts _ q31) (fun _ h9 => h9) rfl dX1_restoreBeads_28 ?_
  refine lv_aload_n hx hb dX1_restoreBeads_31 rfl (lv_at hl 0 rfl) ?_
  refine va_get (D := (dC, dI)) (ci := 1) (v := .int v4) (C := RX1) (T := TX1) (N := 13) hx hb hts iX1 hown hK hP 0 rfl rfl 12 (by decide) (hts _ q103) (fun _ h9 => h9) rfl dX1_restoreBeads_32 ?_
  obtain ⟨x6, hx6, hf⟩ := obd_e hf
  refine sb_Vv (As := [.int v4]) (rest := []) ⟨hx, hb, hml, hown, hts⟩ (fun sz => c_X0_restoreFrom l dC dI cI cF cJ cD q5 q6 q7 q8 (fBe F) v4  x6 hx6 sz) (cwV 1 hts (g_V q109 q110 q111 q15 q22) rfl rfl rfl pc_X0_restoreFrom ⟨Nat.le_of_ble_eq_true rfl, Nat.le_of_ble_eq_true rfl⟩) 0 0 rfl rfl hK hP hD hS hA [5, 6, 7, 8] [0, 1, 2, 3, 4] rfl rfl (by decide) (by decide) (by decide) (fun _ _ _ _ h => h) (fun _ _ _ => trivial) rfl rfl hl.1 (Nat.le_of_ble_eq_true rfl) dX1_restoreBeads_35 ⟨hkc, hks⟩ (fun u H locs hr9 hP hD hS => ?_)
  have hP : va_P (dC, dI) vwCl (wFR cI cF cJ q0 q1 q2 q3 q4 q5 q6 q7 q8 (sfNs (sfBe (sfAb F x5) x6) v4)) H := hP
  have hD : va_D A (wFR cI cF cJ q0 q1 q2 q3 q4 q5 q6 q7 q8 (sfNs (sfBe (sfAb F x5) x6) v4)) := hD
  refine lv_aload_n hx hb dX1_restoreBeads_38 rfl (lv_at hl 0 rfl) ?_
  refine lv_dup hx hb dX1_restoreBeads_39 rfl ?_
  refine va_get (D := (dC, dI)) (ci := 1) (v := .int (fKc F)) (C := RX1) (T := TX1) (N := 13) hx hb hts iX1 hown hK hP 0 rfl rfl 11 (by decide) (hts _ q104) (fun _ h9 => h9) rfl dX1_restoreBeads_40 ?_
  refine lv_iconst (v := 1) hx hb dX1_restoreBeads_43 (by decide) ?_
  refine lv_isub hx hb dX1_restoreBeads_44 ?_
  refine lv_topi (fun v7 ev7 => ?_)
  have hf := bnd_all hf v7 ev7
  refine va_put (D := (dC, dI)) (ci := 1) (v := .int v7) (ty := .int) (C := RX1) (T := TX1) (N := 13) hx hb hts iX1 tyX1 tyX1_ok nmX1 hown hK hP hD hS 0 rfl rfl 11 (by decide) (hts _ q104) (fun _ h9 => h9) rfl (by decide +kernel) rfl rfl (Nat.le_of_ble_eq_true rfl) dX1_restoreBeads_45 (fun H locs hP hD hS => ?_)
  have hP : va_P (dC, dI) vwCl (wFR cI cF cJ q0 q1 q2 q3 q4 q5 q6 q7 q8 (sfNs (sfKc (sfBe (sfAb F x5) x6) v7) v4)) H := hP
  have hD : va_D A (wFR cI cF cJ q0 q1 q2 q3 q4 q5 q6 q7 q8 (sfNs (sfKc (sfBe (sfAb F x5) x6) v7) v4)) := hD
  obtain rfl := Option.some.inj hf
  exact W.vret hx hb hr (fun t ht hW => ⟨⟨(), rfl, trivial, by rw [ht]; exact hP, hD⟩, hS.F ht⟩) hS.2.2 dX1_restoreBeads_48
noncomputable def f_X1_greaseRod (F : FR) (p0 : Int32) : Option (Int32 × FR) := obd (f_X0_wearAt (fAb F) p0) fun x1 => obd (f_X0_wearAt (fBe F) p0) fun x2 => bnd (x1 + x2) fun (v3 : Int32) => obd (f_X0_freshen (fAb F) p0) fun x4 => obd (f_X0_freshen (fBe F) p0) fun x5 => gd (nn32 (FP.fadd (fSe F) FP.fconst2)) <| bnd (FP.fadd (fSe F) FP.fconst2) fun (v7 : UInt32) => some (v3, (sfSe (sfBe (sfAb F x4) x5) v7))
theorem pc_X1_greaseRod : yX1_greaseRod.cls = RX1 ∧ yX1_greaseRod.cls ≠ "java/lang/invoke/MethodHandle" ∧ yX1_greaseRod.cls ≠ "java/lang/invoke/VarHandle" ∧ (parseMethodDescriptor yX1_greaseRod.desc).map (fun d => d.parameters.length) = some 1 := by decide +kernel
abbrev rm_X1_greaseRod : Room := { frames := 2, cells := 0, slots := 0, locals := 42 }
set_option maxHeartbeats 4000000 in
set_option maxRecDepth 100000 in
theorem c_X1_greaseRod (l : Launch) (dC : Nat → ClassId) (dI : Nat → Nat → Nat) (cI cF cJ cD : ClassId) (q0 q1 q2 q3 q4 q5 q6 q7 q8 : Nat) (F : FR) (p0 : Int32) (res : (Int32 × FR)) (hf : f_X1_greaseRod F p0 = some res) (sz : Nat) : Met l yX1_greaseRod (ws_ yX1_greaseRod cX1_greaseRod 3 (some .int)) rm_X1_greaseRod (sbPre (dC, dI) (TY cI cF cJ cD) (wFR cI cF cJ q0 q1 q2 q3 q4 q5 q6 q7 q8 F) E0 sz [.ref q0, .int p0]) (va_Qi (fun (r : Int32) (_ : Unit) => r = res.1) (sbEnd (dC, dI) (fun _ => wFR cI cF cJ q0 q1 q2 q3 q4 q5 q6 q7 q8 res.2) (va_A (wFR cI cF cJ q0 q1 q2 q3 q4 q5 q6 q7 q8 F) sz)) (va_A (wFR cI cF cJ q0 q1 q2 q3 q4 q5 q6 q7 q8 F) sz)) 0 0 (va_A (wFR cI cF cJ q0 q1 q2 q3 q4 q5 q6 q7 q8 F) sz) := by
  refine Met.ofW (cc := cX1_greaseRod) (maxL := 3) (ret := (some .int)) (by decide) rfl ?_
  intro p e s m args below meth c s₁ B hml hv
  obtain ⟨rfl, hsz, hP, hK, hD0, hE⟩ := hv
  have hx := B.exec
  have hb := B.bytes
  have hr := B.returns
  have hts0 := atoms_spec (ws := ws_ yX1_greaseRod cX1_greaseRod 3 (some .int)) B.pre
  have hts := fun (w : Cond) (h : w ∈ LW) => hts0 w (List.mem_cons_of_mem _ h)
  have hown : s.vm.findClass RX1 = some m.cls := findClass_of_methodNamed B.named
  have hlocks := B.notSynchronized
  subst hsz
  have hD := hD0.self (sz := s.heap.size)
  generalize hAe : va_A (wFR cI cF cJ q0 q1 q2 q3 q4 q5 q6 q7 q8 F) s.heap.size = A at hD ⊢
  have hA : ∀ q : Nat, s.heap.size ≤ q → A q := fun q h => by rw [← hAe]; exact Or.inr h
  have hS : va_S A s.heap s.heap [] := va_S.rf
  have hkc := Nat.zero_le rm_X1_greaseRod.cells
  have hks := Nat.zero_le rm_X1_greaseRod.slots
  have hl := lv_entry ([.ref q0, .int p0]) (n := 3) (Nat.le_of_ble_eq_true rfl)
  rw [lg_entry_eq]
  generalize (lg_sl ([.ref q0, .int p0]) ++ List.replicate (3 - (lg_sl ([.ref q0, .int p0])).length) Slot.unset).toArray = ls at hl ⊢
  have hl : lv_has ls 3 [(0, .ref q0), (1, .int p0)] := hl
  rw [f_X1_greaseRod] at hf
  refine lv_aload_n hx hb dX1_greaseRod_0 rfl (lv_at hl 0 rfl) ?_
  refine va_get (D := (dC, dI)) (ci := 1) (v := .ref q1) (C := RX1) (T := TX1) (N := 13) hx hb hts iX1 hown hK hP 0 rfl rfl 2 (by decide) (hts _ q30) (fun _ h9 => h9) rfl dX1_greaseRod_1 ?_
  refine lv_iload_n hx hb dX1_greaseRod_4 rfl (lv_at hl 1 rfl) ?_
  obtain ⟨x1, hx1, hf⟩ := obd_e hf
  refine sb_Vi (As := [.int p0]) (rest := []) ⟨hx, hb, hml, hown, hts⟩ (fun sz => c_X0_wearAt l dC dI cI cF cJ cD q1 q2 q3 q4 (fAb F) p0  x1 hx1 sz) (cwV 1 hts (g_V q113 q13 q14 q15 q10) rfl rfl rfl pc_X0_wearAt ⟨Nat.le_of_ble_eq_true rfl, Nat.le_of_ble_eq_true rfl⟩) 0 0 rfl rfl hK hP hD hS hA [1, 2, 3, 4] [0, 5, 6, 7, 8] rfl rfl (by decide) (by decide) (by decide) (fun _ _ _ _ h => h) (fun _ _ _ => trivial) rfl rfl hl.1 (Nat.le_of_ble_eq_true rfl) dX1_greaseRod_5 ⟨hkc, hks⟩ (fun r9 u H locs hr9 hP hD hS => ?_)
  have hr9 := Eq.symm hr9
  subst hr9
  have hP : va_P (dC, dI) vwCl (wFR cI cF cJ q0 q1 q2 q3 q4 q5 q6 q7 q8 F) H := hP.sub [0, 5, 6, 7, 8, 1, 2, 3, 4] rfl
  have hD : va_D A (wFR cI cF cJ q0 q1 q2 q3 q4 q5 q6 q7 q8 F) := hD.sub [0, 5, 6, 7, 8, 1, 2, 3, 4] (by decide) rfl
  refine lv_aload_n hx hb dX1_greaseRod_8 rfl (lv_at hl 0 rfl) ?_
  refine va_get (D := (dC, dI)) (ci := 1) (v := .ref q5) (C := RX1) (T := TX1) (N := 13) hx hb hts iX1 hown hK hP 0 rfl rfl 3 (by decide) (hts _ q31) (fun _ h9 => h9) rfl dX1_greaseRod_9 ?_
  refine lv_iload_n hx hb dX1_greaseRod_12 rfl (lv_at hl 1 rfl) ?_
  obtain ⟨x2, hx2, hf⟩ := obd_e hf
  refine sb_Vi (As := [.int p0]) (rest := [.int x1]) ⟨hx, hb, hml, hown, hts⟩ (fun sz => c_X0_wearAt l dC dI cI cF cJ cD q5 q6 q7 q8 (fBe F) p0  x2 hx2 sz) (cwV 1 hts (g_V q113 q13 q14 q15 q10) rfl rfl rfl pc_X0_wearAt ⟨Nat.le_of_ble_eq_true rfl, Nat.le_of_ble_eq_true rfl⟩) 0 0 rfl rfl hK hP hD hS hA [5, 6, 7, 8] [0, 1, 2, 3, 4] rfl rfl (by decide) (by decide) (by decide) (fun _ _ _ _ h => h) (fun _ _ _ => trivial) rfl rfl hl.1 (Nat.le_of_ble_eq_true rfl) dX1_greaseRod_13 ⟨hkc, hks⟩ (fun r9 u H locs hr9 hP hD hS => ?_)
  have hr9 := Eq.symm hr9
  subst hr9
  have hP : va_P (dC, dI) vwCl (wFR cI cF cJ q0 q1 q2 q3 q4 q5 q6 q7 q8 F) H := hP
  have hD : va_D A (wFR cI cF cJ q0 q1 q2 q3 q4 q5 q6 q7 q8 F) := hD
  refine lv_iadd hx hb dX1_greaseRod_16 ?_
  refine lv_topi (fun v3 ev3 => ?_)
  have hf := bnd_all hf v3 ev3
  refine lv_istore_n (lv' := [(2, .int v3), (0, .ref q0), (1, .int p0)]) hx hb dX1_greaseRod_17 rfl hl (by decide) rfl (fun ls hl => ?_)
  refine lv_aload_n hx hb dX1_greaseRod_18 rfl (lv_at hl 1 rfl) ?_
  refine va_get (D := (dC, dI)) (ci := 1) (v := .ref q1) (C := RX1) (T := TX1) (N := 13) hx hb hts iX1 hown hK hP 0 rfl rfl 2 (by decide) (hts _ q30) (fun _ h9 => h9) rfl dX1_greaseRod_19 ?_
  refine lv_iload_n hx hb dX1_greaseRod_22 rfl (lv_at hl 2 rfl) ?_
  obtain ⟨x4, hx4, hf⟩ := obd_e hf
  refine sb_Vv (As := [.int p0]) (rest := []) ⟨hx, hb, hml, hown, hts⟩ (fun sz => c_X0_freshen l dC dI cI cF cJ cD q1 q2 q3 q4 (fAb F) p0  x4 hx4 sz) (cwV 1 hts (g_V q114 q115 q116 q15 q20) rfl rfl rfl pc_X0_freshen ⟨Nat.le_of_ble_eq_true rfl, Nat.le_of_ble_eq_true rfl⟩) 0 0 rfl rfl hK hP hD hS hA [1, 2, 3, 4] [0, 5, 6, 7, 8] rfl rfl (by decide) (by decide) (by decide) (fun _ _ _ _ h => h) (fun _ _ _ => trivial) rfl rfl hl.1 (Nat.le_of_ble_eq_true rfl) dX1_greaseRod_23 ⟨hkc, hks⟩ (fun u H locs hr9 hP hD hS => ?_)
  have hP : va_P (dC, dI) vwCl (wFR cI cF cJ q0 q1 q2 q3 q4 q5 q6 q7 q8 (sfAb F x4)) H := hP.sub [0, 5, 6, 7, 8, 1, 2, 3, 4] rfl
  have hD : va_D A (wFR cI cF cJ q0 q1 q2 q3 q4 q5 q6 q7 q8 (sfAb F x4)) := hD.sub [0, 5, 6, 7, 8, 1, 2, 3, 4] (by decide) rfl
  refine lv_aload_n hx hb dX1_greaseRod_26 rfl (lv_at hl 1 rfl) ?_
  refine va_get (D := (dC, dI)) (ci := 1) (v := .ref q5) (C := RX1) (T := TX1) (N := 13) hx hb hts iX1 hown hK hP 0 rfl rfl 3 (by decide) (hts _ q31) (fun _ h9 => h9) rfl dX1_greaseRod_27 ?_
  refine lv_iload_n hx hb dX1_greaseRod_30 rfl (lv_at hl 2 rfl) ?_
  obtain ⟨x5, hx5, hf⟩ := obd_e hf
  refine sb_Vv (As := [.int p0]) (rest := []) ⟨hx, hb, hml, hown, hts⟩ (fun sz => c_X0_freshen l dC dI cI cF cJ cD q5 q6 q7 q8 (fBe F) p0  x5 hx5 sz) (cwV 1 hts (g_V q114 q115 q116 q15 q20) rfl rfl rfl pc_X0_freshen ⟨Nat.le_of_ble_eq_true rfl, Nat.le_of_ble_eq_true rfl⟩) 0 0 rfl rfl hK hP hD hS hA [5, 6, 7, 8] [0, 1, 2, 3, 4] rfl rfl (by decide) (by decide) (by decide) (fun _ _ _ _ h => h) (fun _ _ _ => trivial) rfl rfl hl.1 (Nat.le_of_ble_eq_true rfl) dX1_greaseRod_31 ⟨hkc, hks⟩ (fun u H locs hr9 hP hD hS => ?_)
  have hP : va_P (dC, dI) vwCl (wFR cI cF cJ q0 q1 q2 q3 q4 q5 q6 q7 q8 (sfBe (sfAb F x4) x5)) H := hP
  have hD : va_D A (wFR cI cF cJ q0 q1 q2 q3 q4 q5 q6 q7 q8 (sfBe (sfAb F x4) x5)) := hD
  refine lv_aload_n hx hb dX1_greaseRod_34 rfl (lv_at hl 1 rfl) ?_
  refine lv_aload_n hx hb dX1_greaseRod_35 rfl (lv_at hl 1 rfl) ?_
  refine va_get (D := (dC, dI)) (ci := 1) (v := .float (fSe F)) (C := RX1) (T := TX1) (N := 13) hx hb hts iX1 hown hK hP 0 rfl rfl 5 (by decide) (hts _ q35) (fun _ h9 => h9) rfl dX1_greaseRod_36 ?_
  refine lv_fconst2 hx hb dX1_greaseRod_39 ?_
  obtain ⟨g6, hf⟩ := gd_e hf
  refine lv_fadd hx hb dX1_greaseRod_40 (nn32_e g6) ?_
  refine lv_topf (fun v7 ev7 => ?_)
  have hf := bnd_all hf v7 ev7
  refine va_put (D := (dC, dI)) (ci := 1) (v := .float v7) (ty := .float) (C := RX1) (T := TX1) (N := 13) hx hb hts iX1 tyX1 tyX1_ok nmX1 hown hK hP hD hS 0 rfl rfl 5 (by decide) (hts _ q35) (fun _ h9 => h9) rfl (by decide +kernel) rfl rfl (Nat.le_of_ble_eq_true rfl) dX1_greaseRod_41 (fun H locs hP hD hS => ?_)
  have hP : va_P (dC, dI) vwCl (wFR cI cF cJ q0 q1 q2 q3 q4 q5 q6 q7 q8 (sfSe (sfBe (sfAb F x4) x5) v7)) H := hP
  have hD : va_D A (wFR cI cF cJ q0 q1 q2 q3 q4 q5 q6 q7 q8 (sfSe (sfBe (sfAb F x4) x5) v7)) := hD
  refine lv_iload_n hx hb dX1_greaseRod_44 rfl (lv_at hl 0 rfl) ?_
  obtain rfl := Option.some.inj hf
  exact W.iret (v := v3) hx hb hr (fun t ht hW => ⟨⟨_, (), rfl, rfl, by rw [ht]; exact hP, hD⟩, hS.F ht⟩) hS.2.2 dX1_greaseRod_45
noncomputable def f_X1_copyFrom (F : FR) (F2 : FR) : Option (FR) := obd (f_X0_copyFrom (fAb F) (fAb F2)) fun x1 => obd (f_X0_copyFrom (fBe F) (fBe F2)) fun x2 => some (sfSp (sfLo (sfCa (sfBd (sfPu (sfSe (sfHa (sfBe (sfAb (sfRd (sfKd F (fKd F2)) (fRd F2)) x1) x2) (fHa F2)) (fSe F2)) (fPu F2)) (fBd F2)) (fCa F2)) (fLo F2)) (fSp F2))
theorem pc_X1_copyFrom : yX1_copyFrom.cls = RX1 ∧ yX1_copyFrom.cls ≠ "java/lang/invoke/MethodHandle" ∧ yX1_copyFrom.cls ≠ "java/lang/invoke/VarHandle" ∧ (parseMethodDescriptor yX1_copyFrom.desc).map (fun d => d.parameters.length) = some 1 := by decide +kernel
abbrev rm_X1_copyFrom : Room := { frames := 3, cells := 0, slots := 0, locals := 64 }
set_option maxHeartbeats 4000000 in
set_option maxRecDepth 100000 in
theorem c_X1_copyFrom (l : Launch) (dC : Nat → ClassId) (dI : Nat → Nat → Nat) (cI cF cJ cD : ClassId) (q0 q1 q2 q3 q4 q5 q6 q7 q8 r0 r1 r2 r3 r4 r5 r6 r7 r8 : Nat) (F : FR) (F2 : FR) (res : (FR)) (hf : f_X1_copyFrom F F2 = some res) (sz : Nat) : Met l yX1_copyFrom (ws_ yX1_copyFrom cX1_copyFrom 2 none) rm_X1_copyFrom (sbPre (dC, dI) (TY cI cF cJ cD) (wFR cI cF cJ q0 q1 q2 q3 q4 q5 q6 q7 q8 F ++ (wFR cI cF cJ r0 r1 r2 r3 r4 r5 r6 r7 r8 F2)) E0 sz [.ref q0, .ref r0]) (va_Qv (fun (_ : Unit) => True) (sbEnd (dC, dI) (fun _ => wFR cI cF cJ q0 q1 q2 q3 q4 q5 q6 q7 q8 res ++ (wFR cI cF cJ r0 r1 r2 r3 r4 r5 r6 r7 r8 F2)) (va_A (wFR cI cF cJ q0 q1 q2 q3 q4 q5 q6 q7 q8 F ++ (wFR cI cF cJ r0 r1 r2 r3 r4 r5 r6 r7 r8 F2)) sz)) (va_A (wFR cI cF cJ q0 q1 q2 q3 q4 q5 q6 q7 q8 F ++ (wFR cI cF cJ r0 r1 r2 r3 r4 r5 r6 r7 r8 F2)) sz)) 0 0 (va_A (wFR cI cF cJ q0 q1 q2 q3 q4 q5 q6 q7 q8 F ++ (wFR cI cF cJ r0 r1 r2 r3 r4 r5 r6 r7 r8 F2)) sz) := by
  refine Met.ofW (cc := cX1_copyFrom) (maxL := 2) (ret := none) (by decide) rfl ?_
  intro p e s m args below meth c s₁ B hml hv
  obtain ⟨rfl, hsz, hP, hK, hD0, hE⟩ := hv
  have hx := B.exec
  have hb := B.bytes
  have hr := B.returns
  have hts0 := atoms_spec (ws := ws_ yX1_copyFrom cX1_copyFrom 2 none) B.pre
  have hts := fun (w : Cond) (h : w ∈ LW) => hts0 w (List.mem_cons_of_mem _ h)
  have hown : s.vm.findClass RX1 = some m.cls := findClass_of_methodNamed B.named
  have hlocks := B.notSynchronized
  subst hsz
  have hD := hD0.self (sz := s.heap.size)
  generalize hAe : va_A (wFR cI cF cJ q0 q1 q2 q3 q4 q5 q6 q7 q8 F ++ (wFR cI cF cJ r0 r1 r2 r3 r4 r5 r6 r7 r8 F2)) s.heap.size = A at hD ⊢
  have hA : ∀ q : Nat, s.heap.size ≤ q → A q := fun q h => by rw [← hAe]; exact Or.inr h
  have hS : va_S A s.heap s.heap [] := va_S.rf
  have hkc := Nat.zero_le rm_X1_copyFrom.cells
  have hks := Nat.zero_le rm_X1_copyFrom.slots
  have hl := lv_entry ([.ref q0, .ref r0]) (n := 2) (Nat.le_of_ble_eq_true rfl)
  rw [lg_entry_eq]
  generalize (lg_sl ([.ref q0, .ref r0]) ++ List.replicate (2 - (lg_sl ([.ref q0, .ref r0])).length) Slot.unset).toArray = ls at hl ⊢
  have hl : lv_has ls 2 [(0, .ref q0), (1, .ref r0)] := hl
  rw [f_X1_copyFrom] at hf
  refine lv_aload_n hx hb dX1_copyFrom_0 rfl (lv_at hl 0 rfl) ?_
  refine lv_aload_n hx hb dX1_copyFrom_1 rfl (lv_at hl 1 rfl) ?_
  refine va_get (D := (dC, dI)) (ci := 1) (v := .int (fKd F2)) (C := RX1) (T := TX1) (N := 13) hx hb hts iX1 hown hK hP 9 rfl rfl 0 (by decide) (hts _ q26) (fun _ h9 => h9) rfl dX1_copyFrom_2 ?_
  refine va_put (D := (dC, dI)) (ci := 1) (v := .int (fKd F2)) (ty := .int) (C := RX1) (T := TX1) (N := 13) hx hb hts iX1 tyX1 tyX1_ok nmX1 hown hK hP hD hS 0 rfl rfl 0 (by decide) (hts _ q26) (fun _ h9 => h9) rfl (by decide +kernel) rfl rfl (Nat.le_of_ble_eq_true rfl) dX1_copyFrom_5 (fun H locs hP hD hS => ?_)
  have hP : va_P (dC, dI) vwCl (wFR cI cF cJ q0 q1 q2 q3 q4 q5 q6 q7 q8 (sfKd F (fKd F2)) ++ (wFR cI cF cJ r0 r1 r2 r3 r4 r5 r6 r7 r8 F2)) H := hP
  have hD : va_D A (wFR cI cF cJ q0 q1 q2 q3 q4 q5 q6 q7 q8 (sfKd F (fKd F2)) ++ (wFR cI cF cJ r0 r1 r2 r3 r4 r5 r6 r7 r8 F2)) := hD
  refine lv_aload_n hx hb dX1_copyFrom_8 rfl (lv_at hl 0 rfl) ?_
  refine lv_aload_n hx hb dX1_copyFrom_9 rfl (lv_at hl 1 rfl) ?_
  refine va_get (D := (dC, dI)) (ci := 1) (v := .int (fRd F2)) (C := RX1) (T := TX1) (N := 13) hx hb hts iX1 hown hK hP 9 rfl rfl 1 (by decide) (hts _ q27) (fun _ h9 => h9) rfl dX1_copyFrom_10 ?_
  refine va_put (D := (dC, dI)) (ci := 1) (v := .int (fRd F2)) (ty := .int) (C := RX1) (T := TX1) (N := 13) hx hb hts iX1 tyX1 tyX1_ok nmX1 hown hK hP hD hS 0 rfl rfl 1 (by decide) (hts _ q27) (fun _ h9 => h9) rfl (by decide +kernel) rfl rfl (Nat.le_of_ble_eq_true rfl) dX1_copyFrom_13 (fun H locs hP hD hS => ?_)
  have hP : va_P (dC, dI) vwCl (wFR cI cF cJ q0 q1 q2 q3 q4 q5 q6 q7 q8 (sfRd (sfKd F (fKd F2)) (fRd F2)) ++ (wFR cI cF cJ r0 r1 r2 r3 r4 r5 r6 r7 r8 F2)) H := hP
  have hD : va_D A (wFR cI cF cJ q0 q1 q2 q3 q4 q5 q6 q7 q8 (sfRd (sfKd F (fKd F2)) (fRd F2)) ++ (wFR cI cF cJ r0 r1 r2 r3 r4 r5 r6 r7 r8 F2)) := hD
  refine lv_aload_n hx hb dX1_copyFrom_16 rfl (lv_at hl 0 rfl) ?_
  refine va_get (D := (dC, dI)) (ci := 1) (v := .ref q1) (C := RX1) (T := TX1) (N := 13) hx hb hts iX1 hown hK hP 0 rfl rfl 2 (by decide) (hts _ q30) (fun _ h9 => h9) rfl dX1_copyFrom_17 ?_
  refine lv_aload_n hx hb dX1_copyFrom_20 rfl (lv_at hl 1 rfl) ?_
  refine va_get (D := (dC, dI)) (ci := 1) (v := .ref r1) (C := RX1) (T := TX1) (N := 13) hx hb hts iX1 hown hK hP 9 rfl rfl 2 (by decide) (hts _ q30) (fun _ h9 => h9) rfl dX1_copyFrom_21 ?_
  obtain ⟨x1, hx1, hf⟩ := obd_e hf
  refine sb_Vv (As := [.ref r1]) (rest := []) ⟨hx, hb, hml, hown, hts⟩ (fun sz => c_X0_copyFrom l dC dI cI cF cJ cD q1 q2 q3 q4 r1 r2 r3 r4 (fAb F) (fAb F2)  x1 hx1 sz) (cwV 1 hts (g_V q41 q42 q43 q15 q23) rfl rfl rfl pc_X0_copyFrom ⟨Nat.le_of_ble_eq_true rfl, Nat.le_of_ble_eq_true rfl⟩) 0 0 rfl rfl hK hP hD hS hA [1, 2, 3, 4, 10, 11, 12, 13] [0, 5, 6, 7, 8, 9, 14, 15, 16, 17] rfl rfl (by decide) (by decide) (by decide) (fun _ _ _ _ h => h) (fun _ _ _ => trivial) rfl rfl hl.1 (Nat.le_of_ble_eq_true rfl) dX1_copyFrom_24 ⟨hkc, hks⟩ (fun u H locs hr9 hP hD hS => ?_)
  have hP : va_P (dC, dI) vwCl (wFR cI cF cJ q0 q1 q2 q3 q4 q5 q6 q7 q8 (sfAb (sfRd (sfKd F (fKd F2)) (fRd F2)) x1) ++ (wFR cI cF cJ r0 r1 r2 r3 r4 r5 r6 r7 r8 F2)) H := hP.sub [0, 10, 11, 12, 13, 1, 2, 3, 4, 5, 14, 15, 16, 17, 6, 7, 8, 9] rfl
  have hD : va_D A (wFR cI cF cJ q0 q1 q2 q3 q4 q5 q6 q7 q8 (sfAb (sfRd (sfKd F (fKd F2)) (fRd F2)) x1) ++ (wFR cI cF cJ r0 r1 r2 r3 r4 r5 r6 r7 r8 F2)) := hD.sub [0, 10, 11, 12, 13, 1, 2, 3, 4, 5, 14, 15, 16, 17, 6, 7, 8, 9] (by decide) rfl
  refine lv_aload_n hx hb dX1_copyFrom_27 rfl (lv_at hl 0 rfl) ?_
  refine va_get (D := (dC, dI)) (ci := 1) (v := .ref q5) (C := RX1) (T := TX1) (N := 13) hx hb hts iX1 hown hK hP 0 rfl rfl 3 (by decide) (hts _ q31) (fun _ h9 => h9) rfl dX1_copyFrom_28 ?_
  refine lv_aload_n hx hb dX1_copyFrom_31 rfl (lv_at hl 1 rfl) ?_
  refine va_get (D := (dC, dI)) (ci := 1) (v := .ref r5) (C := RX1) (T := TX1) (N := 13) hx hb hts iX1 hown hK hP 9 rfl rfl 3 (by decide) (hts _ q31) (fun _ h9 => h9) rfl dX1_copyFrom_32 ?_
  obtain ⟨x2, hx2, hf⟩ := obd_e hf
  refine sb_Vv (As := [.ref r5]) (rest := []) ⟨hx, hb, hml, hown, hts⟩ (fun sz => c_X0_copyFrom l dC dI cI cF cJ cD q5 q6 q7 q8 r5 r6 r7 r8 (fBe F) (fBe F2)  x2 hx2 sz) (cwV 1 hts (g_V q41 q42 q43 q15 q23) rfl rfl rfl pc_X0_copyFrom ⟨Nat.le_of_ble_eq_true rfl, Nat.le_of_ble_eq_true rfl⟩) 0 0 rfl rfl hK hP hD hS hA [5, 6, 7, 8, 14, 15, 16, 17] [0, 1, 2, 3, 4, 9, 10, 11, 12, 13] rfl rfl (by decide) (by decide) (by decide) (fun _ _ _ _ h => h) (fun _ _ _ => trivial) rfl rfl hl.1 (Nat.le_of_ble_eq_true rfl) dX1_copyFrom_35 ⟨hkc, hks⟩ (fun u H locs hr9 hP hD hS => ?_)
  have hP : va_P (dC, dI) vwCl (wFR cI cF cJ q0 q1 q2 q3 q4 q5 q6 q7 q8 (sfBe (sfAb (sfRd (sfKd F (fKd F2)) (fRd F2)) x1) x2) ++ (wFR cI cF cJ r0 r1 r2 r3 r4 r5 r6 r7 r8 F2)) H := hP.sub [0, 1, 2, 3, 4, 10, 11, 12, 13, 5, 6, 7, 8, 9, 14, 15, 16, 17] rfl
  have hD : va_D A (wFR cI cF cJ q0 q1 q2 q3 q4 q5 q6 q7 q8 (sfBe (sfAb (sfRd (sfKd F (fKd F2)) (fRd F2)) x1) x2) ++ (wFR cI cF cJ r0 r1 r2 r3 r4 r5 r6 r7 r8 F2)) := hD.sub [0, 1, 2, 3, 4, 10, 11, 12, 13, 5, 6, 7, 8, 9, 14, 15, 16, 17] (by decide) rfl
  refine lv_aload_n hx hb dX1_copyFrom_38 rfl (lv_at hl 0 rfl) ?_
  refine lv_aload_n hx hb dX1_copyFrom_39 rfl (lv_at hl 1 rfl) ?_
  refine va_get (D := (dC, dI)) (ci := 1) (v := .int (fHa F2)) (C := RX1) (T := TX1) (N := 13) hx hb hts iX1 hown hK hP 9 rfl rfl 4 (by decide) (hts _ q34) (fun _ h9 => h9) rfl dX1_copyFrom_40 ?_
  refine va_put (D := (dC, dI)) (ci := 1) (v := .int (fHa F2)) (ty := .int) (C := RX1) (T := TX1) (N := 13) hx hb hts iX1 tyX1 tyX1_ok nmX1 hown hK hP hD hS 0 rfl rfl 4 (by decide) (hts _ q34) (fun _ h9 => h9) rfl (by decide +kernel) rfl rfl (Nat.le_of_ble_eq_true rfl) dX1_copyFrom_43 (fun H locs hP hD hS => ?_)
  have hP : va_P (dC, dI) vwCl (wFR cI cF cJ q0 q1 q2 q3 q4 q5 q6 q7 q8 (sfHa (sfBe (sfAb (sfRd (sfKd F (fKd F2)) (fRd F2)) x1) x2) (fHa F2)) ++ (wFR cI cF cJ r0 r1 r2 r3 r4 r5 r6 r7 r8 F2)) H := hP
  have hD : va_D A (wFR cI cF cJ q0 q1 q2 q3 q4 q5 q6 q7 q8 (sfHa (sfBe (sfAb (sfRd (sfKd F (fKd F2)) (fRd F2)) x1) x2) (fHa F2)) ++ (wFR cI cF cJ r0 r1 r2 r3 r4 r5 r6 r7 r8 F2)) := hD
  refine lv_aload_n hx hb dX1_copyFrom_46 rfl (lv_at hl 0 rfl) ?_
  refine lv_aload_n hx hb dX1_copyFrom_47 rfl (lv_at hl 1 rfl) ?_
  refine va_get (D := (dC, dI)) (ci := 1) (v := .float (fSe F2)) (C := RX1) (T := TX1) (N := 13) hx hb hts iX1 hown hK hP 9 rfl rfl 5 (by decide) (hts _ q35) (fun _ h9 => h9) rfl dX1_copyFrom_48 ?_
  refine va_put (D := (dC, dI)) (ci := 1) (v := .float (fSe F2)) (ty := .float) (C := RX1) (T := TX1) (N := 13) hx hb hts iX1 tyX1 tyX1_ok nmX1 hown hK hP hD hS 0 rfl rfl 5 (by decide) (hts _ q35) (fun _ h9 => h9) rfl (by decide +kernel) rfl rfl (Nat.le_of_ble_eq_true rfl) dX1_copyFrom_51 (fun H locs hP hD hS => ?_)
  have hP : va_P (dC, dI) vwCl (wFR cI cF cJ q0 q1 q2 q3 q4 q5 q6 q7 q8 (sfSe (sfHa (sfBe (sfAb (sfRd (sfKd F (fKd F2)) (fRd F2)) x1) x2) (fHa F2)) (fSe F2)) ++ (wFR cI cF cJ r0 r1 r2 r3 r4 r5 r6 r7 r8 F2)) H := hP
  have hD : va_D A (wFR cI cF cJ q0 q1 q2 q3 q4 q5 q6 q7 q8 (sfSe (sfHa (sfBe (sfAb (sfRd (sfKd F (fKd F2)) (fRd F2)) x1) x2) (fHa F2)) (fSe F2)) ++ (wFR cI cF cJ r0 r1 r2 r3 r4 r5 r6 r7 r8 F2)) := hD
  refine lv_aload_n hx hb dX1_copyFrom_54 rfl (lv_at hl 0 rfl) ?_
  refine lv_aload_n hx hb dX1_copyFrom_55 rfl (lv_at hl 1 rfl) ?_
  refine va_get (D := (dC, dI)) (ci := 1) (v := .int (fPu F2)) (C := RX1) (T := TX1) (N := 13) hx hb hts iX1 hown hK hP 9 rfl rfl 6 (by decide) (hts _ q36) (fun _ h9 => h9) rfl dX1_copyFrom_56 ?_
  refine va_put (D := (dC, dI)) (ci := 1) (v := .int (fPu F2)) (ty := .int) (C := RX1) (T := TX1) (N := 13) hx hb hts iX1 tyX1 tyX1_ok nmX1 hown hK hP hD hS 0 rfl rfl 6 (by decide) (hts _ q36) (fun _ h9 => h9) rfl (by decide +kernel) rfl rfl (Nat.le_of_ble_eq_true rfl) dX1_copyFrom_59 (fun H locs hP hD hS => ?_)
  have hP : va_P (dC, dI) vwCl (wFR cI cF cJ q0 q1 q2 q3 q4 q5 q6 q7 q8 (sfPu (sfSe (sfHa (sfBe (sfAb (sfRd (sfKd F (fKd F2)) (fRd F2)) x1) x2) (fHa F2)) (fSe F2)) (fPu F2)) ++ (wFR cI cF cJ r0 r1 r2 r3 r4 r5 r6 r7 r8 F2)) H := hP
  have hD : va_D A (wFR cI cF cJ q0 q1 q2 q3 q4 q5 q6 q7 q8 (sfPu (sfSe (sfHa (sfBe (sfAb (sfRd (sfKd F (fKd F2)) (fRd F2)) x1) x2) (fHa F2)) (fSe F2)) (fPu F2)) ++ (wFR cI cF cJ r0 r1 r2 r3 r4 r5 r6 r7 r8 F2)) := hD
  refine lv_aload_n hx hb dX1_copyFrom_62 rfl (lv_at hl 0 rfl) ?_
  refine lv_aload_n hx hb dX1_copyFrom_63 rfl (lv_at hl 1 rfl) ?_
  refine va_get (D := (dC, dI)) (ci := 1) (v := .int (fBd F2)) (C := RX1) (T := TX1) (N := 13) hx hb hts iX1 hown hK hP 9 rfl rfl 7 (by decide) (hts _ q37) (fun _ h9 => h9) rfl dX1_copyFrom_64 ?_
  refine va_put (D := (dC, dI)) (ci := 1) (v := .int (fBd F2)) (ty := .int) (C := RX1) (T := TX1) (N := 13) hx hb hts iX1 tyX1 tyX1_ok nmX1 hown hK hP hD hS 0 rfl rfl 7 (by decide) (hts _ q37) (fun _ h9 => h9) rfl (by decide +kernel) rfl rfl (Nat.le_of_ble_eq_true rfl) dX1_copyFrom_67 (fun H locs hP hD hS => ?_)
  have hP : va_P (dC, dI) vwCl (wFR cI cF cJ q0 q1 q2 q3 q4 q5 q6 q7 q8 (sfBd (sfPu (sfSe (sfHa (sfBe (sfAb (sfRd (sfKd F (fKd F2)) (fRd F2)) x1) x2) (fHa F2)) (fSe F2)) (fPu F2)) (fBd F2)) ++ (wFR cI cF cJ r0 r1 r2 r3 r4 r5 r6 r7 r8 F2)) H := hP
  have hD : va_D A (wFR cI cF cJ q0 q1 q2 q3 q4 q5 q6 q7 q8 (sfBd (sfPu (sfSe (sfHa (sfBe (sfAb (sfRd (sfKd F (fKd F2)) (fRd F2)) x1) x2) (fHa F2)) (fSe F2)) (fPu F2)) (fBd F2)) ++ (wFR cI cF cJ r0 r1 r2 r3 r4 r5 r6 r7 r8 F2)) := hD
  refine lv_aload_n hx hb dX1_copyFrom_70 rfl (lv_at hl 0 rfl) ?_
  refine lv_aload_n hx hb dX1_copyFrom_71 rfl (lv_at hl 1 rfl) ?_
  refine va_get (D := (dC, dI)) (ci := 1) (v := .int (fCa F2)) (C := RX1) (T := TX1) (N := 13) hx hb hts iX1 hown hK hP 9 rfl rfl 8 (by decide) (hts _ q38) (fun _ h9 => h9) rfl dX1_copyFrom_72 ?_
  refine va_put (D := (dC, dI)) (ci := 1) (v := .int (fCa F2)) (ty := .int) (C := RX1) (T := TX1) (N := 13) hx hb hts iX1 tyX1 tyX1_ok nmX1 hown hK hP hD hS 0 rfl rfl 8 (by decide) (hts _ q38) (fun _ h9 => h9) rfl (by decide +kernel) rfl rfl (Nat.le_of_ble_eq_true rfl) dX1_copyFrom_75 (fun H locs hP hD hS => ?_)
  have hP : va_P (dC, dI) vwCl (wFR cI cF cJ q0 q1 q2 q3 q4 q5 q6 q7 q8 (sfCa (sfBd (sfPu (sfSe (sfHa (sfBe (sfAb (sfRd (sfKd F (fKd F2)) (fRd F2)) x1) x2) (fHa F2)) (fSe F2)) (fPu F2)) (fBd F2)) (fCa F2)) ++ (wFR cI cF cJ r0 r1 r2 r3 r4 r5 r6 r7 r8 F2)) H := hP
  have hD : va_D A (wFR cI cF cJ q0 q1 q2 q3 q4 q5 q6 q7 q8 (sfCa (sfBd (sfPu (sfSe (sfHa (sfBe (sfAb (sfRd (sfKd F (fKd F2)) (fRd F2)) x1) x2) (fHa F2)) (fSe F2)) (fPu F2)) (fBd F2)) (fCa F2)) ++ (wFR cI cF cJ r0 r1 r2 r3 r4 r5 r6 r7 r8 F2)) := hD
  refine lv_aload_n hx hb dX1_copyFrom_78 rfl (lv_at hl 0 rfl) ?_
  refine lv_aload_n hx hb dX1_copyFrom_79 rfl (lv_at hl 1 rfl) ?_
  refine va_get (D := (dC, dI)) (ci := 1) (v := .int (fLo F2)) (C := RX1) (T := TX1) (N := 13) hx hb hts iX1 hown hK hP 9 rfl rfl 9 (by decide) (hts _ q39) (fun _ h9 => h9) rfl dX1_copyFrom_80 ?_
  refine va_put (D := (dC, dI)) (ci := 1) (v := .int (fLo F2)) (ty := .int) (C := RX1) (T := TX1) (N := 13) hx hb hts iX1 tyX1 tyX1_ok nmX1 hown hK hP hD hS 0 rfl rfl 9 (by decide) (hts _ q39) (fun _ h9 => h9) rfl (by decide +kernel) rfl rfl (Nat.le_of_ble_eq_true rfl) dX1_copyFrom_83 (fun H locs hP hD hS => ?_)
  have hP : va_P (dC, dI) vwCl (wFR cI cF cJ q0 q1 q2 q3 q4 q5 q6 q7 q8 (sfLo (sfCa (sfBd (sfPu (sfSe (sfHa (sfBe (sfAb (sfRd (sfKd F (fKd F2)) (fRd F2)) x1) x2) (fHa F2)) (fSe F2)) (fPu F2)) (fBd F2)) (fCa F2)) (fLo F2)) ++ (wFR cI cF cJ r0 r1 r2 r3 r4 r5 r6 r7 r8 F2)) H := hP
  have hD : va_D A (wFR cI cF cJ q0 q1 q2 q3 q4 q5 q6 q7 q8 (sfLo (sfCa (sfBd (sfPu (sfSe (sfHa (sfBe (sfAb (sfRd (sfKd F (fKd F2)) (fRd F2)) x1) x2) (fHa F2)) (fSe F2)) (fPu F2)) (fBd F2)) (fCa F2)) (fLo F2)) ++ (wFR cI cF cJ r0 r1 r2 r3 r4 r5 r6 r7 r8 F2)) := hD
  refine lv_aload_n hx hb dX1_copyFrom_86 rfl (lv_at hl 0 rfl) ?_
  refine lv_aload_n hx hb dX1_copyFrom_87 rfl (lv_at hl 1 rfl) ?_
  refine va_get (D := (dC, dI)) (ci := 1) (v := .int (fSp F2)) (C := RX1) (T := TX1) (N := 13) hx hb hts iX1 hown hK hP 9 rfl rfl 10 (by decide) (hts _ q40) (fun _ h9 => h9) rfl dX1_copyFrom_88 ?_
  refine va_put (D := (dC, dI)) (ci := 1) (v := .int (fSp F2)) (ty := .int) (C := RX1) (T := TX1) (N := 13) hx hb hts iX1 tyX1 tyX1_ok nmX1 hown hK hP hD hS 0 rfl rfl 10 (by decide) (hts _ q40) (fun _ h9 => h9) rfl (by decide +kernel) rfl rfl (Nat.le_of_ble_eq_true rfl) dX1_copyFrom_91 (fun H locs hP hD hS => ?_)
  have hP : va_P (dC, dI) vwCl (wFR cI cF cJ q0 q1 q2 q3 q4 q5 q6 q7 q8 (sfSp (sfLo (sfCa (sfBd (sfPu (sfSe (sfHa (sfBe (sfAb (sfRd (sfKd F (fKd F2)) (fRd F2)) x1) x2) (fHa F2)) (fSe F2)) (fPu F2)) (fBd F2)) (fCa F2)) (fLo F2)) (fSp F2)) ++ (wFR cI cF cJ r0 r1 r2 r3 r4 r5 r6 r7 r8 F2)) H := hP
  have hD : va_D A (wFR cI cF cJ q0 q1 q2 q3 q4 q5 q6 q7 q8 (sfSp (sfLo (sfCa (sfBd (sfPu (sfSe (sfHa (sfBe (sfAb (sfRd (sfKd F (fKd F2)) (fRd F2)) x1) x2) (fHa F2)) (fSe F2)) (fPu F2)) (fBd F2)) (fCa F2)) (fLo F2)) (fSp F2)) ++ (wFR cI cF cJ r0 r1 r2 r3 r4 r5 r6 r7 r8 F2)) := hD
  obtain rfl := Option.some.inj hf
  exact W.vret hx hb hr (fun t ht hW => ⟨⟨(), rfl, trivial, by rw [ht]; exact hP, hD⟩, hS.F ht⟩) hS.2.2 dX1_copyFrom_94
