-- laid by wip/p30/specs.py
-- laid by wip/p30/gen.py: the states
abbrev TF : Type := Int32 × Int32 × Int32 × (Nat → Int32)
abbrev zDr (x : TF) : Int32 := x.1
abbrev zNu (x : TF) : Int32 := x.2.1
abbrev zKi (x : TF) : Int32 := x.2.2.1
abbrev zSm (x : TF) : (Nat → Int32) := x.2.2.2
abbrev szDr (x : TF) (v : Int32) : TF := (v, x.2.1, x.2.2.1, x.2.2.2)
abbrev szNu (x : TF) (v : Int32) : TF := (x.1, v, x.2.2.1, x.2.2.2)
abbrev szKi (x : TF) (v : Int32) : TF := (x.1, x.2.1, v, x.2.2.2)
abbrev szSm (x : TF) (v : (Nat → Int32)) : TF := (x.1, x.2.1, x.2.2.1, v)
abbrev wTF (cI cF cJ : ClassId) (q0 q1 q2 q3 q4 : Nat) (x : TF) : va_W := [(q0, .inr (3, [.ref q1, .ref q2, .int (zDr x), .int (zNu x), .int (zKi x), .null, .null, .null, .ref q3, .ref q4, .int 0, .long 0])), (q4, .inl (cI, 5, .inl (zSm x)))]
noncomputable def f_X3_init (p0 : Int32) : Option (TF) := some (p0, 0, 0, (fun _ => 0))
theorem pc_X3_init : yX3_init.cls = RX3 ∧ yX3_init.cls ≠ "java/lang/invoke/MethodHandle" ∧ yX3_init.cls ≠ "java/lang/invoke/VarHandle" ∧ (parseMethodDescriptor yX3_init.desc).map (fun d => d.parameters.length) = some 3 := by decide +kernel
theorem pi_X3_init : yX3_init.cls ≠ "java/lang/invoke/MethodHandle" ∧ yX3_init.cls ≠ "java/lang/invoke/VarHandle" ∧ (parseMethodDescriptor yX3_init.desc).map (fun d => d.parameters.length) = some 3 := by decide +kernel
abbrev rm_X3_init : Room := { frames := 1, cells := 2, slots := 5, locals := 21 }
set_option maxHeartbeats 4000000 in
set_option maxRecDepth 100000 in
theorem c_X3_init (l : Launch) (dC : Nat → ClassId) (dI : Nat → Nat → Nat) (cI cF cJ cD : ClassId) (b L : Nat) (xs : Nat → Int32) (tA tB : Nat) (ot oh : Nat) (p0 : Int32) (res : (TF)) (hf : f_X3_init p0 = some res) (sz : Nat) : Met l yX3_init (ws_ yX3_init cX3_init 4 none) rm_X3_init (sbPre (dC, dI) (TY cI cF cJ cD) (wNX3 ot) (fun sz U => EX b L xs tA tB (va_A (wNX3 ot) sz) U) sz [.ref ot, .ref oh, .ref b, .int p0]) (va_Qv (fun (_ : Nat × Nat) => True) (sbEnd (dC, dI) (fun (u : Nat × Nat) => wTF cI cF cJ ot oh b u.1 u.2 res ++ ([kOut cJ u.1 ([] : RS)])) (va_A (wNX3 ot) sz)) (va_A (wNX3 ot) sz)) 2 5 (va_A (wNX3 ot) sz) := by
  refine Met.ofW (cc := cX3_init) (maxL := 4) (ret := none) (by decide) rfl ?_
  intro p e s m args below meth c s₁ B hml hv
  obtain ⟨rfl, hsz, hP, hK, hD0, hE⟩ := hv
  have hx := B.exec
  have hb := B.bytes
  have hr := B.returns
  have hts0 := atoms_spec (ws := ws_ yX3_init cX3_init 4 none) B.pre
  have hts := fun (w : Cond) (h : w ∈ LW) => hts0 w (List.mem_cons_of_mem _ h)
  have hown : s.vm.findClass RX3 = some m.cls := findClass_of_methodNamed B.named
  have hlocks := B.notSynchronized
  subst hsz
  have hD := hD0.self (sz := s.heap.size)
  have hin : meth.name = "<init>" := (name_of_methodNamed B.named B.method).1
  have hE : EX b L xs tA tB (va_A (wNX3 ot) s.heap.size) s := hE
  generalize hAe : va_A (wNX3 ot) s.heap.size = A at hD hE ⊢
  have hA : ∀ q : Nat, s.heap.size ≤ q → A q := fun q h => by rw [← hAe]; exact Or.inr h
  have hS : va_S A s.heap s.heap [] := va_S.rf
  have hkc := Nat.zero_le rm_X3_init.cells
  have hks := Nat.zero_le rm_X3_init.slots
  have hl := lv_entry ([.ref ot, .ref oh, .ref b, .int p0]) (n := 4) (Nat.le_of_ble_eq_true rfl)
  rw [lg_entry_eq]
  generalize (lg_sl ([.ref ot, .ref oh, .ref b, .int p0]) ++ List.replicate (4 - (lg_sl ([.ref ot, .ref oh, .ref b, .int p0])).length) Slot.unset).toArray = ls at hl ⊢
  have hl : lv_has ls 4 [(0, .ref ot), (1, .ref oh), (2, .ref b), (3, .int p0)] := hl
  rw [f_X3_init] at hf
  refine lv_aload_n hx hb dX3_init_0 rfl (lv_at hl 0 rfl) ?_
  refine W.objInit hx hb hown (hts _ q328) (hts _ q2) (hts _ q3) rfl (by rw [hml]; exact hl.1) rfl dX3_init_1 (Nat.le_of_ble_eq_true rfl) (Nat.le_of_ble_eq_true rfl) ?_
  refine W.eq (g2 := F0 m 4 ls []) rfl ?_
  refine lv_aload_n hx hb dX3_init_4 rfl (lv_at hl 0 rfl) ?_
  refine lv_iconst (v := 0) hx hb dX3_init_5 (by decide) ?_
  refine sb_newJ hx hb hown (hts _ q329) hE.2.1.2.2.2.2.2 hK hP hD hS hA (N' := 0) (by decide) (by decide) (Nat.le_of_ble_eq_true rfl) (Nat.le_of_ble_eq_true rfl) (Nat.le_of_ble_eq_true rfl) dX3_init_6 (fun n1 H hP hD hS => ?_)
  refine W.widen (k := 1) (n := 0) (Nat.le_refl _) (Nat.le_refl _) ?_
  have hP : va_P (dC, dI) vwCl (wNX3 ot ++ ([(n1, .inl (cJ, 0, .inr (.inr (.inr (.inr (fun _ => none))))))])) H := hP
  have hD : va_D A (wNX3 ot ++ ([(n1, .inl (cJ, 0, .inr (.inr (.inr (.inr (fun _ => none))))))])) := hD
  refine va_put (D := (dC, dI)) (ci := 3) (v := .ref n1) (ty := (.array (.array .int))) (C := RX3) (T := TX3) (N := 12) hx hb hts iX3 tyX3 tyX3_ok nmX3 hown hK hP hD hS 0 rfl rfl 8 (by decide) (hts _ q330) (fun _ h9 => h9) rfl (by decide +kernel) rfl rfl (Nat.le_of_ble_eq_true rfl) dX3_init_9 (fun H locs hP hD hS => ?_)
  have hP : va_P (dC, dI) vwCl ([(ot, .inr (3, [.null, .null, .int 0, .int 0, .int 0, .null, .null, .null, .ref n1, .null, .int 0, .long 0]))] ++ ([(n1, .inl (cJ, 0, .inr (.inr (.inr (.inr (fun _ => none))))))])) H := hP
  have hD : va_D A ([(ot, .inr (3, [.null, .null, .int 0, .int 0, .int 0, .null, .null, .null, .ref n1, .null, .int 0, .long 0]))] ++ ([(n1, .inl (cJ, 0, .inr (.inr (.inr (.inr (fun _ => none))))))])) := hD
  refine lv_aload_n hx hb dX3_init_12 rfl (lv_at hl 0 rfl) ?_
  refine lv_iconst (v := 5) hx hb dX3_init_13 (by decide) ?_
  refine sb_newi hx hb (hts _ q4) hK hP hD hS hA (N' := 5) (by decide) (by decide) (Nat.le_of_ble_eq_true rfl) (Nat.le_of_ble_eq_true rfl) (Nat.le_of_ble_eq_true rfl) dX3_init_14 (fun n2 H hP hD hS => ?_)
  refine W.widen (k := 2) (n := 5) (Nat.le_refl _) (Nat.le_refl _) ?_
  have hP : va_P (dC, dI) vwCl ([(ot, .inr (3, [.null, .null, .int 0, .int 0, .int 0, .null, .null, .null, .ref n1, .null, .int 0, .long 0]))] ++ ([(n1, .inl (cJ, 0, .inr (.inr (.inr (.inr (fun _ => none))))))] ++ ([(n2, .inl (cI, 5, .inl (fun _ => 0)))]))) H := hP
  have hD : va_D A ([(ot, .inr (3, [.null, .null, .int 0, .int 0, .int 0, .null, .null, .null, .ref n1, .null, .int 0, .long 0]))] ++ ([(n1, .inl (cJ, 0, .inr (.inr (.inr (.inr (fun _ => none))))))] ++ ([(n2, .inl (cI, 5, .inl (fun _ => 0)))]))) := hD
  refine va_put (D := (dC, dI)) (ci := 3) (v := .ref n2) (ty := (.array .int)) (C := RX3) (T := TX3) (N := 12) hx hb hts iX3 tyX3 tyX3_ok nmX3 hown hK hP hD hS 0 rfl rfl 9 (by decide) (hts _ q331) (fun _ h9 => h9) rfl (by decide +kernel) rfl rfl (Nat.le_of_ble_eq_true rfl) dX3_init_16 (fun H locs hP hD hS => ?_)
  have hP : va_P (dC, dI) vwCl ([(ot, .inr (3, [.null, .null, .int 0, .int 0, .int 0, .null, .null, .null, .ref n1, .ref n2, .int 0, .long 0]))] ++ ([(n1, .inl (cJ, 0, .inr (.inr (.inr (.inr (fun _ => none))))))] ++ ([(n2, .inl (cI, 5, .inl (fun _ => 0)))]))) H := hP
  have hD : va_D A ([(ot, .inr (3, [.null, .null, .int 0, .int 0, .int 0, .null, .null, .null, .ref n1, .ref n2, .int 0, .long 0]))] ++ ([(n1, .inl (cJ, 0, .inr (.inr (.inr (.inr (fun _ => none))))))] ++ ([(n2, .inl (cI, 5, .inl (fun _ => 0)))]))) := hD
  refine lv_aload_n hx hb dX3_init_19 rfl (lv_at hl 0 rfl) ?_
  refine lv_aload_n hx hb dX3_init_20 rfl (lv_at hl 1 rfl) ?_
  refine va_putF (D := (dC, dI)) (ci := 3) (v := .ref oh) (ty := (.object "SorobanHall")) (C := RX3) (T := TX3) (N := 12) hx hb hts iX3 tyX3 tyX3_ok nmX3 hown hK hP hD hS 0 rfl rfl 0 (by decide) (hts _ q332) (fun _ h9 => h9) rfl hin rfl (by decide +kernel) rfl rfl (Nat.le_of_ble_eq_true rfl) dX3_init_21 (fun H locs hP hD hS => ?_)
  have hP : va_P (dC, dI) vwCl ([(ot, .inr (3, [.ref oh, .null, .int 0, .int 0, .int 0, .null, .null, .null, .ref n1, .ref n2, .int 0, .long 0]))] ++ ([(n1, .inl (cJ, 0, .inr (.inr (.inr (.inr (fun _ => none))))))] ++ ([(n2, .inl (cI, 5, .inl (fun _ => 0)))]))) H := hP
  have hD : va_D A ([(ot, .inr (3, [.ref oh, .null, .int 0, .int 0, .int 0, .null, .null, .null, .ref n1, .ref n2, .int 0, .long 0]))] ++ ([(n1, .inl (cJ, 0, .inr (.inr (.inr (.inr (fun _ => none))))))] ++ ([(n2, .inl (cI, 5, .inl (fun _ => 0)))]))) := hD
  refine lv_aload_n hx hb dX3_init_24 rfl (lv_at hl 0 rfl) ?_
  refine lv_aload_n hx hb dX3_init_25 rfl (lv_at hl 2 rfl) ?_
  refine va_putF (D := (dC, dI)) (ci := 3) (v := .ref b) (ty := (.array .int)) (C := RX3) (T := TX3) (N := 12) hx hb hts iX3 tyX3 tyX3_ok nmX3 hown hK hP hD hS 0 rfl rfl 1 (by decide) (hts _ q333) (fun _ h9 => h9) rfl hin rfl (by decide +kernel) rfl rfl (Nat.le_of_ble_eq_true rfl) dX3_init_26 (fun H locs hP hD hS => ?_)
  have hP : va_P (dC, dI) vwCl ([(ot, .inr (3, [.ref oh, .ref b, .int 0, .int 0, .int 0, .null, .null, .null, .ref n1, .ref n2, .int 0, .long 0]))] ++ ([(n1, .inl (cJ, 0, .inr (.inr (.inr (.inr (fun _ => none))))))] ++ ([(n2, .inl (cI, 5, .inl (fun _ => 0)))]))) H := hP
  have hD : va_D A ([(ot, .inr (3, [.ref oh, .ref b, .int 0, .int 0, .int 0, .null, .null, .null, .ref n1, .ref n2, .int 0, .long 0]))] ++ ([(n1, .inl (cJ, 0, .inr (.inr (.inr (.inr (fun _ => none))))))] ++ ([(n2, .inl (cI, 5, .inl (fun _ => 0)))]))) := hD
  refine lv_aload_n hx hb dX3_init_29 rfl (lv_at hl 0 rfl) ?_
  refine lv_iload_n hx hb dX3_init_30 rfl (lv_at hl 3 rfl) ?_
  refine va_put (D := (dC, dI)) (ci := 3) (v := .int p0) (ty := .int) (C := RX3) (T := TX3) (N := 12) hx hb hts iX3 tyX3 tyX3_ok nmX3 hown hK hP hD hS 0 rfl rfl 2 (by decide) (hts _ q334) (fun _ h9 => h9) rfl (by decide +kernel) rfl rfl (Nat.le_of_ble_eq_true rfl) dX3_init_31 (fun H locs hP hD hS => ?_)
  have hP : va_P (dC, dI) vwCl ([(ot, .inr (3, [.ref oh, .ref b, .int p0, .int 0, .int 0, .null, .null, .null, .ref n1, .ref n2, .int 0, .long 0]))] ++ ([(n1, .inl (cJ, 0, .inr (.inr (.inr (.inr (fun _ => none))))))] ++ ([(n2, .inl (cI, 5, .inl (fun _ => 0)))]))) H := hP
  have hD : va_D A ([(ot, .inr (3, [.ref oh, .ref b, .int p0, .int 0, .int 0, .null, .null, .null, .ref n1, .ref n2, .int 0, .long 0]))] ++ ([(n1, .inl (cJ, 0, .inr (.inr (.inr (.inr (fun _ => none))))))] ++ ([(n2, .inl (cI, 5, .inl (fun _ => 0)))]))) := hD
  have hP : va_P (dC, dI) vwCl (wTF cI cF cJ ot oh b n1 n2 (p0, 0, 0, (fun _ => 0)) ++ ([kOut cJ n1 ([] : RS)])) H := hP.sub [0, 2, 1] rfl
  have hD : va_D A (wTF cI cF cJ ot oh b n1 n2 (p0, 0, 0, (fun _ => 0)) ++ ([kOut cJ n1 ([] : RS)])) := hD.sub [0, 2, 1] (by decide) rfl
  obtain rfl := Option.some.inj hf
  exact W.vret hx hb hr (fun t ht hW => ⟨⟨(n1, n2), rfl, trivial, by rw [ht]; exact hP, hD⟩, hS.F ht⟩) hS.2.2 dX3_init_34
noncomputable def f_X3_drawF (L : Nat) (xs : Nat → Int32) (T : TF) (p0 : Int32) : Option (Int32 × TF) := bnd ((zDr T) - (zDr T) / 24 * 24) fun (v2 : Int32) => obd (f_L_cell L xs v2) fun x3 => bnd ((zDr T) / 24) fun (v5 : Int32) => bnd (v5 - v5 / 8 * 8) fun (v7 : Int32) => bnd (x3 >>> (v7 &&& 31)) fun (v8 : Int32) => bnd (439 * (zDr T)) fun (v9 : Int32) => bnd (v8 + v9) fun (v10 : Int32) => obd (f_L_below v10 p0) fun x11 => bnd ((zDr T) + 1) fun (v12 : Int32) => some (x11, (szDr T v12))
abbrev rm_X3_drawF : Room := { frames := 2, cells := 0, slots := 0, locals := 42 }
set_option maxHeartbeats 4000000 in
set_option maxRecDepth 100000 in
theorem c_X3_drawF (l : Launch) (dC : Nat → ClassId) (dI : Nat → Nat → Nat) (cI cF cJ cD : ClassId) (b L : Nat) (xs : Nat → Int32) (tA tB : Nat) (ot oh ok os : Nat) (T : TF) (p0 : Int32) (res : (Int32 × TF)) (hf : f_X3_drawF L xs T p0 = some res) (sz : Nat) : Met l yX3_draw (ws_ yX3_draw cX3_draw 3 (some .int)) rm_X3_drawF (sbPre (dC, dI) (TY cI cF cJ cD) (wTF cI cF cJ ot oh b ok os T) (fun sz U => EX b L xs tA tB (va_A (wTF cI cF cJ ot oh b ok os T) sz) U) sz [.ref ot, .int p0]) (va_Qi (fun (r : Int32) (_ : Unit) => r = res.1) (sbEnd (dC, dI) (fun _ => wTF cI cF cJ ot oh b ok os res.2) (va_A (wTF cI cF cJ ot oh b ok os T) sz)) (va_A (wTF cI cF cJ ot oh b ok os T) sz)) 0 0 (va_A (wTF cI cF cJ ot oh b ok os T) sz) := by
  refine Met.ofW (cc := cX3_draw) (maxL := 3) (ret := (some .int)) (by decide) rfl ?_
  intro p e s m args below meth c s₁ B hml hv
  obtain ⟨rfl, hsz, hP, hK, hD0, hE⟩ := hv
  have hx := B.exec
  have hb := B.bytes
  have hr := B.returns
  have hts0 := atoms_spec (ws := ws_ yX3_draw cX3_draw 3 (some .int)) B.pre
  have hts := fun (w : Cond) (h : w ∈ LW) => hts0 w (List.mem_cons_of_mem _ h)
  have hown : s.vm.findClass RX3 = some m.cls := findClass_of_methodNamed B.named
  have hlocks := B.notSynchronized
  subst hsz
  have hD := hD0.self (sz := s.heap.size)
  have hE : EX b L xs tA tB (va_A (wTF cI cF cJ ot oh b ok os T) s.heap.size) s := hE
  generalize hAe : va_A (wTF cI cF cJ ot oh b ok os T) s.heap.size = A at hD hE ⊢
  have hA : ∀ q : Nat, s.heap.size ≤ q → A q := fun q h => by rw [← hAe]; exact Or.inr h
  have hS : va_S A s.heap s.heap [] := va_S.rf
  have hkc := Nat.zero_le rm_X3_drawF.cells
  have hks := Nat.zero_le rm_X3_drawF.slots
  have hl := lv_entry ([.ref ot, .int p0]) (n := 3) (Nat.le_of_ble_eq_true rfl)
  rw [lg_entry_eq]
  generalize (lg_sl ([.ref ot, .int p0]) ++ List.replicate (3 - (lg_sl ([.ref ot, .int p0])).length) Slot.unset).toArray = ls at hl ⊢
  have hl : lv_has ls 3 [(0, .ref ot), (1, .int p0)] := hl
  rw [f_X3_drawF] at hf
  refine lv_aload_n hx hb dX3_draw_0 rfl (lv_at hl 0 rfl) ?_
  refine va_get (D := (dC, dI)) (ci := 3) (v := .ref b) (C := RX3) (T := TX3) (N := 12) hx hb hts iX3 hown hK hP 0 rfl rfl 1 (by decide) (hts _ q333) (fun _ h9 => h9) rfl dX3_draw_1 ?_
  refine lv_aload_n hx hb dX3_draw_4 rfl (lv_at hl 0 rfl) ?_
  refine va_get (D := (dC, dI)) (ci := 3) (v := .int (zDr T)) (C := RX3) (T := TX3) (N := 12) hx hb hts iX3 hown hK hP 0 rfl rfl 2 (by decide) (hts _ q334) (fun _ h9 => h9) rfl dX3_draw_5 ?_
  refine lv_bipush (v := 24) hx hb dX3_draw_8 (by decide) ?_
  refine lv_irem hx hb dX3_draw_10 (by decide) ?_
  refine lv_topi (fun v2 ev2 => ?_)
  have hf := bnd_all hf v2 ev2
  obtain ⟨x3, hx3, hf⟩ := obd_e hf
  refine sb_Ni (As := [.ref b, .int v2]) (rest := []) ⟨hx, hb, hml, hown, hts⟩ (fun sz => c_L_cell l dC dI cI cF cJ cD b L xs tA tB  v2  x3 hx3 sz) ⟨va_cnB 2 hts (g_ws q335) rfl rfl rfl hE.2.1.2.2.1 (hts _ q341) ps_L_cell ⟨Nat.le_of_ble_eq_true rfl, Nat.le_of_ble_eq_true rfl⟩, hts _ q340, trivial⟩  hK hP hD hS hA [] [0, 1] rfl rfl (by decide) (by decide) (by decide) EX_blind (fun U hU hW => EX_pass hE hS (va_free hD hS hA [] rfl) hU hW) rfl rfl hl.1 (Nat.le_of_ble_eq_true rfl) dX3_draw_11 ⟨hkc, hks⟩ (fun r9 u H locs hr9 hP hD hS => ?_)
  have hr9 := Eq.symm hr9
  subst hr9
  have hP : va_P (dC, dI) vwCl (wTF cI cF cJ ot oh b ok os T) H := hP
  have hD : va_D A (wTF cI cF cJ ot oh b ok os T) := hD
  refine lv_aload_n hx hb dX3_draw_14 rfl (lv_at hl 0 rfl) ?_
  refine va_get (D := (dC, dI)) (ci := 3) (v := .int (zDr T)) (C := RX3) (T := TX3) (N := 12) hx hb hts iX3 hown hK hP 0 rfl rfl 2 (by decide) (hts _ q334) (fun _ h9 => h9) rfl dX3_draw_15 ?_
  refine lv_bipush (v := 24) hx hb dX3_draw_18 (by decide) ?_
  refine lv_idiv hx hb dX3_draw_20 (by decide) ?_
  refine lv_topi (fun v5 ev5 => ?_)
  have hf := bnd_all hf v5 ev5
  refine lv_bipush (v := 8) hx hb dX3_draw_21 (by decide) ?_
  refine lv_irem hx hb dX3_draw_23 (by decide) ?_
  refine lv_topi (fun v7 ev7 => ?_)
  have hf := bnd_all hf v7 ev7
  refine lv_ishr hx hb dX3_draw_24 ?_
  refine lv_topi (fun v8 ev8 => ?_)
  have hf := bnd_all hf v8 ev8
  refine lv_sipush (v := 439) hx hb dX3_draw_25 (by decide) ?_
  refine lv_aload_n hx hb dX3_draw_28 rfl (lv_at hl 0 rfl) ?_
  refine va_get (D := (dC, dI)) (ci := 3) (v := .int (zDr T)) (C := RX3) (T := TX3) (N := 12) hx hb hts iX3 hown hK hP 0 rfl rfl 2 (by decide) (hts _ q334) (fun _ h9 => h9) rfl dX3_draw_29 ?_
  refine lv_imul hx hb dX3_draw_32 ?_
  refine lv_topi (fun v9 ev9 => ?_)
  have hf := bnd_all hf v9 ev9
  refine lv_iadd hx hb dX3_draw_33 ?_
  refine lv_topi (fun v10 ev10 => ?_)
  have hf := bnd_all hf v10 ev10
  refine lv_iload_n hx hb dX3_draw_34 rfl (lv_at hl 1 rfl) ?_
  obtain ⟨x11, hx11, hf⟩ := obd_e hf
  refine sb_Ni (As := [.int v10, .int p0]) (rest := []) ⟨hx, hb, hml, hown, hts⟩ (fun sz => c_L_below l dC dI cI cF cJ cD  v10 p0  x11 hx11 sz) ⟨va_cnB 2 hts (g_ws q337) rfl rfl rfl hE.2.1.2.2.2.1 (hts _ q341) ps_L_below ⟨Nat.le_of_ble_eq_true rfl, Nat.le_of_ble_eq_true rfl⟩, hts _ q342, trivial⟩  hK hP hD hS hA [] [0, 1] rfl rfl (by decide) (by decide) (by decide) (fun _ _ _ _ h => h) (fun _ _ _ => trivial) rfl rfl hl.1 (Nat.le_of_ble_eq_true rfl) dX3_draw_35 ⟨hkc, hks⟩ (fun r9 u H locs hr9 hP hD hS => ?_)
  have hr9 := Eq.symm hr9
  subst hr9
  have hP : va_P (dC, dI) vwCl (wTF cI cF cJ ot oh b ok os T) H := hP
  have hD : va_D A (wTF cI cF cJ ot oh b ok os T) := hD
  refine lv_istore_n (lv' := [(2, .int x11), (0, .ref ot), (1, .int p0)]) hx hb dX3_draw_38 rfl hl (by decide) rfl (fun ls hl => ?_)
  refine lv_aload_n hx hb dX3_draw_39 rfl (lv_at hl 1 rfl) ?_
  refine lv_dup hx hb dX3_draw_40 rfl ?_
  refine va_get (D := (dC, dI)) (ci := 3) (v := .int (zDr T)) (C := RX3) (T := TX3) (N := 12) hx hb hts iX3 hown hK hP 0 rfl rfl 2 (by decide) (hts _ q334) (fun _ h9 => h9) rfl dX3_draw_41 ?_
  refine lv_iconst (v := 1) hx hb dX3_draw_44 (by decide) ?_
  refine lv_iadd hx hb dX3_draw_45 ?_
  refine lv_topi (fun v12 ev12 => ?_)
  have hf := bnd_all hf v12 ev12
  refine va_put (D := (dC, dI)) (ci := 3) (v := .int v12) (ty := .int) (C := RX3) (T := TX3) (N := 12) hx hb hts iX3 tyX3 tyX3_ok nmX3 hown hK hP hD hS 0 rfl rfl 2 (by decide) (hts _ q334) (fun _ h9 => h9) rfl (by decide +kernel) rfl rfl (Nat.le_of_ble_eq_true rfl) dX3_draw_46 (fun H locs hP hD hS => ?_)
  have hP : va_P (dC, dI) vwCl (wTF cI cF cJ ot oh b ok os (szDr T v12)) H := hP
  have hD : va_D A (wTF cI cF cJ ot oh b ok os (szDr T v12)) := hD
  refine lv_iload_n hx hb dX3_draw_49 rfl (lv_at hl 0 rfl) ?_
  obtain rfl := Option.some.inj hf
  exact W.iret (v := x11) hx hb hr (fun t ht hW => ⟨⟨_, (), rfl, rfl, by rw [ht]; exact hP, hD⟩, hS.F ht⟩) hS.2.2 dX3_draw_50
noncomputable def f_X3_frame (L : Nat) (xs : Nat → Int32) (T : TF) (Hb : HB) (p0 : Int32) : Option (Int32 × TD × HB × FR) := obd (f_X3_drawF L xs (szNu T p0) 3) fun x1 => obd (f_X3_drawF L xs (szKi x1.2 x1.1) 7) fun x2 => bnd (2 + x2.1) fun (v3 : Int32) => gd (glen v3 8) <| gd (glen v3 8) <| gd (glen v3 8) <| obd (f_X2_frame Hb (zKi x2.2) v3) fun x12 => if x12.1 = p0 then (some (1, ((zDr x2.2), (zNu x2.2), (zKi x2.2), (Int32.toNatClampNeg v3), (fun _ => 0), (fun _ => 0), (fun _ => 0), (fun _ => 0), (zSm x2.2), 0, 0), x12.2.1, x12.2.2)) else (some (0, ((zDr x2.2), (zNu x2.2), (zKi x2.2), (Int32.toNatClampNeg v3), (fun _ => 0), (fun _ => 0), (fun _ => 0), (fun _ => 0), (zSm x2.2), 0, 0), x12.2.1, x12.2.2))
theorem pc_X3_frame : yX3_frame.cls = RX3 ∧ yX3_frame.cls ≠ "java/lang/invoke/MethodHandle" ∧ yX3_frame.cls ≠ "java/lang/invoke/VarHandle" ∧ (parseMethodDescriptor yX3_frame.desc).map (fun d => d.parameters.length) = some 1 := by decide +kernel
abbrev rm_X3_frame : Room := { frames := 4, cells := 14, slots := 279, locals := 87 }
set_option maxHeartbeats 4000000 in
set_option maxRecDepth 100000 in
theorem c_X3_frame (l : Launch) (dC : Nat → ClassId) (dI : Nat → Nat → Nat) (cI cF cJ cD : ClassId) (b L : Nat) (xs : Nat → Int32) (tA tB : Nat) (ot oh ok os fa tr : Nat) (rw : Nat → Option Nat) (T : TF) (Hb : HB) (p0 : Int32) (res : (Int32 × TD × HB × FR)) (hf : f_X3_frame L xs T Hb p0 = some res) (sz : Nat) : Met l yX3_frame (ws_ yX3_frame cX3_frame 3 (some .boolean)) rm_X3_frame (sbPre (dC, dI) (TY cI cF cJ cD) (wTF cI cF cJ ot oh b ok os T ++ (wHB cI cF cJ oh fa tr rw Hb)) (fun sz U => EX b L xs tA tB (va_A (wTF cI cF cJ ot oh b ok os T ++ (wHB cI cF cJ oh fa tr rw Hb)) sz) U) sz [.ref ot, .int p0]) (va_Qi (fun (r : Int32) (_ : Nat × Nat × Nat × Nat × Nat × Nat × Nat × Nat × Nat × Nat × Nat × Nat × Nat × Nat) => r = res.1) (sbEnd (dC, dI) (fun (u : Nat × Nat × Nat × Nat × Nat × Nat × Nat × Nat × Nat × Nat × Nat × Nat × Nat × Nat) => wTD cI cF cJ ot oh b u.2.2.2.2.2.2.2.2.2.1 u.2.2.2.2.2.2.2.2.2.2.1 u.2.2.2.2.2.2.2.2.2.2.2.1 u.2.2.2.2.2.2.2.2.2.2.2.2.1 u.2.2.2.2.2.2.2.2.2.2.2.2.2 ok os res.2.1 ++ (wHB cI cF cJ oh fa tr (va_up rw (Int32.toNatClampNeg (hFc Hb)) (some u.1)) res.2.2.1 ++ (wFR cI cF cJ u.1 u.2.1 u.2.2.1 u.2.2.2.1 u.2.2.2.2.1 u.2.2.2.2.2.1 u.2.2.2.2.2.2.1 u.2.2.2.2.2.2.2.1 u.2.2.2.2.2.2.2.2.1 res.2.2.2))) (va_A (wTF cI cF cJ ot oh b ok os T ++ (wHB cI cF cJ oh fa tr rw Hb)) sz)) (va_A (wTF cI cF cJ ot oh b ok os T ++ (wHB cI cF cJ oh fa tr rw Hb)) sz)) 14 279 (va_A (wTF cI cF cJ ot oh b ok os T ++ (wHB cI cF cJ oh fa tr rw Hb)) sz) := by
  refine Met.ofW (cc := cX3_frame) (maxL := 3) (ret := (some .boolean)) (by decide) rfl ?_
  intro p e s m args below meth c s₁ B hml hv
  obtain ⟨rfl, hsz, hP, hK, hD0, hE⟩ := hv
  have hx := B.exec
  have hb := B.bytes
  have hr := B.returns
  have hts0 := atoms_spec (ws := ws_ yX3_frame cX3_frame 3 (some .boolean)) B.pre
  have hts := fun (w : Cond) (h : w ∈ LW) => hts0 w (List.mem_cons_of_mem _ h)
  have hown : s.vm.findClass RX3 = some m.cls := findClass_of_methodNamed B.named
  have hlocks := B.notSynchronized
  subst hsz
  have hD := hD0.self (sz := s.heap.size)
  have hE : EX b L xs tA tB (va_A (wTF cI cF cJ ot oh b ok os T ++ (wHB cI cF cJ oh fa tr rw Hb)) s.heap.size) s := hE
  generalize hAe : va_A (wTF cI cF cJ ot oh b ok os T ++ (wHB cI cF cJ oh fa tr rw Hb)) s.heap.size = A at hD hE ⊢
  have hA : ∀ q : Nat, s.heap.size ≤ q → A q := fun q h => by rw [← hAe]; exact Or.inr h
  have hS : va_S A s.heap s.heap [] := va_S.rf
  have hkc := Nat.zero_le rm_X3_frame.cells
  have hks := Nat.zero_le rm_X3_frame.slots
  have hl := lv_entry ([.ref ot, .int p0]) (n := 3) (Nat.le_of_ble_eq_true rfl)
  rw [lg_entry_eq]
  generalize (lg_sl ([.ref ot, .int p0]) ++ List.replicate (3 - (lg_sl ([.ref ot, .int p0])).length) Slot.unset).toArray = ls at hl ⊢
  have hl : lv_has ls 3 [(0, .ref ot), (1, .int p0)] := hl
  rw [f_X3_frame] at hf
  refine lv_aload_n hx hb dX3_frame_0 rfl (lv_at hl 0 rfl) ?_
  refine lv_iload_n hx hb dX3_frame_1 rfl (lv_at hl 1 rfl) ?_
  refine va_put (D := (dC, dI)) (ci := 3) (v := .int p0) (ty := .int) (C := RX3) (T := TX3) (N := 12) hx hb hts iX3 tyX3 tyX3_ok nmX3 hown hK hP hD hS 0 rfl rfl 3 (by decide) (hts _ q343) (fun _ h9 => h9) rfl (by decide +kernel) rfl rfl (Nat.le_of_ble_eq_true rfl) dX3_frame_2 (fun H locs hP hD hS => ?_)
  have hP : va_P (dC, dI) vwCl (wTF cI cF cJ ot oh b ok os (szNu T p0) ++ (wHB cI cF cJ oh fa tr rw Hb)) H := hP
  have hD : va_D A (wTF cI cF cJ ot oh b ok os (szNu T p0) ++ (wHB cI cF cJ oh fa tr rw Hb)) := hD
  refine lv_aload_n hx hb dX3_frame_5 rfl (lv_at hl 0 rfl) ?_
  refine lv_aload_n hx hb dX3_frame_6 rfl (lv_at hl 0 rfl) ?_
  refine lv_iconst (v := 3) hx hb dX3_frame_7 (by decide) ?_
  obtain ⟨x1, hx1, hf⟩ := obd_e hf
  refine sb_Vi (As := [.int 3]) (rest := [.ref ot]) ⟨hx, hb, hml, hown, hts⟩ (fun sz => c_X3_drawF l dC dI cI cF cJ cD b L xs tA tB ot oh ok os (szNu T p0) 3  x1 hx1 sz) (cwV 1 hts (g_V q349 q350 q351 q352 q339) rfl rfl rfl pc_X3_draw ⟨Nat.le_of_ble_eq_true rfl, Nat.le_of_ble_eq_true rfl⟩) 0 3 rfl rfl hK hP hD hS hA [0, 1] [2, 3] rfl rfl (by decide) (by decide) (by decide) EX_blind (fun U hU hW => EX_pass hE hS (va_free hD hS hA [0, 1] rfl) hU hW) rfl rfl hl.1 (Nat.le_of_ble_eq_true rfl) dX3_frame_8 ⟨hkc, hks⟩ (fun r9 u H locs hr9 hP hD hS => ?_)
  have hr9 := Eq.symm hr9
  subst hr9
  have hP : va_P (dC, dI) vwCl (wTF cI cF cJ ot oh b ok os x1.2 ++ (wHB cI cF cJ oh fa tr rw Hb)) H := hP.sub [2, 3, 0, 1] rfl
  have hD : va_D A (wTF cI cF cJ ot oh b ok os x1.2 ++ (wHB cI cF cJ oh fa tr rw Hb)) := hD.sub [2, 3, 0, 1] (by decide) rfl
  refine va_put (D := (dC, dI)) (ci := 3) (v := .int x1.1) (ty := .int) (C := RX3) (T := TX3) (N := 12) hx hb hts iX3 tyX3 tyX3_ok nmX3 hown hK hP hD hS 0 rfl rfl 4 (by decide) (hts _ q344) (fun _ h9 => h9) rfl (by decide +kernel) rfl rfl (Nat.le_of_ble_eq_true rfl) dX3_frame_11 (fun H locs hP hD hS => ?_)
  have hP : va_P (dC, dI) vwCl (wTF cI cF cJ ot oh b ok os (szKi x1.2 x1.1) ++ (wHB cI cF cJ oh fa tr rw Hb)) H := hP
  have hD : va_D A (wTF cI cF cJ ot oh b ok os (szKi x1.2 x1.1) ++ (wHB cI cF cJ oh fa tr rw Hb)) := hD
  refine lv_iconst (v := 2) hx hb dX3_frame_14 (by decide) ?_
  refine lv_aload_n hx hb dX3_frame_15 rfl (lv_at hl 0 rfl) ?_
  refine lv_bipush (v := 7) hx hb dX3_frame_16 (by decide) ?_
  obtain ⟨x2, hx2, hf⟩ := obd_e hf
  refine sb_Vi (As := [.int 7]) (rest := [.int 2]) ⟨hx, hb, hml, hown, hts⟩ (fun sz => c_X3_drawF l dC dI cI cF cJ cD b L xs tA tB ot oh ok os (szKi x1.2 x1.1) 7  x2 hx2 sz) (cwV 1 hts (g_V q349 q350 q351 q352 q339) rfl rfl rfl pc_X3_draw ⟨Nat.le_of_ble_eq_true rfl, Nat.le_of_ble_eq_true rfl⟩) 0 3 rfl rfl hK hP hD hS hA [0, 1] [2, 3] rfl rfl (by decide) (by decide) (by decide) EX_blind (fun U hU hW => EX_pass hE hS (va_free hD hS hA [0, 1] rfl) hU hW) rfl rfl hl.1 (Nat.le_of_ble_eq_true rfl) dX3_frame_18 ⟨hkc, hks⟩ (fun r9 u H locs hr9 hP hD hS => ?_)
  have hr9 := Eq.symm hr9
  subst hr9
  have hP : va_P (dC, dI) vwCl (wTF cI cF cJ ot oh b ok os x2.2 ++ (wHB cI cF cJ oh fa tr rw Hb)) H := hP.sub [2, 3, 0, 1] rfl
  have hD : va_D A (wTF cI cF cJ ot oh b ok os x2.2 ++ (wHB cI cF cJ oh fa tr rw Hb)) := hD.sub [2, 3, 0, 1] (by decide) rfl
  refine lv_iadd hx hb dX3_frame_21 ?_
  refine lv_topi (fun v3 ev3 => ?_)
  have hf := bnd_all hf v3 ev3
  refine lv_istore_n (lv' := [(2, .int v3), (0, .ref ot), (1, .int p0)]) hx hb dX3_frame_22 rfl hl (by decide) rfl (fun ls hl => ?_)
  refine lv_aload_n hx hb dX3_frame_23 rfl (lv_at hl 1 rfl) ?_
  refine lv_iload_n hx hb dX3_frame_24 rfl (lv_at hl 0 rfl) ?_
  obtain ⟨g5, hf⟩ := gd_e hf
  refine sb_newi hx hb (hts _ q4) hK hP hD hS hA (glen_0 g5) rfl (glen_b g5 (by decide)) (Nat.le_of_ble_eq_true rfl) (glen_s g5 (Nat.le_of_ble_eq_true rfl)) dX3_frame_25 (fun n4 H hP hD hS => ?_)
  refine W.widen (k := 1) (n := 8) (Nat.le_refl _) (glen_w g5) ?_
  have hP : va_P (dC, dI) vwCl (wTF cI cF cJ ot oh b ok os x2.2 ++ (wHB cI cF cJ oh fa tr rw Hb ++ ([(n4, .inl (cI, (Int32.toNatClampNeg v3), .inl (fun _ => 0)))]))) H := hP
  have hD : va_D A (wTF cI cF cJ ot oh b ok os x2.2 ++ (wHB cI cF cJ oh fa tr rw Hb ++ ([(n4, .inl (cI, (Int32.toNatClampNeg v3), .inl (fun _ => 0)))]))) := hD
  refine va_put (D := (dC, dI)) (ci := 3) (v := .ref n4) (ty := (.array .int)) (C := RX3) (T := TX3) (N := 12) hx hb hts iX3 tyX3 tyX3_ok nmX3 hown hK hP hD hS 0 rfl rfl 5 (by decide) (hts _ q345) (fun _ h9 => h9) rfl (by decide +kernel) rfl rfl (Nat.le_of_ble_eq_true rfl) dX3_frame_27 (fun H locs hP hD hS => ?_)
  have hP : va_P (dC, dI) vwCl ([(ot, .inr (3, [.ref oh, .ref b, .int (zDr x2.2), .int (zNu x2.2), .int (zKi x2.2), .ref n4, .null, .null, .ref ok, .ref os, .int 0, .long 0])), (os, .inl (cI, 5, .inl (zSm x2.2)))] ++ (wHB cI cF cJ oh fa tr rw Hb ++ ([(n4, .inl (cI, (Int32.toNatClampNeg v3), .inl (fun _ => 0)))]))) H := hP
  have hD : va_D A ([(ot, .inr (3, [.ref oh, .ref b, .int (zDr x2.2), .int (zNu x2.2), .int (zKi x2.2), .ref n4, .null, .null, .ref ok, .ref os, .int 0, .long 0])), (os, .inl (cI, 5, .inl (zSm x2.2)))] ++ (wHB cI cF cJ oh fa tr rw Hb ++ ([(n4, .inl (cI, (Int32.toNatClampNeg v3), .inl (fun _ => 0)))]))) := hD
  refine lv_aload_n hx hb dX3_frame_30 rfl (lv_at hl 1 rfl) ?_
  refine lv_iload_n hx hb dX3_frame_31 rfl (lv_at hl 0 rfl) ?_
  obtain ⟨g7, hf⟩ := gd_e hf
  refine sb_newi hx hb (hts _ q4) hK hP hD hS hA (glen_0 g7) rfl (glen_b g7 (by decide)) (Nat.le_of_ble_eq_true rfl) (glen_s g7 (Nat.le_of_ble_eq_true rfl)) dX3_frame_32 (fun n6 H hP hD hS => ?_)
  refine W.widen (k := 2) (n := 16) (Nat.le_refl _) (glen_w g7) ?_
  have hP : va_P (dC, dI) vwCl ([(ot, .inr (3, [.ref oh, .ref b, .int (zDr x2.2), .int (zNu x2.2), .int (zKi x2.2), .ref n4, .null, .null, .ref ok, .ref os, .int 0, .long 0])), (os, .inl (cI, 5, .inl (zSm x2.2)))] ++ (wHB cI cF cJ oh fa tr rw Hb ++ ([(n4, .inl (cI, (Int32.toNatClampNeg v3), .inl (fun _ => 0)))] ++ ([(n6, .inl (cI, (Int32.toNatClampNeg v3), .inl (fun _ => 0)))])))) H := hP
  have hD : va_D A ([(ot, .inr (3, [.ref oh, .ref b, .int (zDr x2.2), .int (zNu x2.2), .int (zKi x2.2), .ref n4, .null, .null, .ref ok, .ref os, .int 0, .long 0])), (os, .inl (cI, 5, .inl (zSm x2.2)))] ++ (wHB cI cF cJ oh fa tr rw Hb ++ ([(n4, .inl (cI, (Int32.toNatClampNeg v3), .inl (fun _ => 0)))] ++ ([(n6, .inl (cI, (Int32.toNatClampNeg v3), .inl (fun _ => 0)))])))) := hD
  refine va_put (D := (dC, dI)) (ci := 3) (v := .ref n6) (ty := (.array .int)) (C := RX3) (T := TX3) (N := 12) hx hb hts iX3 tyX3 tyX3_ok nmX3 hown hK hP hD hS 0 rfl rfl 6 (by decide) (hts _ q346) (fun _ h9 => h9) rfl (by decide +kernel) rfl rfl (Nat.le_of_ble_eq_true rfl) dX3_frame_34 (fun H locs hP hD hS => ?_)
  have hP : va_P (dC, dI) vwCl ([(ot, .inr (3, [.ref oh, .ref b, .int (zDr x2.2), .int (zNu x2.2), .int (zKi x2.2), .ref n4, .ref n6, .null, .ref ok, .ref os, .int 0, .long 0])), (os, .inl (cI, 5, .inl (zSm x2.2)))] ++ (wHB cI cF cJ oh fa tr rw Hb ++ ([(n4, .inl (cI, (Int32.toNatClampNeg v3), .inl (fun _ => 0)))] ++ ([(n6, .inl (cI, (Int32.toNatClampNeg v3), .inl (fun _ => 0)))])))) H := hP
  have hD : va_D A ([(ot, .inr (3, [.ref oh, .ref b, .int (zDr x2.2), .int (zNu x2.2), .int (zKi x2.2), .ref n4, .ref n6, .null, .ref ok, .ref os, .int 0, .long 0])), (os, .inl (cI, 5, .inl (zSm x2.2)))] ++ (wHB cI cF cJ oh fa tr rw Hb ++ ([(n4, .inl (cI, (Int32.toNatClampNeg v3), .inl (fun _ => 0)))] ++ ([(n6, .inl (cI, (Int32.toNatClampNeg v3), .inl (fun _ => 0)))])))) := hD
  refine lv_aload_n hx hb dX3_frame_37 rfl (lv_at hl 1 rfl) ?_
  refine lv_iconst (v := 2) hx hb dX3_frame_38 (by decide) ?_
  refine lv_iload_n hx hb dX3_frame_39 rfl (lv_at hl 0 rfl) ?_
  obtain ⟨g11, hf⟩ := gd_e hf
  refine sb_mna hx hb hown (hts _ q347) hE.2.1.2.2.2.2.2 (hts _ q4) hK hP hD hS hA (glen_0 g11) rfl (glen_b g11 (by decide)) (Nat.le_of_ble_eq_true rfl) (glen_m g11 (Nat.le_of_ble_eq_true rfl)) dX3_frame_40 (fun n8 n9 n10 H hP hD hS => ?_)
  refine W.widen (k := 5) (n := 34) (Nat.le_refl _) (glen_mw g11) ?_
  have hP : va_P (dC, dI) vwCl ([(ot, .inr (3, [.ref oh, .ref b, .int (zDr x2.2), .int (zNu x2.2), .int (zKi x2.2), .ref n4, .ref n6, .null, .ref ok, .ref os, .int 0, .long 0])), (os, .inl (cI, 5, .inl (zSm x2.2)))] ++ (wHB cI cF cJ oh fa tr rw Hb ++ ([(n4, .inl (cI, (Int32.toNatClampNeg v3), .inl (fun _ => 0)))] ++ ([(n6, .inl (cI, (Int32.toNatClampNeg v3), .inl (fun _ => 0)))] ++ ([(n8, .inl (cJ, 2, .inr (.inr (.inr (.inr (fun i => if i = 0 then some n9 else some n10)))))), (n9, .inl (cI, (Int32.toNatClampNeg v3), .inl (fun _ => 0))), (n10, .inl (cI, (Int32.toNatClampNeg v3), .inl (fun _ => 0)))]))))) H := hP
  have hD : va_D A ([(ot, .inr (3, [.ref oh, .ref b, .int (zDr x2.2), .int (zNu x2.2), .int (zKi x2.2), .ref n4, .ref n6, .null, .ref ok, .ref os, .int 0, .long 0])), (os, .inl (cI, 5, .inl (zSm x2.2)))] ++ (wHB cI cF cJ oh fa tr rw Hb ++ ([(n4, .inl (cI, (Int32.toNatClampNeg v3), .inl (fun _ => 0)))] ++ ([(n6, .inl (cI, (Int32.toNatClampNeg v3), .inl (fun _ => 0)))] ++ ([(n8, .inl (cJ, 2, .inr (.inr (.inr (.inr (fun i => if i = 0 then some n9 else some n10)))))), (n9, .inl (cI, (Int32.toNatClampNeg v3), .inl (fun _ => 0))), (n10, .inl (cI, (Int32.toNatClampNeg v3), .inl (fun _ => 0)))]))))) := hD
  refine va_put (D := (dC, dI)) (ci := 3) (v := .ref n8) (ty := (.array (.array .int))) (C := RX3) (T := TX3) (N := 12) hx hb hts iX3 tyX3 tyX3_ok nmX3 hown hK hP hD hS 0 rfl rfl 7 (by decide) (hts _ q348) (fun _ h9 => h9) rfl (by decide +kernel) rfl rfl (Nat.le_of_ble_eq_true rfl) dX3_frame_44 (fun H locs hP hD hS => ?_)
  have hP : va_P (dC, dI) vwCl ([(ot, .inr (3, [.ref oh, .ref b, .int (zDr x2.2), .int (zNu x2.2), .int (zKi x2.2), .ref n4, .ref n6, .ref n8, .ref ok, .ref os, .int 0, .long 0])), (os, .inl (cI, 5, .inl (zSm x2.2)))] ++ (wHB cI cF cJ oh fa tr rw Hb ++ ([(n4, .inl (cI, (Int32.toNatClampNeg v3), .inl (fun _ => 0)))] ++ ([(n6, .inl (cI, (Int32.toNatClampNeg v3), .inl (fun _ => 0)))] ++ ([(n8, .inl (cJ, 2, .inr (.inr (.inr (.inr (fun i => if i = 0 then some n9 else some n10)))))), (n9, .inl (cI, (Int32.toNatClampNeg v3), .inl (fun _ => 0))), (n10, .inl (cI, (Int32.toNatClampNeg v3), .inl (fun _ => 0)))]))))) H := hP
  have hD : va_D A ([(ot, .inr (3, [.ref oh, .ref b, .int (zDr x2.2), .int (zNu x2.2), .int (zKi x2.2), .ref n4, .ref n6, .ref n8, .ref ok, .ref os, .int 0, .long 0])), (os, .inl (cI, 5, .inl (zSm x2.2)))] ++ (wHB cI cF cJ oh fa tr rw Hb ++ ([(n4, .inl (cI, (Int32.toNatClampNeg v3), .inl (fun _ => 0)))] ++ ([(n6, .inl (cI, (Int32.toNatClampNeg v3), .inl (fun _ => 0)))] ++ ([(n8, .inl (cJ, 2, .inr (.inr (.inr (.inr (fun i => if i = 0 then some n9 else some n10)))))), (n9, .inl (cI, (Int32.toNatClampNeg v3), .inl (fun _ => 0))), (n10, .inl (cI, (Int32.toNatClampNeg v3), .inl (fun _ => 0)))]))))) := hD
  refine lv_aload_n hx hb dX3_frame_47 rfl (lv_at hl 1 rfl) ?_
  refine va_get (D := (dC, dI)) (ci := 3) (v := .ref oh) (C := RX3) (T := TX3) (N := 12) hx hb hts iX3 hown hK hP 0 rfl rfl 0 (by decide) (hts _ q332) (fun _ h9 => h9) rfl dX3_frame_48 ?_
  refine lv_aload_n hx hb dX3_frame_51 rfl (lv_at hl 1 rfl) ?_
  refine va_get (D := (dC, dI)) (ci := 3) (v := .int (zKi x2.2)) (C := RX3) (T := TX3) (N := 12) hx hb hts iX3 hown hK hP 0 rfl rfl 4 (by decide) (hts _ q344) (fun _ h9 => h9) rfl dX3_frame_52 ?_
  refine lv_iload_n hx hb dX3_frame_55 rfl (lv_at hl 0 rfl) ?_
  obtain ⟨x12, hx12, hf⟩ := obd_e hf
  refine sb_Vi (As := [.int (zKi x2.2), .int v3]) (rest := []) ⟨hx, hb, hml, hown, hts⟩ (fun sz => c_X2_frame l dC dI cI cF cJ cD b L xs tA tB oh fa tr rw Hb (zKi x2.2) v3  x12 hx12 sz) (cwV 2 hts (g_V q353 q354 q355 q172 q164) rfl rfl rfl pc_X2_frame ⟨Nat.le_of_ble_eq_true rfl, Nat.le_of_ble_eq_true rfl⟩) 0 2 rfl rfl hK hP hD hS hA [2, 3] [0, 1, 4, 5, 6, 7, 8] rfl rfl (by decide) (by decide) (by decide) EX_blind (fun U hU hW => EX_pass hE hS (va_free hD hS hA [2, 3] rfl) hU hW) rfl rfl hl.1 (Nat.le_of_ble_eq_true rfl) dX3_frame_56 ⟨Nat.le_of_ble_eq_true rfl, Nat.le_of_ble_eq_true rfl⟩ (fun r9 u H locs hr9 hP hD hS => ?_)
  refine W.widen (k := 14) (n := 279) (Nat.le_refl _) (Nat.le_refl _) ?_
  have hr9 := Eq.symm hr9
  subst hr9
  obtain ⟨n13, n14, n15, n16, n17, n18, n19, n20, n21⟩ := u
  have hP : va_P (dC, dI) vwCl ([(ot, .inr (3, [.ref oh, .ref b, .int (zDr x2.2), .int (zNu x2.2), .int (zKi x2.2), .ref n4, .ref n6, .ref n8, .ref ok, .ref os, .int 0, .long 0])), (os, .inl (cI, 5, .inl (zSm x2.2)))] ++ (wHB cI cF cJ oh fa tr (va_up rw (Int32.toNatClampNeg (hFc Hb)) (some n13)) x12.2.1 ++ ([(n4, .inl (cI, (Int32.toNatClampNeg v3), .inl (fun _ => 0)))] ++ ([(n6, .inl (cI, (Int32.toNatClampNeg v3), .inl (fun _ => 0)))] ++ ([(n8, .inl (cJ, 2, .inr (.inr (.inr (.inr (fun i => if i = 0 then some n9 else some n10)))))), (n9, .inl (cI, (Int32.toNatClampNeg v3), .inl (fun _ => 0))), (n10, .inl (cI, (Int32.toNatClampNeg v3), .inl (fun _ => 0)))] ++ (wFR cI cF cJ n13 n14 n15 n16 n17 n18 n19 n20 n21 x12.2.2)))))) H := hP.sub [0, 1, 7, 8, 2, 3, 4, 5, 6, 9, 10, 11, 12, 13, 14, 15, 16, 17] rfl
  have hD : va_D A ([(ot, .inr (3, [.ref oh, .ref b, .int (zDr x2.2), .int (zNu x2.2), .int (zKi x2.2), .ref n4, .ref n6, .ref n8, .ref ok, .ref os, .int 0, .long 0])), (os, .inl (cI, 5, .inl (zSm x2.2)))] ++ (wHB cI cF cJ oh fa tr (va_up rw (Int32.toNatClampNeg (hFc Hb)) (some n13)) x12.2.1 ++ ([(n4, .inl (cI, (Int32.toNatClampNeg v3), .inl (fun _ => 0)))] ++ ([(n6, .inl (cI, (Int32.toNatClampNeg v3), .inl (fun _ => 0)))] ++ ([(n8, .inl (cJ, 2, .inr (.inr (.inr (.inr (fun i => if i = 0 then some n9 else some n10)))))), (n9, .inl (cI, (Int32.toNatClampNeg v3), .inl (fun _ => 0))), (n10, .inl (cI, (Int32.toNatClampNeg v3), .inl (fun _ => 0)))] ++ (wFR cI cF cJ n13 n14 n15 n16 n17 n18 n19 n20 n21 x12.2.2)))))) := hD.sub [0, 1, 7, 8, 2, 3, 4, 5, 6, 9, 10, 11, 12, 13, 14, 15, 16, 17] (by decide) rfl
  refine lv_iload_n hx hb dX3_frame_59 rfl (lv_at hl 2 rfl) ?_
  refine lv_icmp_ne (tgt := 67) hx hb dX3_frame_60 (by decide) (fun c22 => ?_) (fun c22 => ?_)
  · have hf := ite_f hf c22
    refine lv_iconst (v := 0) hx hb dX3_frame_67 (by decide) ?_
    have hP : va_P (dC, dI) vwCl (wTD cI cF cJ ot oh b n4 n6 n8 n9 n10 ok os ((zDr x2.2), (zNu x2.2), (zKi x2.2), (Int32.toNatClampNeg v3), (fun _ => 0), (fun _ => 0), (fun _ => 0), (fun _ => 0), (zSm x2.2), 0, 0) ++ (wHB cI cF cJ oh fa tr (va_up rw (Int32.toNatClampNeg (hFc Hb)) (some n13)) x12.2.1 ++ (wFR cI cF cJ n13 n14 n15 n16 n17 n18 n19 n20 n21 x12.2.2))) H := hP.sub [0, 4, 5, 6, 7, 8, 1, 2, 3, 9, 10, 11, 12, 13, 14, 15, 16, 17] rfl
    have hD : va_D A (wTD cI cF cJ ot oh b n4 n6 n8 n9 n10 ok os ((zDr x2.2), (zNu x2.2), (zKi x2.2), (Int32.toNatClampNeg v3), (fun _ => 0), (fun _ => 0), (fun _ => 0), (fun _ => 0), (zSm x2.2), 0, 0) ++ (wHB cI cF cJ oh fa tr (va_up rw (Int32.toNatClampNeg (hFc Hb)) (some n13)) x12.2.1 ++ (wFR cI cF cJ n13 n14 n15 n16 n17 n18 n19 n20 n21 x12.2.2))) := hD.sub [0, 4, 5, 6, 7, 8, 1, 2, 3, 9, 10, 11, 12, 13, 14, 15, 16, 17] (by decide) rfl
    obtain rfl := Option.some.inj hf
    exact W.zret (v := 0) hx hb hr (by rfl) (fun t ht hW => ⟨⟨_, (n13, n14, n15, n16, n17, n18, n19, n20, n21, n4, n6, n8, n9, n10), rfl, rfl, by rw [ht]; exact hP, hD⟩, hS.F ht⟩) hS.2.2 dX3_frame_68
  · have hf := ite_t hf c22
    refine lv_iconst (v := 1) hx hb dX3_frame_63 (by decide) ?_
    refine lv_goto (tgt := 68) hx hb dX3_frame_64 (by decide) ?_
    have hP : va_P (dC, dI) vwCl (wTD cI cF cJ ot oh b n4 n6 n8 n9 n10 ok os ((zDr x2.2), (zNu x2.2), (zKi x2.2), (Int32.toNatClampNeg v3), (fun _ => 0), (fun _ => 0), (fun _ => 0), (fun _ => 0), (zSm x2.2), 0, 0) ++ (wHB cI cF cJ oh fa tr (va_up rw (Int32.toNatClampNeg (hFc Hb)) (some n13)) x12.2.1 ++ (wFR cI cF cJ n13 n14 n15 n16 n17 n18 n19 n20 n21 x12.2.2))) H := hP.sub [0, 4, 5, 6, 7, 8, 1, 2, 3, 9, 10, 11, 12, 13, 14, 15, 16, 17] rfl
    have hD : va_D A (wTD cI cF cJ ot oh b n4 n6 n8 n9 n10 ok os ((zDr x2.2), (zNu x2.2), (zKi x2.2), (Int32.toNatClampNeg v3), (fun _ => 0), (fun _ => 0), (fun _ => 0), (fun _ => 0), (zSm x2.2), 0, 0) ++ (wHB cI cF cJ oh fa tr (va_up rw (Int32.toNatClampNeg (hFc Hb)) (some n13)) x12.2.1 ++ (wFR cI cF cJ n13 n14 n15 n16 n17 n18 n19 n20 n21 x12.2.2))) := hD.sub [0, 4, 5, 6, 7, 8, 1, 2, 3, 9, 10, 11, 12, 13, 14, 15, 16, 17] (by decide) rfl
    obtain rfl := Option.some.inj hf
    exact W.zret (v := 1) hx hb hr (by rfl) (fun t ht hW => ⟨⟨_, (n13, n14, n15, n16, n17, n18, n19, n20, n21, n4, n6, n8, n9, n10), rfl, rfl, by rw [ht]; exact hP, hD⟩, hS.F ht⟩) hS.2.2 dX3_frame_68
