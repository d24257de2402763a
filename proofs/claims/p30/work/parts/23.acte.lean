-- laid by wip/p30/specs.py
noncomputable def l_X3_times_53 (c1 : Int32) (c2 : Int32) (c3 : Int32) (R1 : HB) (R2 : FR) (R3 : KO) (R4 : (Nat → Int32)) (N4 : Nat) (L : Nat) (xs : (Nat → Int32)) (lr : Nat) (k : Int32 → TD → Option (Int32 × TD × FR × KO)) : Nat → Int32 → TD → Option (Int32 × TD × FR × KO)
  | 0, _, _ => none
  | n + 1, a17, F18 => if (3 : Int32) ≤ a17 then (k a17 F18) else (bnd (c3 + a17) fun (v20 : Int32) => gd (gin a17 N4) <| bnd (R4 (Int32.toNatClampNeg a17)) fun (v22 : Int32) => obd (f_X3_bring F18 v20 v22) fun x23 => bnd (a17 + 1) fun (v24 : Int32) => l_X3_times_53 c1 c2 c3 R1 R2 R3 R4 N4 L xs lr k n v24 x23)
noncomputable def l_X3_times_26 (c1 : Int32) (c2 : Int32) (R1 : HB) (R2 : FR) (R3 : KO) (L : Nat) (xs : (Nat → Int32)) (lr : Nat) (k : Int32 → TD → Option (Int32 × TD × FR × KO)) : Nat → Int32 → TD → Option (Int32 × TD × FR × KO)
  | 0, _, _ => none
  | n + 1, a8, F9 => if a8 < 0 then (k a8 F9) else (obd (f_X3_value F9 a8) fun x11 => bnd (c1 * x11) fun (v12 : Int32) => bnd (v12.toInt64) fun (v13 : Int64) => obd (f_X3_digits v13 3) fun x14 => obd (f_X3_set F9 a8 0) fun x16 => l_X3_times_53 c1 c2 a8 R1 R2 R3 x14 (Int32.toNatClampNeg 3) L xs lr (fun (a35 : Int32) (F36 : TD) => bnd (a8 + (-1)) fun (v37 : Int32) => l_X3_times_26 c1 c2 R1 R2 R3 L xs lr k n v37 F36) 16 0 x16)
noncomputable def f_X3_times (L : Nat) (xs : Nat → Int32) (lr : Nat) (T : TD) (Hb : HB) (F : FR) (K : KO) : Option (Int32 × TD × FR × KO) := obd (f_X3_draw L xs T 10) fun x1 => gd (gin 4 5) <| bnd ((tSm x1.2) (Int32.toNatClampNeg 4)) fun (v3 : Int32) => obd (f_X3_keep lr x1.2 K) fun x4 => bnd ((nI (tN x1.2)) - 1) fun (v7 : Int32) => l_X3_times_26 x1.1 v3 Hb F x4 L xs lr (fun (a62 : Int32) (F63 : TD) => gd (gdec ((tNu F63) = (tNu T))) <| obd (f_X2_times Hb F (tNu T) x1.1) fun x65 => gd (gin 4 5) <| bnd ((tSm F63) (Int32.toNatClampNeg 4)) fun (v67 : Int32) => bnd (v67 - v3) fun (v68 : Int32) => if x65.1 = v68 then (some (1, F63, x65.2, x4)) else (some (0, F63, x65.2, x4))) 16 v7 x1.2
theorem pc_X3_times : yX3_times.cls = RX3 ∧ yX3_times.cls ≠ "java/lang/invoke/MethodHandle" ∧ yX3_times.cls ≠ "java/lang/invoke/VarHandle" ∧ (parseMethodDescriptor yX3_times.desc).map (fun d => d.parameters.length) = some 0 := by decide +kernel
abbrev rm_X3_times : Room := { frames := 6, cells := 18, slots := 189, locals := 152 }
set_option maxHeartbeats 4000000 in
set_option maxRecDepth 100000 in
theorem c_X3_times (l : Launch) (dC : Nat → ClassId) (dI : Nat → Nat → Nat) (cI cF cJ cD : ClassId) (b L : Nat) (xs : Nat → Int32) (tA tB : Nat) (lr : Nat) (ot oh ou od ow oa ob ok os fa tr q0 q1 q2 q3 q4 q5 q6 q7 q8 : Nat) (rw : Nat → Option Nat) (rs : RS) (T : TD) (Hb : HB) (F : FR) (K : KO) (hq : f_X2_frameAt rw (tNu T) = some (some q0)) (hrs : rs.map Prod.snd = K) (res : (Int32 × TD × FR × KO)) (hf : f_X3_times L xs lr T Hb F K = some res) (sz : Nat) : Met l yX3_times (ws_ yX3_times cX3_times 6 (some .boolean)) rm_X3_times (sbPre (dC, dI) (TY cI cF cJ cD) ((wTD cI cF cJ ot oh b ou od ow oa ob ok os T ++ (wHB cI cF cJ oh fa tr rw Hb ++ (wFR cI cF cJ q0 q1 q2 q3 q4 q5 q6 q7 q8 F ++ ([kOut cJ ok rs])))) ++ (kRows cI lr rs)) (fun sz U => EX b L xs tA tB (va_A ((wTD cI cF cJ ot oh b ou od ow oa ob ok os T ++ (wHB cI cF cJ oh fa tr rw Hb ++ (wFR cI cF cJ q0 q1 q2 q3 q4 q5 q6 q7 q8 F ++ ([kOut cJ ok rs])))) ++ (kRows cI lr rs)) sz) U) sz [.ref ot]) (va_Qi (fun (r : Int32) (u : Nat × RS) => r = res.1 ∧ u.2.map Prod.snd = res.2.2.2) (sbEnd (dC, dI) (fun (u : Nat × RS) => (wTD cI cF cJ ot oh b ou od ow oa ob u.1 os res.2.1 ++ (wHB cI cF cJ oh fa tr rw Hb ++ (wFR cI cF cJ q0 q1 q2 q3 q4 q5 q6 q7 q8 res.2.2.1 ++ ([kOut cJ u.1 u.2])))) ++ (kRows cI lr u.2)) (va_A ((wTD cI cF cJ ot oh b ou od ow oa ob ok os T ++ (wHB cI cF cJ oh fa tr rw Hb ++ (wFR cI cF cJ q0 q1 q2 q3 q4 q5 q6 q7 q8 F ++ ([kOut cJ ok rs])))) ++ (kRows cI lr rs)) sz)) (va_A ((wTD cI cF cJ ot oh b ou od ow oa ob ok os T ++ (wHB cI cF cJ oh fa tr rw Hb ++ (wFR cI cF cJ q0 q1 q2 q3 q4 q5 q6 q7 q8 F ++ ([kOut cJ ok rs])))) ++ (kRows cI lr rs)) sz)) 18 189 (va_A ((wTD cI cF cJ ot oh b ou od ow oa ob ok os T ++ (wHB cI cF cJ oh fa tr rw Hb ++ (wFR cI cF cJ q0 q1 q2 q3 q4 q5 q6 q7 q8 F ++ ([kOut cJ ok rs])))) ++ (kRows cI lr rs)) sz) := by
  refine Met.ofW (cc := cX3_times) (maxL := 6) (ret := (some .boolean)) (by decide) rfl ?_
  intro p e s m args below meth c s₁ B hml hv
  obtain ⟨rfl, hsz, hP, hK, hD0, hE⟩ := hv
  have hx := B.exec
  have hb := B.bytes
  have hr := B.returns
  have hts0 := atoms_spec (ws := ws_ yX3_times cX3_times 6 (some .boolean)) B.pre
  have hts := fun (w : Cond) (h : w ∈ LW) => hts0 w (List.mem_cons_of_mem _ h)
  have hown : s.vm.findClass RX3 = some m.cls := findClass_of_methodNamed B.named
  have hlocks := B.notSynchronized
  subst hsz
  have hD := hD0.self (sz := s.heap.size)
  have hE : EX b L xs tA tB (va_A ((wTD cI cF cJ ot oh b ou od ow oa ob ok os T ++ (wHB cI cF cJ oh fa tr rw Hb ++ (wFR cI cF cJ q0 q1 q2 q3 q4 q5 q6 q7 q8 F ++ ([kOut cJ ok rs])))) ++ (kRows cI lr rs)) s.heap.size) s := hE
  generalize hAe : va_A ((wTD cI cF cJ ot oh b ou od ow oa ob ok os T ++ (wHB cI cF cJ oh fa tr rw Hb ++ (wFR cI cF cJ q0 q1 q2 q3 q4 q5 q6 q7 q8 F ++ ([kOut cJ ok rs])))) ++ (kRows cI lr rs)) s.heap.size = A at hD hE ⊢
  have hA : ∀ q : Nat, s.heap.size ≤ q → A q := fun q h => by rw [← hAe]; exact Or.inr h
  have hS : va_S A s.heap s.heap [] := va_S.rf
  have hkc := Nat.zero_le rm_X3_times.cells
  have hks := Nat.zero_le rm_X3_times.slots
  have hl := lv_entry ([.ref ot]) (n := 6) (Nat.le_of_ble_eq_true rfl)
  rw [lg_entry_eq]
  generalize (lg_sl ([.ref ot]) ++ List.replicate (6 - (lg_sl ([.ref ot])).length) Slot.unset).toArray = ls at hl ⊢
  have hl : lv_has ls 6 [(0, .ref ot)] := hl
  rw [f_X3_times] at hf
  refine lv_aload_n hx hb dX3_times_0 rfl (lv_at hl 0 rfl) ?_
  refine lv_bipush (v := 10) hx hb dX3_times_1 (by decide) ?_
  obtain ⟨x1, hx1, hf⟩ := obd_e hf
  refine sbT_Vi (As := [.int 10]) (rest := []) ⟨hx, hb, hml, hown, hts⟩ (fun sz => c_X3_draw l dC dI cI cF cJ cD b L xs tA tB ot oh ou od ow oa ob ok os T 10  x1 hx1 sz) (cwV 1 hts (g_V q349 q350 q351 q352 q339) rfl rfl rfl pc_X3_draw ⟨Nat.le_of_ble_eq_true rfl, Nat.le_of_ble_eq_true rfl⟩) 0 3 rfl rfl hK hP hD hS hA [0, 1, 2, 3, 4, 5, 6] [7, 8, 9, 10, 11, 12, 13, 14, 15, 16, 17, 18] rfl rfl (by decide) (by decide) (by decide) EX_blind (fun U hU hW => EX_pass hE hS (va_free hD.left hS hA [0, 1, 2, 3, 4, 5, 6] rfl) hU hW) rfl rfl hl.1 (Nat.le_of_ble_eq_true rfl) dX3_times_3 ⟨hkc, hks⟩ (fun r9 u H locs hr9 hP hD hS => ?_)
  have hr9 := Eq.symm hr9
  subst hr9
  have hP : va_P (dC, dI) vwCl ((wTD cI cF cJ ot oh b ou od ow oa ob ok os x1.2 ++ (wHB cI cF cJ oh fa tr rw Hb ++ (wFR cI cF cJ q0 q1 q2 q3 q4 q5 q6 q7 q8 F ++ ([kOut cJ ok rs])))) ++ (kRows cI lr rs)) H := va_P.part hP [12, 13, 14, 15, 16, 17, 18, 0, 1, 2, 3, 4, 5, 6, 7, 8, 9, 10, 11] rfl
  have hD : va_D A ((wTD cI cF cJ ot oh b ou od ow oa ob ok os x1.2 ++ (wHB cI cF cJ oh fa tr rw Hb ++ (wFR cI cF cJ q0 q1 q2 q3 q4 q5 q6 q7 q8 F ++ ([kOut cJ ok rs])))) ++ (kRows cI lr rs)) := va_D.part hD [12, 13, 14, 15, 16, 17, 18, 0, 1, 2, 3, 4, 5, 6, 7, 8, 9, 10, 11] (by decide) rfl
  refine lv_istore_n (lv' := [(1, .int x1.1), (0, .ref ot)]) hx hb dX3_times_6 rfl hl (by decide) rfl (fun ls hl => ?_)
  refine lv_aload_n hx hb dX3_times_7 rfl (lv_at hl 1 rfl) ?_
  refine va_get (D := (dC, dI)) (ci := 3) (v := .ref os) (C := RX3) (T := TX3) (N := 12) hx hb hts iX3 hown hK hP 0 rfl rfl 9 (by decide) (hts _ q331) (fun _ h9 => h9) rfl dX3_times_8 ?_
  refine lv_iconst (v := 4) hx hb dX3_times_11 (by decide) ?_
  obtain ⟨g2, hf⟩ := gd_e hf
  refine va_iald hx hb hK hP 6 0 rfl rfl (gin_in g2) dX3_times_12 ?_
  refine lv_topi (fun v3 ev3 => ?_)
  have hf := bnd_all hf v3 ev3
  refine lv_istore_n (lv' := [(2, .int v3), (1, .int x1.1), (0, .ref ot)]) hx hb dX3_times_13 rfl hl (by decide) rfl (fun ls hl => ?_)
  refine lv_aload_n hx hb dX3_times_14 rfl (lv_at hl 2 rfl) ?_
  obtain ⟨x4, hx4, hf⟩ := obd_e hf
  refine sbP_Vv (As := []) (rest := []) ⟨hx, hb, hml, hown, hts⟩ (fun sz => c_X3_keep l dC dI cI cF cJ cD b L xs tA tB lr ot oh ou od ow oa ob ok os rs x1.2 K hrs x4 hx4 sz) (cwV 0 hts (g_V q409 q410 q411 q352 q373) rfl rfl rfl pc_X3_keep ⟨Nat.le_of_ble_eq_true rfl, Nat.le_of_ble_eq_true rfl⟩) 0 3 rfl rfl hK hP hD hS hA [0, 1, 2, 3, 4, 5, 6, 18] [7, 8, 9, 10, 11, 12, 13, 14, 15, 16, 17] rfl rfl (by decide) (by decide) (by decide) EX_blind (fun U hU hW => EX_pass hE hS (va_freeP hD hS hA [0, 1, 2, 3, 4, 5, 6, 18] rfl) hU hW) rfl rfl hl.1 (Nat.le_of_ble_eq_true rfl) dX3_times_15 ⟨Nat.le_of_ble_eq_true rfl, Nat.le_of_ble_eq_true rfl⟩ (fun u H locs hr9 hP hD hS => ?_)
  refine W.widen (k := 2) (n := 29) (Nat.le_refl _) (Nat.le_refl _) ?_
  have hrs6 := hr9
  obtain ⟨n5, rs6⟩ := u
  have hP : va_P (dC, dI) vwCl ((wTD cI cF cJ ot oh b ou od ow oa ob n5 os x1.2 ++ (wHB cI cF cJ oh fa tr rw Hb ++ (wFR cI cF cJ q0 q1 q2 q3 q4 q5 q6 q7 q8 F ++ ([kOut cJ n5 rs6])))) ++ (kRows cI lr rs6)) H := va_P.part hP [11, 12, 13, 14, 15, 16, 17, 0, 1, 2, 3, 4, 5, 6, 7, 8, 9, 10, 18] rfl
  have hD : va_D A ((wTD cI cF cJ ot oh b ou od ow oa ob n5 os x1.2 ++ (wHB cI cF cJ oh fa tr rw Hb ++ (wFR cI cF cJ q0 q1 q2 q3 q4 q5 q6 q7 q8 F ++ ([kOut cJ n5 rs6])))) ++ (kRows cI lr rs6)) := va_D.part hD [11, 12, 13, 14, 15, 16, 17, 0, 1, 2, 3, 4, 5, 6, 7, 8, 9, 10, 18] (by decide) rfl
  refine lv_aload_n hx hb dX3_times_18 rfl (lv_at hl 2 rfl) ?_
  refine va_get (D := (dC, dI)) (ci := 3) (v := .ref ou) (C := RX3) (T := TX3) (N := 12) hx hb hts iX3 hown hK hP 0 rfl rfl 5 (by decide) (hts _ q345) (fun _ h9 => h9) rfl dX3_times_19 ?_
  refine va_alen (v := (nI (tN x1.2))) hx hb hK hP 1 0 rfl rfl rfl dX3_times_22 ?_
  refine lv_iconst (v := 1) hx hb dX3_times_23 (by decide) ?_
  refine lv_isub hx hb dX3_times_24 ?_
  refine lv_topi (fun v7 ev7 => ?_)
  have hf := bnd_all hf v7 ev7
  refine lv_istore_n (lv' := [(3, .int v7), (2, .int v3), (1, .int x1.1), (0, .ref ot)]) hx hb dX3_times_25 rfl hl (by decide) rfl (fun ls hl => ?_)
  have L26 : ∀ (k : Int32 → TD → Option (Int32 × TD × FR × KO)), (∀ (a38 : Int32) (F39 : TD) (H : Heap) (locs : List Loc) (ls : Array Slot), va_P (dC, dI) vwCl ((wTD cI cF cJ ot oh b ou od ow oa ob n5 os F39 ++ (wHB cI cF cJ oh fa tr rw Hb ++ (wFR cI cF cJ q0 q1 q2 q3 q4 q5 q6 q7 q8 F ++ ([kOut cJ n5 rs6])))) ++ (kRows cI lr rs6)) H → va_D A ((wTD cI cF cJ ot oh b ou od ow oa ob n5 os F39 ++ (wHB cI cF cJ oh fa tr rw Hb ++ (wFR cI cF cJ q0 q1 q2 q3 q4 q5 q6 q7 q8 F ++ ([kOut cJ n5 rs6])))) ++ (kRows cI lr rs6)) → va_S A s.heap H locs → lv_has ls 6 [(0, .ref ot), (1, .int x1.1), (2, .int v3)] → k a38 F39 = some res → W p l e (headSpec (ws_ yX3_times cX3_times 6 (some .boolean)) rm_X3_times).room s m ([.ref ot].toArray) below meth c H locs 18 189 (MQ below (va_Qi (fun (r : Int32) (u : Nat × RS) => r = res.1 ∧ u.2.map Prod.snd = res.2.2.2) (sbEnd (dC, dI) (fun (u : Nat × RS) => (wTD cI cF cJ ot oh b ou od ow oa ob u.1 os res.2.1 ++ (wHB cI cF cJ oh fa tr rw Hb ++ (wFR cI cF cJ q0 q1 q2 q3 q4 q5 q6 q7 q8 res.2.2.1 ++ ([kOut cJ u.1 u.2])))) ++ (kRows cI lr u.2)) (A)) (A)) ([.ref ot].toArray) s 18 189 A) (F0 m 84 ls [])) → ∀ (n : Nat) (a38 : Int32) (F39 : TD) (H : Heap) (locs : List Loc) (ls : Array Slot) (cc26 ss26 : Nat), cc26 + n * 1 ≤ 18 → ss26 + n * 10 ≤ 189 → va_P (dC, dI) vwCl ((wTD cI cF cJ ot oh b ou od ow oa ob n5 os F39 ++ (wHB cI cF cJ oh fa tr rw Hb ++ (wFR cI cF cJ q0 q1 q2 q3 q4 q5 q6 q7 q8 F ++ ([kOut cJ n5 rs6])))) ++ (kRows cI lr rs6)) H → va_D A ((wTD cI cF cJ ot oh b ou od ow oa ob n5 os F39 ++ (wHB cI cF cJ oh fa tr rw Hb ++ (wFR cI cF cJ q0 q1 q2 q3 q4 q5 q6 q7 q8 F ++ ([kOut cJ n5 rs6])))) ++ (kRows cI lr rs6)) → va_S A s.heap H locs → lv_has ls 6 [(3, .int a38), (0, .ref ot), (1, .int x1.1), (2, .int v3)] → l_X3_times_26 x1.1 v3 Hb F x4 L xs lr k n a38 F39 = some res → W p l e (headSpec (ws_ yX3_times cX3_times 6 (some .boolean)) rm_X3_times).room s m ([.ref ot].toArray) below meth c H locs cc26 ss26 (MQ below (va_Qi (fun (r : Int32) (u : Nat × RS) => r = res.1 ∧ u.2.map Prod.snd = res.2.2.2) (sbEnd (dC, dI) (fun (u : Nat × RS) => (wTD cI cF cJ ot oh b ou od ow oa ob u.1 os res.2.1 ++ (wHB cI cF cJ oh fa tr rw Hb ++ (wFR cI cF cJ q0 q1 q2 q3 q4 q5 q6 q7 q8 res.2.2.1 ++ ([kOut cJ u.1 u.2])))) ++ (kRows cI lr u.2)) (A)) (A)) ([.ref ot].toArray) s 18 189 A) (F0 m 26 ls []) := by
    intro k hk n
    induction n with
    | zero =>
      intro a40 F41 H locs ls cc26 ss26 hcc26 hss26 hP hD hS hl hf
      rw [l_X3_times_26] at hf
      cases hf
    | succ n ih =>
      intro a40 F41 H locs ls cc26 ss26 hcc26 hss26 hP hD hS hl hf
      rw [l_X3_times_26] at hf
      refine lv_iload_n hx hb dX3_times_26 rfl (lv_at hl 0 rfl) ?_
      refine lv_if_lt (tgt := 84) hx hb dX3_times_27 (by decide) (fun c42 => ?_) (fun c42 => ?_)
      · have hf := ite_t hf c42
        refine W.widen (k := 18) (n := 189) (by omega) (by omega) ?_
        exact hk a40 F41 _ _ _ hP hD hS (lv_sub hl [1, 2, 3] rfl) hf
      · have hf := ite_f hf c42
        refine lv_iload_n hx hb dX3_times_30 rfl (lv_at hl 2 rfl) ?_
        refine lv_aload_n hx hb dX3_times_31 rfl (lv_at hl 1 rfl) ?_
        refine lv_iload_n hx hb dX3_times_32 rfl (lv_at hl 0 rfl) ?_
        obtain ⟨x43, hx43, hf⟩ := obd_e hf
        refine sbT_Vi (As := [.int a40]) (rest := [.int x1.1]) ⟨hx, hb, hml, hown, hts⟩ (fun sz => c_X3_value l dC dI cI cF cJ cD ot oh b ou od ow oa ob n5 os F41 a40  x43 hx43 sz) (cwV 1 hts (g_V q369 q370 q371 q352 q366) rfl rfl rfl pc_X3_value ⟨Nat.le_of_ble_eq_true rfl, Nat.le_of_ble_eq_true rfl⟩) 0 3 rfl rfl hK hP hD hS hA [0, 1, 2, 3, 4, 5, 6] [7, 8, 9, 10, 11, 12, 13, 14, 15, 16, 17, 18] rfl rfl (by decide) (by decide) (by decide) (fun _ _ _ _ h => h) (fun _ _ _ => trivial) rfl rfl hl.1 (Nat.le_of_ble_eq_true rfl) dX3_times_33 ⟨Nat.le_trans (show cc26 + 0 ≤ 18 by omega) (Nat.le_of_ble_eq_true rfl), Nat.le_trans (show ss26 + 0 ≤ 189 by omega) (Nat.le_of_ble_eq_true rfl)⟩ (fun r9 u H locs hr9 hP hD hS => ?_)
        have hr9 := Eq.symm hr9
        subst hr9
        have hP : va_P (dC, dI) vwCl ((wTD cI cF cJ ot oh b ou od ow oa ob n5 os F41 ++ (wHB cI cF cJ oh fa tr rw Hb ++ (wFR cI cF cJ q0 q1 q2 q3 q4 q5 q6 q7 q8 F ++ ([kOut cJ n5 rs6])))) ++ (kRows cI lr rs6)) H := va_P.part hP [12, 13, 14, 15, 16, 17, 18, 0, 1, 2, 3, 4, 5, 6, 7, 8, 9, 10, 11] rfl
        have hD : va_D A ((wTD cI cF cJ ot oh b ou od ow oa ob n5 os F41 ++ (wHB cI cF cJ oh fa tr rw Hb ++ (wFR cI cF cJ q0 q1 q2 q3 q4 q5 q6 q7 q8 F ++ ([kOut cJ n5 rs6])))) ++ (kRows cI lr rs6)) := va_D.part hD [12, 13, 14, 15, 16, 17, 18, 0, 1, 2, 3, 4, 5, 6, 7, 8, 9, 10, 11] (by decide) rfl
        refine lv_imul hx hb dX3_times_36 ?_
        refine lv_topi (fun v44 ev44 => ?_)
        have hf := bnd_all hf v44 ev44
        refine lv_i2l hx hb dX3_times_37 rfl ?_
        refine lv_topl (fun v45 ev45 => ?_)
        have hf := bnd_all hf v45 ev45
        refine lv_iconst (v := 3) hx hb dX3_times_38 (by decide) ?_
        obtain ⟨x46, hx46, hf⟩ := obd_e hf
        refine sbT_Sq (As := [.long v45, .int 3]) (rest := []) ⟨hx, hb, hml, hown, hts⟩ (fun sz => c_X3_digits l dC dI cI cF cJ cD  v45 3  x46 hx46 sz) (va_cwS 2 hts (g_S q399 q400 q352 q398) rfl rfl rfl ps_X3_digits ⟨Nat.le_of_ble_eq_true rfl, Nat.le_of_ble_eq_true rfl⟩)  hK hP hD hS hA [] [0, 1, 2, 3, 4, 5, 6, 7, 8, 9, 10, 11, 12, 13, 14, 15, 16, 17, 18] rfl rfl (by decide) (by decide) (by decide) (fun _ _ _ _ h => h) (fun _ _ _ => trivial) rfl rfl hl.1 (Nat.le_of_ble_eq_true rfl) dX3_times_39 ⟨Nat.le_trans (show cc26 + 1 ≤ 18 by omega) (Nat.le_of_ble_eq_true rfl), Nat.le_trans (show ss26 + 10 ≤ 189 by omega) (Nat.le_of_ble_eq_true rfl)⟩ (fun r9 u H locs hr9 hP hD hS => ?_)
        refine W.widen (k := (cc26 + 1)) (n := (ss26 + 10)) (by omega) (by omega) ?_
        have hr9 := Eq.symm hr9
        subst hr9
        obtain ⟨n47, en47⟩ : ∃ z, z = u := ⟨_, rfl⟩
        subst en47
        have hP : va_P (dC, dI) vwCl ((wTD cI cF cJ ot oh b ou od ow oa ob n5 os F41 ++ (wHB cI cF cJ oh fa tr rw Hb ++ (wFR cI cF cJ q0 q1 q2 q3 q4 q5 q6 q7 q8 F ++ ([kOut cJ n5 rs6] ++ ([(n47, .inl (cI, (Int32.toNatClampNeg 3), .inl x46))]))))) ++ (kRows cI lr rs6)) H := hP
        have hD : va_D A ((wTD cI cF cJ ot oh b ou od ow oa ob n5 os F41 ++ (wHB cI cF cJ oh fa tr rw Hb ++ (wFR cI cF cJ q0 q1 q2 q3 q4 q5 q6 q7 q8 F ++ ([kOut cJ n5 rs6] ++ ([(n47, .inl (cI, (Int32.toNatClampNeg 3), .inl x46))]))))) ++ (kRows cI lr rs6)) := hD
        refine lv_astore (lv' := [(4, .ref n47), (3, .int a40), (0, .ref ot), (1, .int x1.1), (2, .int v3)]) hx hb dX3_times_42 hl (by decide) rfl (fun ls hl => ?_)
        refine lv_aload_n hx hb dX3_times_44 rfl (lv_at hl 2 rfl) ?_
        refine lv_iload_n hx hb dX3_times_45 rfl (lv_at hl 1 rfl) ?_
        refine lv_iconst (v := 0) hx hb dX3_times_46 (by decide) ?_
        obtain ⟨x48, hx48, hf⟩ := obd_e hf
        refine sbT_Vv (As := [.int a40, .int 0]) (rest := []) ⟨hx, hb, hml, hown, hts⟩ (fun sz => c_X3_set l dC dI cI cF cJ cD ot oh b ou od ow oa ob n5 os F41 a40 0  x48 hx48 sz) (cwV 2 hts (g_V q394 q395 q396 q352 q393) rfl rfl rfl pc_X3_set ⟨Nat.le_of_ble_eq_true rfl, Nat.le_of_ble_eq_true rfl⟩) 0 3 rfl rfl hK hP hD hS hA [0, 1, 2, 3, 4, 5, 6] [7, 8, 9, 10, 11, 12, 13, 14, 15, 16, 17, 18, 19] rfl rfl (by decide) (by decide) (by decide) (fun _ _ _ _ h => h) (fun _ _ _ => trivial) rfl rfl hl.1 (Nat.le_of_ble_eq_true rfl) dX3_times_47 ⟨Nat.le_trans (show (cc26 + 1) + 0 ≤ 18 by omega) (Nat.le_of_ble_eq_true rfl), Nat.le_trans (show (ss26 + 10) + 0 ≤ 189 by omega) (Nat.le_of_ble_eq_true rfl)⟩ (fun u H locs hr9 hP hD hS => ?_)
        have hP : va_P (dC, dI) vwCl ((wTD cI cF cJ ot oh b ou od ow oa ob n5 os x48 ++ (wHB cI cF cJ oh fa tr rw Hb ++ (wFR cI cF cJ q0 q1 q2 q3 q4 q5 q6 q7 q8 F ++ ([kOut cJ n5 rs6] ++ ([(n47, .inl (cI, (Int32.toNatClampNeg 3), .inl x46))]))))) ++ (kRows cI lr rs6)) H := va_P.part hP [13, 14, 15, 16, 17, 18, 19, 0, 1, 2, 3, 4, 5, 6, 7, 8, 9, 10, 11, 12] rfl
        have hD : va_D A ((wTD cI cF cJ ot oh b ou od ow oa ob n5 os x48 ++ (wHB cI cF cJ oh fa tr rw Hb ++ (wFR cI cF cJ q0 q1 q2 q3 q4 q5 q6 q7 q8 F ++ ([kOut cJ n5 rs6] ++ ([(n47, .inl (cI, (Int32.toNatClampNeg 3), .inl x46))]))))) ++ (kRows cI lr rs6)) := va_D.part hD [13, 14, 15, 16, 17, 18, 19, 0, 1, 2, 3, 4, 5, 6, 7, 8, 9, 10, 11, 12] (by decide) rfl
        refine lv_iconst (v := 0) hx hb dX3_times_50 (by decide) ?_
        refine lv_istore (lv' := [(5, .int 0), (4, .ref n47), (3, .int a40), (0, .ref ot), (1, .int x1.1), (2, .int v3)]) hx hb dX3_times_51 hl (by decide) rfl (fun ls hl => ?_)
        have L53 : ∀ (k : Int32 → TD → Option (Int32 × TD × FR × KO)), (∀ (a49 : Int32) (F50 : TD) (H : Heap) (locs : List Loc) (ls : Array Slot), va_P (dC, dI) vwCl ((wTD cI cF cJ ot oh b ou od ow oa ob n5 os F50 ++ (wHB cI cF cJ oh fa tr rw Hb ++ (wFR cI cF cJ q0 q1 q2 q3 q4 q5 q6 q7 q8 F ++ ([kOut cJ n5 rs6] ++ ([(n47, .inl (cI, (Int32.toNatClampNeg 3), .inl x46))]))))) ++ (kRows cI lr rs6)) H → va_D A ((wTD cI cF cJ ot oh b ou od ow oa ob n5 os F50 ++ (wHB cI cF cJ oh fa tr rw Hb ++ (wFR cI cF cJ q0 q1 q2 q3 q4 q5 q6 q7 q8 F ++ ([kOut cJ n5 rs6] ++ ([(n47, .inl (cI, (Int32.toNatClampNeg 3), .inl x46))]))))) ++ (kRows cI lr rs6)) → va_S A s.heap H locs → lv_has ls 6 [(0, .ref ot), (1, .int x1.1), (2, .int v3), (3, .int a40)] → k a49 F50 = some res → W p l e (headSpec (ws_ yX3_times cX3_times 6 (some .boolean)) rm_X3_times).room s m ([.ref ot].toArray) below meth c H locs (cc26 + 1) (ss26 + 10) (MQ below (va_Qi (fun (r : Int32) (u : Nat × RS) => r = res.1 ∧ u.2.map Prod.snd = res.2.2.2) (sbEnd (dC, dI) (fun (u : Nat × RS) => (wTD cI cF cJ ot oh b ou od ow oa ob u.1 os res.2.1 ++ (wHB cI cF cJ oh fa tr rw Hb ++ (wFR cI cF cJ q0 q1 q2 q3 q4 q5 q6 q7 q8 res.2.2.1 ++ ([kOut cJ u.1 u.2])))) ++ (kRows cI lr u.2)) (A)) (A)) ([.ref ot].toArray) s 18 189 A) (F0 m 78 ls [])) → ∀ (n : Nat) (a49 : Int32) (F50 : TD) (H : Heap) (locs : List Loc) (ls : Array Slot), va_P (dC, dI) vwCl ((wTD cI cF cJ ot oh b ou od ow oa ob n5 os F50 ++ (wHB cI cF cJ oh fa tr rw Hb ++ (wFR cI cF cJ q0 q1 q2 q3 q4 q5 q6 q7 q8 F ++ ([kOut cJ n5 rs6] ++ ([(n47, .inl (cI, (Int32.toNatClampNeg 3), .inl x46))]))))) ++ (kRows cI lr rs6)) H → va_D A ((wTD cI cF cJ ot oh b ou od ow oa ob n5 os F50 ++ (wHB cI cF cJ oh fa tr rw Hb ++ (wFR cI cF cJ q0 q1 q2 q3 q4 q5 q6 q7 q8 F ++ ([kOut cJ n5 rs6] ++ ([(n47, .inl (cI, (Int32.toNatClampNeg 3), .inl x46))]))))) ++ (kRows cI lr rs6)) → va_S A s.heap H locs → lv_has ls 6 [(5, .int a49), (0, .ref ot), (1, .int x1.1), (2, .int v3), (3, .int a40), (4, .ref n47)] → l_X3_times_53 x1.1 v3 a40 Hb F x4 x46 (Int32.toNatClampNeg 3) L xs lr k n a49 F50 = some res → W p l e (headSpec (ws_ yX3_times cX3_times 6 (some .boolean)) rm_X3_times).room s m ([.ref ot].toArray) below meth c H locs (cc26 + 1) (ss26 + 10) (MQ below (va_Qi (fun (r : Int32) (u : Nat × RS) => r = res.1 ∧ u.2.map Prod.snd = res.2.2.2) (sbEnd (dC, dI) (fun (u : Nat × RS) => (wTD cI cF cJ ot oh b ou od ow oa ob u.1 os res.2.1 ++ (wHB cI cF cJ oh fa tr rw Hb ++ (wFR cI cF cJ q0 q1 q2 q3 q4 q5 q6 q7 q8 res.2.2.1 ++ ([kOut cJ u.1 u.2])))) ++ (kRows cI lr u.2)) (A)) (A)) ([.ref ot].toArray) s 18 189 A) (F0 m 53 ls []) := by
          intro k hk n
          induction n with
          | zero =>
            intro a51 F52 H locs ls hP hD hS hl hf
            rw [l_X3_times_53] at hf
            cases hf
          | succ n ih =>
            intro a51 F52 H locs ls hP hD hS hl hf
            rw [l_X3_times_53] at hf
            refine lv_iload hx hb dX3_times_53 (lv_at hl 0 rfl) ?_
            refine lv_iconst (v := 3) hx hb dX3_times_55 (by decide) ?_
            refine lv_icmp_ge (tgt := 78) hx hb dX3_times_56 (by decide) (fun c53 => ?_) (fun c53 => ?_)
            · have hf := ite_t hf c53
              exact hk a51 F52 _ _ _ hP hD hS (lv_sub hl [1, 2, 3, 4] rfl) hf
            · have hf := ite_f hf c53
              refine lv_aload_n hx hb dX3_times_59 rfl (lv_at hl 1 rfl) ?_
              refine lv_iload_n hx hb dX3_times_60 rfl (lv_at hl 4 rfl) ?_
              refine lv_iload hx hb dX3_times_61 (lv_at hl 0 rfl) ?_
              refine lv_iadd hx hb dX3_times_63 ?_
              refine lv_topi (fun v54 ev54 => ?_)
              have hf := bnd_all hf v54 ev54
              refine lv_aload hx hb dX3_times_64 (lv_at hl 5 rfl) ?_
              refine lv_iload hx hb dX3_times_66 (lv_at hl 0 rfl) ?_
              obtain ⟨g55, hf⟩ := gd_e hf
              refine va_iald hx hb hK hP 19 0 rfl rfl (gin_in g55) dX3_times_68 ?_
              refine lv_topi (fun v56 ev56 => ?_)
              have hf := bnd_all hf v56 ev56
              obtain ⟨x57, hx57, hf⟩ := obd_e hf
              refine sbT_Vv (As := [.int v54, .int v56]) (rest := []) ⟨hx, hb, hml, hown, hts⟩ (fun sz => c_X3_bring l dC dI cI cF cJ cD ot oh b ou od ow oa ob n5 os F52 v54 v56  x57 hx57 sz) (cwV 2 hts (g_V q401 q402 q403 q352 q397) rfl rfl rfl pc_X3_bring ⟨Nat.le_of_ble_eq_true rfl, Nat.le_of_ble_eq_true rfl⟩) 0 3 rfl rfl hK hP hD hS hA [0, 1, 2, 3, 4, 5, 6] [7, 8, 9, 10, 11, 12, 13, 14, 15, 16, 17, 18, 19] rfl rfl (by decide) (by decide) (by decide) (fun _ _ _ _ h => h) (fun _ _ _ => trivial) rfl rfl hl.1 (Nat.le_of_ble_eq_true rfl) dX3_times_69 ⟨Nat.le_trans (show (cc26 + 1) + 0 ≤ 18 by omega) (Nat.le_of_ble_eq_true rfl), Nat.le_trans (show (ss26 + 10) + 0 ≤ 189 by omega) (Nat.le_of_ble_eq_true rfl)⟩ (fun u H locs hr9 hP hD hS => ?_)
              have hP : va_P (dC, dI) vwCl ((wTD cI cF cJ ot oh b ou od ow oa ob n5 os x57 ++ (wHB cI cF cJ oh fa tr rw Hb ++ (wFR cI cF cJ q0 q1 q2 q3 q4 q5 q6 q7 q8 F ++ ([kOut cJ n5 rs6] ++ ([(n47, .inl (cI, (Int32.toNatClampNeg 3), .inl x46))]))))) ++ (kRows cI lr rs6)) H := va_P.part hP [13, 14, 15, 16, 17, 18, 19, 0, 1, 2, 3, 4, 5, 6, 7, 8, 9, 10, 11, 12] rfl
              have hD : va_D A ((wTD cI cF cJ ot oh b ou od ow oa ob n5 os x57 ++ (wHB cI cF cJ oh fa tr rw Hb ++ (wFR cI cF cJ q0 q1 q2 q3 q4 q5 q6 q7 q8 F ++ ([kOut cJ n5 rs6] ++ ([(n47, .inl (cI, (Int32.toNatClampNeg 3), .inl x46))]))))) ++ (kRows cI lr rs6)) := va_D.part hD [13, 14, 15, 16, 17, 18, 19, 0, 1, 2, 3, 4, 5, 6, 7, 8, 9, 10, 11, 12] (by decide) rfl
              obtain ⟨v58, ev58⟩ : ∃ y : Int32, y = a51 + 1 := ⟨_, rfl⟩
              have hf := bnd_all hf v58 ev58
              refine lv_iinc (v := v58) (lv' := [(5, .int v58), (0, .ref ot), (1, .int x1.1), (2, .int v3), (3, .int a40), (4, .ref n47)]) hx hb dX3_times_72 hl (k := 0) rfl (by rw [ev58]; rfl) (by decide) rfl (fun ls hl => ?_)
              refine lv_goto (tgt := 53) hx hb dX3_times_75 (by decide) ?_
              exact ih v58 x57 _ _ _ hP hD hS (lv_sub hl [0, 1, 2, 3, 4, 5] rfl) hf
        refine L53 _ (fun a59 F60 H locs ls hP hD hS hl hf => ?_) 16 0 x48 _ _ _ hP hD hS (lv_sub hl [0, 3, 4, 5, 2, 1] rfl) hf
        obtain ⟨v61, ev61⟩ : ∃ y : Int32, y = a40 + (-1) := ⟨_, rfl⟩
        have hf := bnd_all hf v61 ev61
        refine lv_iinc (v := v61) (lv' := [(3, .int v61), (0, .ref ot), (1, .int x1.1), (2, .int v3)]) hx hb dX3_times_78 hl (k := 3) rfl (by rw [ev61]; rfl) (by decide) rfl (fun ls hl => ?_)
        refine lv_goto (tgt := 26) hx hb dX3_times_81 (by decide) ?_
        have hP : va_P (dC, dI) vwCl ((wTD cI cF cJ ot oh b ou od ow oa ob n5 os F60 ++ (wHB cI cF cJ oh fa tr rw Hb ++ (wFR cI cF cJ q0 q1 q2 q3 q4 q5 q6 q7 q8 F ++ ([kOut cJ n5 rs6])))) ++ (kRows cI lr rs6)) H := va_P.part hP [0, 1, 2, 3, 4, 5, 6, 7, 8, 9, 10, 11, 12, 13, 14, 15, 16, 17, 18] rfl
        have hD : va_D A ((wTD cI cF cJ ot oh b ou od ow oa ob n5 os F60 ++ (wHB cI cF cJ oh fa tr rw Hb ++ (wFR cI cF cJ q0 q1 q2 q3 q4 q5 q6 q7 q8 F ++ ([kOut cJ n5 rs6])))) ++ (kRows cI lr rs6)) := va_D.part hD [0, 1, 2, 3, 4, 5, 6, 7, 8, 9, 10, 11, 12, 13, 14, 15, 16, 17, 18] (by decide) rfl
        exact ih v61 F60 _ _ _ (cc26 + 1) (ss26 + 10) (by omega) (by omega) hP hD hS (lv_sub hl [0, 1, 2, 3] rfl) hf
  refine L26 _ (fun a62 F63 H locs ls hP hD hS hl hf => ?_) 16 v7 x1.2 _ _ _ 2 29 (Nat.le_of_ble_eq_true rfl) (Nat.le_of_ble_eq_true rfl) hP hD hS (lv_sub hl [0, 3, 2, 1] rfl) hf
  refine lv_aload_n hx hb dX3_times_84 rfl (lv_at hl 0 rfl) ?_
  refine va_get (D := (dC, dI)) (ci := 3) (v := .ref oh) (C := RX3) (T := TX3) (N := 12) hx hb hts iX3 hown hK hP 0 rfl rfl 0 (by decide) (hts _ q332) (fun _ h9 => h9) rfl dX3_times_85 ?_
  refine lv_aload_n hx hb dX3_times_88 rfl (lv_at hl 0 rfl) ?_
  refine va_get (D := (dC, dI)) (ci := 3) (v := .int (tNu F63)) (C := RX3) (T := TX3) (N := 12) hx hb hts iX3 hown hK hP 0 rfl rfl 3 (by decide) (hts _ q343) (fun _ h9 => h9) rfl dX3_times_89 ?_
  obtain ⟨g64, hf⟩ := gd_e hf
  refine sb_topv (v' := .int (tNu T)) (congrArg Value.int (gdec_e g64)) ?_
  refine lv_iload_n hx hb dX3_times_92 rfl (lv_at hl 1 rfl) ?_
  obtain ⟨x65, hx65, hf⟩ := obd_e hf
  refine sbT_Vi (As := [.int (tNu T), .int x1.1]) (rest := []) ⟨hx, hb, hml, hown, hts⟩ (fun sz => c_X2_times l dC dI cI cF cJ cD oh fa tr q0 q1 q2 q3 q4 q5 q6 q7 q8 rw Hb F (tNu T) x1.1 hq x65 hx65 sz) (cwV 2 hts (g_V q430 q431 q432 q172 q221) rfl rfl rfl pc_X2_times ⟨Nat.le_of_ble_eq_true rfl, Nat.le_of_ble_eq_true rfl⟩) 0 2 rfl rfl hK hP hD hS hA [7, 8, 9, 10, 11, 12, 13, 14, 15, 16, 17] [0, 1, 2, 3, 4, 5, 6, 18] rfl rfl (by decide) (by decide) (by decide) (fun _ _ _ _ h => h) (fun _ _ _ => trivial) rfl rfl hl.1 (Nat.le_of_ble_eq_true rfl) dX3_times_93 ⟨Nat.le_of_ble_eq_true rfl, Nat.le_of_ble_eq_true rfl⟩ (fun r9 u H locs hr9 hP hD hS => ?_)
  have hr9 := Eq.symm hr9
  subst hr9
  have hP : va_P (dC, dI) vwCl ((wTD cI cF cJ ot oh b ou od ow oa ob n5 os F63 ++ (wHB cI cF cJ oh fa tr rw Hb ++ (wFR cI cF cJ q0 q1 q2 q3 q4 q5 q6 q7 q8 x65.2 ++ ([kOut cJ n5 rs6])))) ++ (kRows cI lr rs6)) H := va_P.part hP [0, 1, 2, 3, 4, 5, 6, 8, 9, 10, 11, 12, 13, 14, 15, 16, 17, 18, 7] rfl
  have hD : va_D A ((wTD cI cF cJ ot oh b ou od ow oa ob n5 os F63 ++ (wHB cI cF cJ oh fa tr rw Hb ++ (wFR cI cF cJ q0 q1 q2 q3 q4 q5 q6 q7 q8 x65.2 ++ ([kOut cJ n5 rs6])))) ++ (kRows cI lr rs6)) := va_D.part hD [0, 1, 2, 3, 4, 5, 6, 8, 9, 10, 11, 12, 13, 14, 15, 16, 17, 18, 7] (by decide) rfl
  refine lv_aload_n hx hb dX3_times_96 rfl (lv_at hl 0 rfl) ?_
  refine va_get (D := (dC, dI)) (ci := 3) (v := .ref os) (C := RX3) (T := TX3) (N := 12) hx hb hts iX3 hown hK hP 0 rfl rfl 9 (by decide) (hts _ q331) (fun _ h9 => h9) rfl dX3_times_97 ?_
  refine lv_iconst (v := 4) hx hb dX3_times_100 (by decide) ?_
  obtain ⟨g66, hf⟩ := gd_e hf
  refine va_iald hx hb hK hP 6 0 rfl rfl (gin_in g66) dX3_times_101 ?_
  refine lv_topi (fun v67 ev67 => ?_)
  have hf := bnd_all hf v67 ev67
  refine lv_iload_n hx hb dX3_times_102 rfl (lv_at hl 2 rfl) ?_
  refine lv_isub hx hb dX3_times_103 ?_
  refine lv_topi (fun v68 ev68 => ?_)
  have hf := bnd_all hf v68 ev68
  refine lv_icmp_ne (tgt := 111) hx hb dX3_times_104 (by decide) (fun c69 => ?_) (fun c69 => ?_)
  · have hf := ite_f hf c69
    refine lv_iconst (v := 0) hx hb dX3_times_111 (by decide) ?_
    obtain rfl := Option.some.inj hf
    exact W.zret (v := 0) hx hb hr (by rfl) (fun t ht hW => ⟨⟨_, (n5, rs6), rfl, ⟨rfl, hrs6⟩, by rw [ht]; exact hP, hD⟩, hS.F ht⟩) hS.2.2 dX3_times_112
  · have hf := ite_t hf c69
    refine lv_iconst (v := 1) hx hb dX3_times_107 (by decide) ?_
    refine lv_goto (tgt := 112) hx hb dX3_times_108 (by decide) ?_
    obtain rfl := Option.some.inj hf
    exact W.zret (v := 1) hx hb hr (by rfl) (fun t ht hW => ⟨⟨_, (n5, rs6), rfl, ⟨rfl, hrs6⟩, by rw [ht]; exact hP, hD⟩, hS.F ht⟩) hS.2.2 dX3_times_112
