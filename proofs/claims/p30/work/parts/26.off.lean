-- laid by wip/p30/specs.py
noncomputable def l_X3_off_155 (c1 : Int32) (c2 : Int32) (c4 : Int32) (c5 : Int32) (R1 : HB) (R2 : FR) (R3 : KO) (R4 : (Nat → Int32)) (R5 : (Nat → Int32)) (N4 : Nat) (N5 : Nat) (L : Nat) (xs : (Nat → Int32)) (lr : Nat) (k : Int32 → TD → Option (Int32 × TD × FR × KO)) : Nat → Int32 → TD → Option (Int32 × TD × FR × KO)
  | 0, _, _ => none
  | n + 1, a40, F41 => obd (f_X3_value F41 a40) fun x42 => if x42 = 0 then (bnd (a40 + 1) fun (v44 : Int32) => l_X3_off_155 c1 c2 c4 c5 R1 R2 R3 R4 R5 N4 N5 L xs lr k n v44 F41) else (k a40 F41)
noncomputable def l_X3_off_190 (c1 : Int32) (c2 : Int32) (c4 : Int32) (c5 : Int32) (R1 : HB) (R2 : FR) (R3 : KO) (R4 : (Nat → Int32)) (R5 : (Nat → Int32)) (N4 : Nat) (N5 : Nat) (L : Nat) (xs : (Nat → Int32)) (lr : Nat) (k : Int32 → TD → Option (Int32 × TD × FR × KO)) : Nat → Int32 → TD → Option (Int32 × TD × FR × KO)
  | 0, _, _ => none
  | n + 1, a58, F59 => if a58 ≤ c4 then (k a58 F59) else (obd (f_X3_set F59 a58 9) fun x61 => bnd (a58 + (-1)) fun (v62 : Int32) => l_X3_off_190 c1 c2 c4 c5 R1 R2 R3 R4 R5 N4 N5 L xs lr k n v62 x61)
noncomputable def l_X3_off_126 (c1 : Int32) (c2 : Int32) (R1 : HB) (R2 : FR) (R3 : KO) (R4 : (Nat → Int32)) (R5 : (Nat → Int32)) (N4 : Nat) (N5 : Nat) (L : Nat) (xs : (Nat → Int32)) (lr : Nat) (k : Int32 → TD → Option (Int32 × TD × FR × KO)) : Nat → Int32 → TD → Option (Int32 × TD × FR × KO)
  | 0, _, _ => none
  | n + 1, a29, F30 => if a29 < 0 then (k a29 F30) else (obd (f_X3_value F30 a29) fun x32 => gd (gin a29 N5) <| bnd (R5 (Int32.toNatClampNeg a29)) fun (v34 : Int32) => bnd (x32 - v34) fun (v35 : Int32) => if (0 : Int32) ≤ v35 then (obd (f_X3_set F30 a29 v35) fun x37 => bnd (a29 + (-1)) fun (v38 : Int32) => l_X3_off_126 c1 c2 R1 R2 R3 R4 R5 N4 N5 L xs lr k n v38 x37) else (bnd (a29 + 1) fun (v39 : Int32) => l_X3_off_155 c1 c2 a29 v35 R1 R2 R3 R4 R5 N4 N5 L xs lr (fun (a52 : Int32) (F53 : TD) => obd (f_X3_value F53 a52) fun x54 => bnd (x54 - 1) fun (v55 : Int32) => obd (f_X3_set F53 a52 v55) fun x56 => bnd (a52 - 1) fun (v57 : Int32) => l_X3_off_190 c1 c2 a29 v35 R1 R2 R3 R4 R5 N4 N5 L xs lr (fun (a70 : Int32) (F71 : TD) => bnd (v35 + 10) fun (v72 : Int32) => gd (gin 3 5) <| bnd ((tSm F71) (Int32.toNatClampNeg 3)) fun (v74 : Int32) => bnd (v74 + 1) fun (v75 : Int32) => gd (gin 3 5) <| obd (f_X3_set (stSm F71 (upd (tSm F71) (Int32.toNatClampNeg 3) v75)) a29 v72) fun x77 => bnd (a29 + (-1)) fun (v78 : Int32) => l_X3_off_126 c1 c2 R1 R2 R3 R4 R5 N4 N5 L xs lr k n v78 x77) 16 v57 x56) 16 v39 F30))
noncomputable def f_X3_off (L : Nat) (xs : Nat → Int32) (lr : Nat) (T : TD) (Hb : HB) (F : FR) (K : KO) : Option (Int32 × TD × FR × KO) := obd (f_X3_draw L xs T 2) fun x1 => jn (fun (b2 : Int32) (F3 : TD) => if (99999999 : Int32) < b2 then (some (1, F3, F, K)) else (bnd (b2.toInt64) fun (v5 : Int64) => obd (f_X3_digits v5 10) fun x6 => gd (gin (nI (tN F3)) (Int32.toNatClampNeg 10)) <| bnd (x6 (Int32.toNatClampNeg (nI (tN F3)))) fun (v9 : Int32) => if v9 ≤ 0 then (obd (f_X3_isTidy F3) fun x11 => if x11 = 0 then (gd (gdec ((tNu F3) = (tNu T))) <| obd (f_X2_off Hb F (tNu T) b2) fun x14 => if x14.1 = (-2) then (some (1, F3, x14.2, K)) else (some (0, F3, x14.2, K))) else (bnd (b2.toInt64) fun (v16 : Int64) => obd (f_X3_total F3) fun x17 => bnd (lg_cmp v16 x17) fun (v18 : Int32) => if v18 ≤ 0 then (gd (gin 0 5) <| bnd ((tSm F3) (Int32.toNatClampNeg 0)) fun (v21 : Int32) => obd (f_X3_keep lr F3 K) fun x22 => bnd (b2.toInt64) fun (v25 : Int64) => obd (f_X3_digits v25 (nI (tN F3))) fun x26 => bnd ((nI (tN F3)) - 1) fun (v28 : Int32) => l_X3_off_126 b2 v21 Hb F x22 x6 x26 (Int32.toNatClampNeg 10) (Int32.toNatClampNeg (nI (tN F3))) L xs lr (fun (a121 : Int32) (F122 : TD) => gd (gdec ((tNu F122) = (tNu T))) <| obd (f_X2_off Hb F (tNu T) b2) fun x124 => gd (gin 0 5) <| bnd ((tSm F122) (Int32.toNatClampNeg 0)) fun (v126 : Int32) => bnd (v126 - v21) fun (v127 : Int32) => if x124.1 = v127 then (some (1, F122, x124.2, x22)) else (some (0, F122, x124.2, x22))) 16 v28 F3) else (gd (gdec ((tNu F3) = (tNu T))) <| obd (f_X2_off Hb F (tNu T) b2) fun x130 => if x130.1 = (-2) then (some (1, F3, x130.2, K)) else (some (0, F3, x130.2, K))))) else (some (1, F3, F, K)))) fun J30 => if x1.1 = 0 then (obd (f_X3_some L xs x1.2) fun x220 => J30 x220.1 x220.2) else (obd (f_X3_total x1.2) fun x213 => obd (f_X3_draw L xs x1.2 9) fun x214 => bnd (1 + x214.1) fun (v215 : Int32) => bnd (v215.toInt64) fun (v216 : Int64) => gd (nz64 v216) <| bnd (x213 / v216) fun (v218 : Int64) => bnd (v218.toInt32) fun (v219 : Int32) => J30 v219 x214.2)
theorem pc_X3_off : yX3_off.cls = RX3 ∧ yX3_off.cls ≠ "java/lang/invoke/MethodHandle" ∧ yX3_off.cls ≠ "java/lang/invoke/VarHandle" ∧ (parseMethodDescriptor yX3_off.desc).map (fun d => d.parameters.length) = some 0 := by decide +kernel
abbrev rm_X3_off : Room := { frames := 6, cells := 4, slots := 49, locals := 152 }
set_option maxHeartbeats 4000000 in
set_option maxRecDepth 100000 in
theorem c_X3_off (l : Launch) (dC : Nat → ClassId) (dI : Nat → Nat → Nat) (cI cF cJ cD : ClassId) (b L : Nat) (xs : Nat → Int32) (tA tB : Nat) (lr : Nat) (ot oh ou od ow oa ob ok os fa tr q0 q1 q2 q3 q4 q5 q6 q7 q8 : Nat) (rw : Nat → Option Nat) (rs : RS) (T : TD) (Hb : HB) (F : FR) (K : KO) (hq : f_X2_frameAt rw (tNu T) = some (some q0)) (hrs : rs.map Prod.snd = K) (res : (Int32 × TD × FR × KO)) (hf : f_X3_off L xs lr T Hb F K = some res) (sz : Nat) : Met l yX3_off (ws_ yX3_off cX3_off 8 (some .boolean)) rm_X3_off (sbPre (dC, dI) (TY cI cF cJ cD) ((wTD cI cF cJ ot oh b ou od ow oa ob ok os T ++ (wHB cI cF cJ oh fa tr rw Hb ++ (wFR cI cF cJ q0 q1 q2 q3 q4 q5 q6 q7 q8 F ++ ([kOut cJ ok rs])))) ++ (kRows cI lr rs)) (fun sz U => EX b L xs tA tB (va_A ((wTD cI cF cJ ot oh b ou od ow oa ob ok os T ++ (wHB cI cF cJ oh fa tr rw Hb ++ (wFR cI cF cJ q0 q1 q2 q3 q4 q5 q6 q7 q8 F ++ ([kOut cJ ok rs])))) ++ (kRows cI lr rs)) sz) U) sz [.ref ot]) (va_Qi (fun (r : Int32) (u : Nat × RS) => r = res.1 ∧ u.2.map Prod.snd = res.2.2.2) (sbEnd (dC, dI) (fun (u : Nat × RS) => (wTD cI cF cJ ot oh b ou od ow oa ob u.1 os res.2.1 ++ (wHB cI cF cJ oh fa tr rw Hb ++ (wFR cI cF cJ q0 q1 q2 q3 q4 q5 q6 q7 q8 res.2.2.1 ++ ([kOut cJ u.1 u.2])))) ++ (kRows cI lr u.2)) (va_A ((wTD cI cF cJ ot oh b ou od ow oa ob ok os T ++ (wHB cI cF cJ oh fa tr rw Hb ++ (wFR cI cF cJ q0 q1 q2 q3 q4 q5 q6 q7 q8 F ++ ([kOut cJ ok rs])))) ++ (kRows cI lr rs)) sz)) (va_A ((wTD cI cF cJ ot oh b ou od ow oa ob ok os T ++ (wHB cI cF cJ oh fa tr rw Hb ++ (wFR cI cF cJ q0 q1 q2 q3 q4 q5 q6 q7 q8 F ++ ([kOut cJ ok rs])))) ++ (kRows cI lr rs)) sz)) 4 49 (va_A ((wTD cI cF cJ ot oh b ou od ow oa ob ok os T ++ (wHB cI cF cJ oh fa tr rw Hb ++ (wFR cI cF cJ q0 q1 q2 q3 q4 q5 q6 q7 q8 F ++ ([kOut cJ ok rs])))) ++ (kRows cI lr rs)) sz) := by
  refine Met.ofW (cc := cX3_off) (maxL := 8) (ret := (some .boolean)) (by decide) rfl ?_
  intro p e s m args below meth c s₁ B hml hv
  obtain ⟨rfl, hsz, hP, hK, hD0, hE⟩ := hv
  have hx := B.exec
  have hb := B.bytes
  have hr := B.returns
  have hts0 := atoms_spec (ws := ws_ yX3_off cX3_off 8 (some .boolean)) B.pre
  have hts := fun (w : Cond) (h : w ∈ LW) => hts0 w (List.mem_cons_of_mem _ h)
  have hown : s.vm.findClass RX3 = some m.cls := findClass_of_methodNamed B.named
  have hlocks := B.notSynchronized
  subst hsz
  have hD := hD0.self (sz := s.heap.size)
  have hE : EX b L xs tA tB (va_A ((wTD cI cF cJ ot oh b ou od ow oa ob ok os T ++ (wHB cI cF cJ oh fa tr rw Hb ++ (wFR cI cF cJ q0 q1 q2 q3 q4 q5 q6 q7 q8 F ++ ([kOut cJ ok rs])))) ++ (kRows cI lr rs)) s.heap.size) s := hE
  generalize hAe : va_A ((wTD cI cF cJ ot oh b ou od ow oa ob ok os T ++ (wHB cI cF cJ oh fa tr rw Hb ++ (wFR cI cF cJ q0 q1 q2 q3 q4 q5 q6 q7 q8 F ++ ([kOut cJ ok rs])))) ++ (kRows cI lr rs)) s.heap.size = A at hD hE ⊢
  have hA : ∀ q : Nat, s.heap.size ≤ q → A q := fun q h => by rw [← hAe]; exact Or.inr h
  have hS : va_S A s.heap s.heap [] := va_S.rf
  have hkc := Nat.zero_le rm_X3_off.cells
  have hks := Nat.zero_le rm_X3_off.slots
  have hl := lv_entry ([.ref ot]) (n := 8) (Nat.le_of_ble_eq_true rfl)
  rw [lg_entry_eq]
  generalize (lg_sl ([.ref ot]) ++ List.replicate (8 - (lg_sl ([.ref ot])).length) Slot.unset).toArray = ls at hl ⊢
  have hl : lv_has ls 8 [(0, .ref ot)] := hl
  rw [f_X3_off] at hf
  refine lv_aload_n hx hb dX3_off_0 rfl (lv_at hl 0 rfl) ?_
  refine lv_iconst (v := 2) hx hb dX3_off_1 (by decide) ?_
  obtain ⟨x1, hx1, hf⟩ := obd_e hf
  refine sbT_Vi (As := [.int 2]) (rest := []) ⟨hx, hb, hml, hown, hts⟩ (fun sz => c_X3_draw l dC dI cI cF cJ cD b L xs tA tB ot oh ou od ow oa ob ok os T 2  x1 hx1 sz) (cwV 1 hts (g_V q349 q350 q351 q352 q339) rfl rfl rfl pc_X3_draw ⟨Nat.le_of_ble_eq_true rfl, Nat.le_of_ble_eq_true rfl⟩) 0 3 rfl rfl hK hP hD hS hA [0, 1, 2, 3, 4, 5, 6] [7, 8, 9, 10, 11, 12, 13, 14, 15, 16, 17, 18] rfl rfl (by decide) (by decide) (by decide) EX_blind (fun U hU hW => EX_pass hE hS (va_free hD.left hS hA [0, 1, 2, 3, 4, 5, 6] rfl) hU hW) rfl rfl hl.1 (Nat.le_of_ble_eq_true rfl) dX3_off_2 ⟨hkc, hks⟩ (fun r9 u H locs hr9 hP hD hS => ?_)
  have hr9 := Eq.symm hr9
  subst hr9
  have hP : va_P (dC, dI) vwCl ((wTD cI cF cJ ot oh b ou od ow oa ob ok os x1.2 ++ (wHB cI cF cJ oh fa tr rw Hb ++ (wFR cI cF cJ q0 q1 q2 q3 q4 q5 q6 q7 q8 F ++ ([kOut cJ ok rs])))) ++ (kRows cI lr rs)) H := va_P.part hP [12, 13, 14, 15, 16, 17, 18, 0, 1, 2, 3, 4, 5, 6, 7, 8, 9, 10, 11] rfl
  have hD : va_D A ((wTD cI cF cJ ot oh b ou od ow oa ob ok os x1.2 ++ (wHB cI cF cJ oh fa tr rw Hb ++ (wFR cI cF cJ q0 q1 q2 q3 q4 q5 q6 q7 q8 F ++ ([kOut cJ ok rs])))) ++ (kRows cI lr rs)) := va_D.part hD [12, 13, 14, 15, 16, 17, 18, 0, 1, 2, 3, 4, 5, 6, 7, 8, 9, 10, 11] (by decide) rfl
  obtain ⟨J30, eJ30, hf⟩ := jn_e hf
  have hJ30 : ∀ (b132 : Int32) (F133 : TD) (H : Heap) (locs : List Loc) (ls : Array Slot), va_P (dC, dI) vwCl ((wTD cI cF cJ ot oh b ou od ow oa ob ok os F133 ++ (wHB cI cF cJ oh fa tr rw Hb ++ (wFR cI cF cJ q0 q1 q2 q3 q4 q5 q6 q7 q8 F ++ ([kOut cJ ok rs])))) ++ (kRows cI lr rs)) H → va_D A ((wTD cI cF cJ ot oh b ou od ow oa ob ok os F133 ++ (wHB cI cF cJ oh fa tr rw Hb ++ (wFR cI cF cJ q0 q1 q2 q3 q4 q5 q6 q7 q8 F ++ ([kOut cJ ok rs])))) ++ (kRows cI lr rs)) → va_S A s.heap H locs → lv_has ls 8 [(0, .ref ot)] → J30 b132 F133 = some res → W p l e (headSpec (ws_ yX3_off cX3_off 8 (some .boolean)) rm_X3_off).room s m ([.ref ot].toArray) below meth c H locs 0 0 (MQ below (va_Qi (fun (r : Int32) (u : Nat × RS) => r = res.1 ∧ u.2.map Prod.snd = res.2.2.2) (sbEnd (dC, dI) (fun (u : Nat × RS) => (wTD cI cF cJ ot oh b ou od ow oa ob u.1 os res.2.1 ++ (wHB cI cF cJ oh fa tr rw Hb ++ (wFR cI cF cJ q0 q1 q2 q3 q4 q5 q6 q7 q8 res.2.2.1 ++ ([kOut cJ u.1 u.2])))) ++ (kRows cI lr u.2)) (A)) (A)) ([.ref ot].toArray) s 4 49 A) (F0 m 30 ls [.int b132]) := by
    intro b132 F133 H locs ls hP hD hS hl hf
    subst eJ30
    refine lv_istore_n (lv' := [(1, .int b132), (0, .ref ot)]) hx hb dX3_off_30 rfl hl (by decide) rfl (fun ls hl => ?_)
    refine lv_iload_n hx hb dX3_off_31 rfl (lv_at hl 0 rfl) ?_
    refine lv_ldc hx hb hown (hts _ q419) dX3_off_32 ?_
    refine lv_icmp_gt (tgt := 53) hx hb dX3_off_34 (by decide) (fun c134 => ?_) (fun c134 => ?_)
    · have hf := ite_t hf c134
      refine lv_iconst (v := 1) hx hb dX3_off_53 (by decide) ?_
      refine W.widen (k := 4) (n := 49) (Nat.le_of_ble_eq_true rfl) (Nat.le_of_ble_eq_true rfl) ?_
      obtain rfl := Option.some.inj hf
      exact W.zret (v := 1) hx hb hr (by rfl) (fun t ht hW => ⟨⟨_, (ok, rs), rfl, ⟨rfl, hrs⟩, by rw [ht]; exact hP, hD⟩, hS.F ht⟩) hS.2.2 dX3_off_54
    · have hf := ite_f hf c134
      refine lv_iload_n hx hb dX3_off_37 rfl (lv_at hl 0 rfl) ?_
      refine lv_i2l hx hb dX3_off_38 rfl ?_
      refine lv_topl (fun v135 ev135 => ?_)
      have hf := bnd_all hf v135 ev135
      refine lv_bipush (v := 10) hx hb dX3_off_39 (by decide) ?_
      obtain ⟨x136, hx136, hf⟩ := obd_e hf
      refine sbT_Sq (As := [.long v135, .int 10]) (rest := []) ⟨hx, hb, hml, hown, hts⟩ (fun sz => c_X3_digits l dC dI cI cF cJ cD  v135 10  x136 hx136 sz) (va_cwS 2 hts (g_S q399 q400 q352 q398) rfl rfl rfl ps_X3_digits ⟨Nat.le_of_ble_eq_true rfl, Nat.le_of_ble_eq_true rfl⟩)  hK hP hD hS hA [] [0, 1, 2, 3, 4, 5, 6, 7, 8, 9, 10, 11, 12, 13, 14, 15, 16, 17, 18] rfl rfl (by decide) (by decide) (by decide) (fun _ _ _ _ h => h) (fun _ _ _ => trivial) rfl rfl hl.1 (Nat.le_of_ble_eq_true rfl) dX3_off_41 ⟨Nat.le_of_ble_eq_true rfl, Nat.le_of_ble_eq_true rfl⟩ (fun r9 u H locs hr9 hP hD hS => ?_)
      refine W.widen (k := 1) (n := 10) (Nat.le_refl _) (Nat.le_refl _) ?_
      have hr9 := Eq.symm hr9
      subst hr9
      obtain ⟨n137, en137⟩ : ∃ z, z = u := ⟨_, rfl⟩
      subst en137
      have hP : va_P (dC, dI) vwCl ((wTD cI cF cJ ot oh b ou od ow oa ob ok os F133 ++ (wHB cI cF cJ oh fa tr rw Hb ++ (wFR cI cF cJ q0 q1 q2 q3 q4 q5 q6 q7 q8 F ++ ([kOut cJ ok rs] ++ ([(n137, .inl (cI, (Int32.toNatClampNeg 10), .inl x136))]))))) ++ (kRows cI lr rs)) H := hP
      have hD : va_D A ((wTD cI cF cJ ot oh b ou od ow oa ob ok os F133 ++ (wHB cI cF cJ oh fa tr rw Hb ++ (wFR cI cF cJ q0 q1 q2 q3 q4 q5 q6 q7 q8 F ++ ([kOut cJ ok rs] ++ ([(n137, .inl (cI, (Int32.toNatClampNeg 10), .inl x136))]))))) ++ (kRows cI lr rs)) := hD
      refine lv_aload_n hx hb dX3_off_44 rfl (lv_at hl 1 rfl) ?_
      refine va_get (D := (dC, dI)) (ci := 3) (v := .ref ou) (C := RX3) (T := TX3) (N := 12) hx hb hts iX3 hown hK hP 0 rfl rfl 5 (by decide) (hts _ q345) (fun _ h9 => h9) rfl dX3_off_45 ?_
      refine va_alen (v := (nI (tN F133))) hx hb hK hP 1 0 rfl rfl rfl dX3_off_48 ?_
      obtain ⟨g138, hf⟩ := gd_e hf
      refine va_iald hx hb hK hP 19 0 rfl rfl (gin_in g138) dX3_off_49 ?_
      refine lv_topi (fun v139 ev139 => ?_)
      have hf := bnd_all hf v139 ev139
      refine lv_if_le (tgt := 55) hx hb dX3_off_50 (by decide) (fun c140 => ?_) (fun c140 => ?_)
      · have hf := ite_t hf c140
        refine lv_aload_n hx hb dX3_off_55 rfl (lv_at hl 1 rfl) ?_
        obtain ⟨x141, hx141, hf⟩ := obd_e hf
        refine sbT_Vi (As := []) (rest := []) ⟨hx, hb, hml, hown, hts⟩ (fun sz => c_X3_isTidy l dC dI cI cF cJ cD ot oh b ou od ow oa ob ok os F133  x141 hx141 sz) (cwV 0 hts (g_V q423 q424 q425 q352 q372) rfl rfl rfl pc_X3_isTidy ⟨Nat.le_of_ble_eq_true rfl, Nat.le_of_ble_eq_true rfl⟩) 0 3 rfl rfl hK hP hD hS hA [0, 1, 2, 3, 4, 5, 6] [7, 8, 9, 10, 11, 12, 13, 14, 15, 16, 17, 18, 19] rfl rfl (by decide) (by decide) (by decide) (fun _ _ _ _ h => h) (fun _ _ _ => trivial) rfl rfl hl.1 (Nat.le_of_ble_eq_true rfl) dX3_off_56 ⟨Nat.le_of_ble_eq_true rfl, Nat.le_of_ble_eq_true rfl⟩ (fun r9 u H locs hr9 hP hD hS => ?_)
        have hr9 := Eq.symm hr9
        subst hr9
        have hP : va_P (dC, dI) vwCl ((wTD cI cF cJ ot oh b ou od ow oa ob ok os F133 ++ (wHB cI cF cJ oh fa tr rw Hb ++ (wFR cI cF cJ q0 q1 q2 q3 q4 q5 q6 q7 q8 F ++ ([kOut cJ ok rs] ++ ([(n137, .inl (cI, (Int32.toNatClampNeg 10), .inl x136))]))))) ++ (kRows cI lr rs)) H := va_P.part hP [13, 14, 15, 16, 17, 18, 19, 0, 1, 2, 3, 4, 5, 6, 7, 8, 9, 10, 11, 12] rfl
        have hD : va_D A ((wTD cI cF cJ ot oh b ou od ow oa ob ok os F133 ++ (wHB cI cF cJ oh fa tr rw Hb ++ (wFR cI cF cJ q0 q1 q2 q3 q4 q5 q6 q7 q8 F ++ ([kOut cJ ok rs] ++ ([(n137, .inl (cI, (Int32.toNatClampNeg 10), .inl x136))]))))) ++ (kRows cI lr rs)) := va_D.part hD [13, 14, 15, 16, 17, 18, 19, 0, 1, 2, 3, 4, 5, 6, 7, 8, 9, 10, 11, 12] (by decide) rfl
        refine lv_if_eq (tgt := 72) hx hb dX3_off_59 (by decide) (fun c142 => ?_) (fun c142 => ?_)
        · have hf := ite_t hf c142
          refine lv_aload_n hx hb dX3_off_72 rfl (lv_at hl 1 rfl) ?_
          refine va_get (D := (dC, dI)) (ci := 3) (v := .ref oh) (C := RX3) (T := TX3) (N := 12) hx hb hts iX3 hown hK hP 0 rfl rfl 0 (by decide) (hts _ q332) (fun _ h9 => h9) rfl dX3_off_73 ?_
          refine lv_aload_n hx hb dX3_off_76 rfl (lv_at hl 1 rfl) ?_
          refine va_get (D := (dC, dI)) (ci := 3) (v := .int (tNu F133)) (C := RX3) (T := TX3) (N := 12) hx hb hts iX3 hown hK hP 0 rfl rfl 3 (by decide) (hts _ q343) (fun _ h9 => h9) rfl dX3_off_77 ?_
          obtain ⟨g143, hf⟩ := gd_e hf
          refine sb_topv (v' := .int (tNu T)) (congrArg Value.int (gdec_e g143)) ?_
          refine lv_iload_n hx hb dX3_off_80 rfl (lv_at hl 0 rfl) ?_
          obtain ⟨x144, hx144, hf⟩ := obd_e hf
          refine sbT_Vi (As := [.int (tNu T), .int b132]) (rest := []) ⟨hx, hb, hml, hown, hts⟩ (fun sz => c_X2_off l dC dI cI cF cJ cD oh fa tr q0 q1 q2 q3 q4 q5 q6 q7 q8 rw Hb F (tNu T) b132 hq x144 hx144 sz) (cwV 2 hts (g_V q426 q427 q428 q172 q216) rfl rfl rfl pc_X2_off ⟨Nat.le_of_ble_eq_true rfl, Nat.le_of_ble_eq_true rfl⟩) 0 2 rfl rfl hK hP hD hS hA [7, 8, 9, 10, 11, 12, 13, 14, 15, 16, 17] [0, 1, 2, 3, 4, 5, 6, 18, 19] rfl rfl (by decide) (by decide) (by decide) (fun _ _ _ _ h => h) (fun _ _ _ => trivial) rfl rfl hl.1 (Nat.le_of_ble_eq_true rfl) dX3_off_81 ⟨Nat.le_of_ble_eq_true rfl, Nat.le_of_ble_eq_true rfl⟩ (fun r9 u H locs hr9 hP hD hS => ?_)
          have hr9 := Eq.symm hr9
          subst hr9
          have hP : va_P (dC, dI) vwCl ((wTD cI cF cJ ot oh b ou od ow oa ob ok os F133 ++ (wHB cI cF cJ oh fa tr rw Hb ++ (wFR cI cF cJ q0 q1 q2 q3 q4 q5 q6 q7 q8 x144.2 ++ ([kOut cJ ok rs] ++ ([(n137, .inl (cI, (Int32.toNatClampNeg 10), .inl x136))]))))) ++ (kRows cI lr rs)) H := va_P.part hP [0, 1, 2, 3, 4, 5, 6, 9, 10, 11, 12, 13, 14, 15, 16, 17, 18, 19, 7, 8] rfl
          have hD : va_D A ((wTD cI cF cJ ot oh b ou od ow oa ob ok os F133 ++ (wHB cI cF cJ oh fa tr rw Hb ++ (wFR cI cF cJ q0 q1 q2 q3 q4 q5 q6 q7 q8 x144.2 ++ ([kOut cJ ok rs] ++ ([(n137, .inl (cI, (Int32.toNatClampNeg 10), .inl x136))]))))) ++ (kRows cI lr rs)) := va_D.part hD [0, 1, 2, 3, 4, 5, 6, 9, 10, 11, 12, 13, 14, 15, 16, 17, 18, 19, 7, 8] (by decide) rfl
          refine lv_bipush (v := (-2)) hx hb dX3_off_84 (by decide) ?_
          refine lv_icmp_ne (tgt := 93) hx hb dX3_off_86 (by decide) (fun c145 => ?_) (fun c145 => ?_)
          · have hf := ite_f hf c145
            refine lv_iconst (v := 0) hx hb dX3_off_93 (by decide) ?_
            have hP : va_P (dC, dI) vwCl ((wTD cI cF cJ ot oh b ou od ow oa ob ok os F133 ++ (wHB cI cF cJ oh fa tr rw Hb ++ (wFR cI cF cJ q0 q1 q2 q3 q4 q5 q6 q7 q8 x144.2 ++ ([kOut cJ ok rs])))) ++ (kRows cI lr rs)) H := va_P.part hP [0, 1, 2, 3, 4, 5, 6, 7, 8, 9, 10, 11, 12, 13, 14, 15, 16, 17, 18] rfl
            have hD : va_D A ((wTD cI cF cJ ot oh b ou od ow oa ob ok os F133 ++ (wHB cI cF cJ oh fa tr rw Hb ++ (wFR cI cF cJ q0 q1 q2 q3 q4 q5 q6 q7 q8 x144.2 ++ ([kOut cJ ok rs])))) ++ (kRows cI lr rs)) := va_D.part hD [0, 1, 2, 3, 4, 5, 6, 7, 8, 9, 10, 11, 12, 13, 14, 15, 16, 17, 18] (by decide) rfl
            refine W.widen (k := 4) (n := 49) (Nat.le_of_ble_eq_true rfl) (Nat.le_of_ble_eq_true rfl) ?_
            obtain rfl := Option.some.inj hf
            exact W.zret (v := 0) hx hb hr (by rfl) (fun t ht hW => ⟨⟨_, (ok, rs), rfl, ⟨rfl, hrs⟩, by rw [ht]; exact hP, hD⟩, hS.F ht⟩) hS.2.2 dX3_off_94
          · have hf := ite_t hf c145
            refine lv_iconst (v := 1) hx hb dX3_off_89 (by decide) ?_
            refine lv_goto (tgt := 94) hx hb dX3_off_90 (by decide) ?_
            have hP : va_P (dC, dI) vwCl ((wTD cI cF cJ ot oh b ou od ow oa ob ok os F133 ++ (wHB cI cF cJ oh fa tr rw Hb ++ (wFR cI cF cJ q0 q1 q2 q3 q4 q5 q6 q7 q8 x144.2 ++ ([kOut cJ ok rs])))) ++ (kRows cI lr rs)) H := va_P.part hP [0, 1, 2, 3, 4, 5, 6, 7, 8, 9, 10, 11, 12, 13, 14, 15, 16, 17, 18] rfl
            have hD : va_D A ((wTD cI cF cJ ot oh b ou od ow oa ob ok os F133 ++ (wHB cI cF cJ oh fa tr rw Hb ++ (wFR cI cF cJ q0 q1 q2 q3 q4 q5 q6 q7 q8 x144.2 ++ ([kOut cJ ok rs])))) ++ (kRows cI lr rs)) := va_D.part hD [0, 1, 2, 3, 4, 5, 6, 7, 8, 9, 10, 11, 12, 13, 14, 15, 16, 17, 18] (by decide) rfl
            refine W.widen (k := 4) (n := 49) (Nat.le_of_ble_eq_true rfl) (Nat.le_of_ble_eq_true rfl) ?_
            obtain rfl := Option.some.inj hf
            exact W.zret (v := 1) hx hb hr (by rfl) (fun t ht hW => ⟨⟨_, (ok, rs), rfl, ⟨rfl, hrs⟩, by rw [ht]; exact hP, hD⟩, hS.F ht⟩) hS.2.2 dX3_off_94
        · have hf := ite_f hf c142
          refine lv_iload_n hx hb dX3_off_62 rfl (lv_at hl 0 rfl) ?_
          refine lv_i2l hx hb dX3_off_63 rfl ?_
          refine lv_topl (fun v146 ev146 => ?_)
          have hf := bnd_all hf v146 ev146
          refine lv_aload_n hx hb dX3_off_64 rfl (lv_at hl 1 rfl) ?_
          obtain ⟨x147, hx147, hf⟩ := obd_e hf
          refine sbT_Vl (As := []) (rest := [.long v146]) ⟨hx, hb, hml, hown, hts⟩ (fun sz => c_X3_total l dC dI cI cF cJ cD ot oh b ou od ow oa ob ok os F133  x147 hx147 sz) (cwV 0 hts (g_V q420 q421 q422 q352 q367) rfl rfl rfl pc_X3_total ⟨Nat.le_of_ble_eq_true rfl, Nat.le_of_ble_eq_true rfl⟩) 0 3 rfl rfl hK hP hD hS hA [0, 1, 2, 3, 4, 5, 6] [7, 8, 9, 10, 11, 12, 13, 14, 15, 16, 17, 18, 19] rfl rfl (by decide) (by decide) (by decide) (fun _ _ _ _ h => h) (fun _ _ _ => trivial) rfl rfl hl.1 (Nat.le_of_ble_eq_true rfl) dX3_off_65 ⟨Nat.le_of_ble_eq_true rfl, Nat.le_of_ble_eq_true rfl⟩ (fun r9 u H locs hr9 hP hD hS => ?_)
          have hr9 := Eq.symm hr9
          subst hr9
          have hP : va_P (dC, dI) vwCl ((wTD cI cF cJ ot oh b ou od ow oa ob ok os F133 ++ (wHB cI cF cJ oh fa tr rw Hb ++ (wFR cI cF cJ q0 q1 q2 q3 q4 q5 q6 q7 q8 F ++ ([kOut cJ ok rs] ++ ([(n137, .inl (cI, (Int32.toNatClampNeg 10), .inl x136))]))))) ++ (kRows cI lr rs)) H := va_P.part hP [13, 14, 15, 16, 17, 18, 19, 0, 1, 2, 3, 4, 5, 6, 7, 8, 9, 10, 11, 12] rfl
          have hD : va_D A ((wTD cI cF cJ ot oh b ou od ow oa ob ok os F133 ++ (wHB cI cF cJ oh fa tr rw Hb ++ (wFR cI cF cJ q0 q1 q2 q3 q4 q5 q6 q7 q8 F ++ ([kOut cJ ok rs] ++ ([(n137, .inl (cI, (Int32.toNatClampNeg 10), .inl x136))]))))) ++ (kRows cI lr rs)) := va_D.part hD [13, 14, 15, 16, 17, 18, 19, 0, 1, 2, 3, 4, 5, 6, 7, 8, 9, 10, 11, 12] (by decide) rfl
          refine W.lcmp hx hb dX3_off_68 ?_
          refine lv_topi (fun v148 ev148 => ?_)
          have hf := bnd_all hf v148 ev148
          refine lv_if_le (tgt := 95) hx hb dX3_off_69 (by decide) (fun c149 => ?_) (fun c149 => ?_)
          · have hf := ite_t hf c149
            refine lv_aload_n hx hb dX3_off_95 rfl (lv_at hl 1 rfl) ?_
            refine va_get (D := (dC, dI)) (ci := 3) (v := .ref os) (C := RX3) (T := TX3) (N := 12) hx hb hts iX3 hown hK hP 0 rfl rfl 9 (by decide) (hts _ q331) (fun _ h9 => h9) rfl dX3_off_96 ?_
            refine lv_iconst (v := 0) hx hb dX3_off_99 (by decide) ?_
            obtain ⟨g150, hf⟩ := gd_e hf
            refine va_iald hx hb hK hP 6 0 rfl rfl (gin_in g150) dX3_off_100 ?_
            refine lv_topi (fun v151 ev151 => ?_)
            have hf := bnd_all hf v151 ev151
            refine lv_istore_n (lv' := [(2, .int v151), (1, .int b132), (0, .ref ot)]) hx hb dX3_off_101 rfl hl (by decide) rfl (fun ls hl => ?_)
            refine lv_aload_n hx hb dX3_off_102 rfl (lv_at hl 2 rfl) ?_
            obtain ⟨x152, hx152, hf⟩ := obd_e hf
            refine sbP_Vv (As := []) (rest := []) ⟨hx, hb, hml, hown, hts⟩ (fun sz => c_X3_keep l dC dI cI cF cJ cD b L xs tA tB lr ot oh ou od ow oa ob ok os rs F133 K hrs x152 hx152 sz) (cwV 0 hts (g_V q409 q410 q411 q352 q373) rfl rfl rfl pc_X3_keep ⟨Nat.le_of_ble_eq_true rfl, Nat.le_of_ble_eq_true rfl⟩) 0 3 rfl rfl hK hP hD hS hA [0, 1, 2, 3, 4, 5, 6, 18] [7, 8, 9, 10, 11, 12, 13, 14, 15, 16, 17, 19] rfl rfl (by decide) (by decide) (by decide) EX_blind (fun U hU hW => EX_pass hE hS (va_freeP hD hS hA [0, 1, 2, 3, 4, 5, 6, 18] rfl) hU hW) rfl rfl hl.1 (Nat.le_of_ble_eq_true rfl) dX3_off_103 ⟨Nat.le_of_ble_eq_true rfl, Nat.le_of_ble_eq_true rfl⟩ (fun u H locs hr9 hP hD hS => ?_)
            refine W.widen (k := 3) (n := 39) (Nat.le_refl _) (Nat.le_refl _) ?_
            have hrs154 := hr9
            obtain ⟨n153, rs154⟩ := u
            have hP : va_P (dC, dI) vwCl ((wTD cI cF cJ ot oh b ou od ow oa ob n153 os F133 ++ (wHB cI cF cJ oh fa tr rw Hb ++ (wFR cI cF cJ q0 q1 q2 q3 q4 q5 q6 q7 q8 F ++ ([kOut cJ n153 rs154] ++ ([(n137, .inl (cI, (Int32.toNatClampNeg 10), .inl x136))]))))) ++ (kRows cI lr rs154)) H := va_P.part hP [12, 13, 14, 15, 16, 17, 18, 0, 1, 2, 3, 4, 5, 6, 7, 8, 9, 10, 19, 11] rfl
            have hD : va_D A ((wTD cI cF cJ ot oh b ou od ow oa ob n153 os F133 ++ (wHB cI cF cJ oh fa tr rw Hb ++ (wFR cI cF cJ q0 q1 q2 q3 q4 q5 q6 q7 q8 F ++ ([kOut cJ n153 rs154] ++ ([(n137, .inl (cI, (Int32.toNatClampNeg 10), .inl x136))]))))) ++ (kRows cI lr rs154)) := va_D.part hD [12, 13, 14, 15, 16, 17, 18, 0, 1, 2, 3, 4, 5, 6, 7, 8, 9, 10, 19, 11] (by decide) rfl
            refine lv_iload_n hx hb dX3_off_106 rfl (lv_at hl 1 rfl) ?_
            refine lv_i2l hx hb dX3_off_107 rfl ?_
            refine lv_topl (fun v155 ev155 => ?_)
            have hf := bnd_all hf v155 ev155
            refine lv_aload_n hx hb dX3_off_108 rfl (lv_at hl 2 rfl) ?_
            refine va_get (D := (dC, dI)) (ci := 3) (v := .ref ou) (C := RX3) (T := TX3) (N := 12) hx hb hts iX3 hown hK hP 0 rfl rfl 5 (by decide) (hts _ q345) (fun _ h9 => h9) rfl dX3_off_109 ?_
            refine va_alen (v := (nI (tN F133))) hx hb hK hP 1 0 rfl rfl rfl dX3_off_112 ?_
            obtain ⟨x156, hx156, hf⟩ := obd_e hf
            refine sbT_Sq (As := [.long v155, .int (nI (tN F133))]) (rest := []) ⟨hx, hb, hml, hown, hts⟩ (fun sz => c_X3_digits l dC dI cI cF cJ cD  v155 (nI (tN F133))  x156 hx156 sz) (va_cwS 2 hts (g_S q399 q400 q352 q398) rfl rfl rfl ps_X3_digits ⟨Nat.le_of_ble_eq_true rfl, Nat.le_of_ble_eq_true rfl⟩)  hK hP hD hS hA [] [0, 1, 2, 3, 4, 5, 6, 7, 8, 9, 10, 11, 12, 13, 14, 15, 16, 17, 18, 19] rfl rfl (by decide) (by decide) (by decide) (fun _ _ _ _ h => h) (fun _ _ _ => trivial) rfl rfl hl.1 (Nat.le_of_ble_eq_true rfl) dX3_off_113 ⟨Nat.le_of_ble_eq_true rfl, Nat.le_of_ble_eq_true rfl⟩ (fun r9 u H locs hr9 hP hD hS => ?_)
            refine W.widen (k := 4) (n := 49) (Nat.le_refl _) (Nat.le_refl _) ?_
            have hr9 := Eq.symm hr9
            subst hr9
            obtain ⟨n157, en157⟩ : ∃ z, z = u := ⟨_, rfl⟩
            subst en157
            have hP : va_P (dC, dI) vwCl ((wTD cI cF cJ ot oh b ou od ow oa ob n153 os F133 ++ (wHB cI cF cJ oh fa tr rw Hb ++ (wFR cI cF cJ q0 q1 q2 q3 q4 q5 q6 q7 q8 F ++ ([kOut cJ n153 rs154] ++ ([(n137, .inl (cI, (Int32.toNatClampNeg 10), .inl x136))] ++ ([(n157, .inl (cI, (Int32.toNatClampNeg (nI (tN F133))), .inl x156))])))))) ++ (kRows cI lr rs154)) H := hP
            have hD : va_D A ((wTD cI cF cJ ot oh b ou od ow oa ob n153 os F133 ++ (wHB cI cF cJ oh fa tr rw Hb ++ (wFR cI cF cJ q0 q1 q2 q3 q4 q5 q6 q7 q8 F ++ ([kOut cJ n153 rs154] ++ ([(n137, .inl (cI, (Int32.toNatClampNeg 10), .inl x136))] ++ ([(n157, .inl (cI, (Int32.toNatClampNeg (nI (tN F133))), .inl x156))])))))) ++ (kRows cI lr rs154)) := hD
            refine lv_astore_n (lv' := [(3, .ref n157), (2, .int v151), (1, .int b132), (0, .ref ot)]) hx hb dX3_off_116 rfl hl (by decide) rfl (fun ls hl => ?_)
            refine lv_aload_n hx hb dX3_off_117 rfl (lv_at hl 3 rfl) ?_
            refine va_get (D := (dC, dI)) (ci := 3) (v := .ref ou) (C := RX3) (T := TX3) (N := 12) hx hb hts iX3 hown hK hP 0 rfl rfl 5 (by decide) (hts _ q345) (fun _ h9 => h9) rfl dX3_off_118 ?_
            refine va_alen (v := (nI (tN F133))) hx hb hK hP 1 0 rfl rfl rfl dX3_off_121 ?_
            refine lv_iconst (v := 1) hx hb dX3_off_122 (by decide) ?_
            refine lv_isub hx hb dX3_off_123 ?_
            refine lv_topi (fun v158 ev158 => ?_)
            have hf := bnd_all hf v158 ev158
            refine lv_istore (lv' := [(4, .int v158), (3, .ref n157), (2, .int v151), (1, .int b132), (0, .ref ot)]) hx hb dX3_off_124 hl (by decide) rfl (fun ls hl => ?_)
            have L126 : ∀ (k : Int32 → TD → Option (Int32 × TD × FR × KO)), (∀ (a159 : Int32) (F160 : TD) (H : Heap) (locs : List Loc) (ls : Array Slot), va_P (dC, dI) vwCl ((wTD cI cF cJ ot oh b ou od ow oa ob n153 os F160 ++ (wHB cI cF cJ oh fa tr rw Hb ++ (wFR cI cF cJ q0 q1 q2 q3 q4 q5 q6 q7 q8 F ++ ([kOut cJ n153 rs154] ++ ([(n137, .inl (cI, (Int32.toNatClampNeg 10), .inl x136))] ++ ([(n157, .inl (cI, (Int32.toNatClampNeg (nI (tN F133))), .inl x156))])))))) ++ (kRows cI lr rs154)) H → va_D A ((wTD cI cF cJ ot oh b ou od ow oa ob n153 os F160 ++ (wHB cI cF cJ oh fa tr rw Hb ++ (wFR cI cF cJ q0 q1 q2 q3 q4 q5 q6 q7 q8 F ++ ([kOut cJ n153 rs154] ++ ([(n137, .inl (cI, (Int32.toNatClampNeg 10), .inl x136))] ++ ([(n157, .inl (cI, (Int32.toNatClampNeg (nI (tN F133))), .inl x156))])))))) ++ (kRows cI lr rs154)) → va_S A s.heap H locs → lv_has ls 8 [(0, .ref ot), (1, .int b132), (2, .int v151)] → k a159 F160 = some res → W p l e (headSpec (ws_ yX3_off cX3_off 8 (some .boolean)) rm_X3_off).room s m ([.ref ot].toArray) below meth c H locs 4 49 (MQ below (va_Qi (fun (r : Int32) (u : Nat × RS) => r = res.1 ∧ u.2.map Prod.snd = res.2.2.2) (sbEnd (dC, dI) (fun (u : Nat × RS) => (wTD cI cF cJ ot oh b ou od ow oa ob u.1 os res.2.1 ++ (wHB cI cF cJ oh fa tr rw Hb ++ (wFR cI cF cJ q0 q1 q2 q3 q4 q5 q6 q7 q8 res.2.2.1 ++ ([kOut cJ u.1 u.2])))) ++ (kRows cI lr u.2)) (A)) (A)) ([.ref ot].toArray) s 4 49 A) (F0 m 238 ls [])) → ∀ (n : Nat) (a159 : Int32) (F160 : TD) (H : Heap) (locs : List Loc) (ls : Array Slot), va_P (dC, dI) vwCl ((wTD cI cF cJ ot oh b ou od ow oa ob n153 os F160 ++ (wHB cI cF cJ oh fa tr rw Hb ++ (wFR cI cF cJ q0 q1 q2 q3 q4 q5 q6 q7 q8 F ++ ([kOut cJ n153 rs154] ++ ([(n137, .inl (cI, (Int32.toNatClampNeg 10), .inl x136))] ++ ([(n157, .inl (cI, (Int32.toNatClampNeg (nI (tN F133))), .inl x156))])))))) ++ (kRows cI lr rs154)) H → va_D A ((wTD cI cF cJ ot oh b ou od ow oa ob n153 os F160 ++ (wHB cI cF cJ oh fa tr rw Hb ++ (wFR cI cF cJ q0 q1 q2 q3 q4 q5 q6 q7 q8 F ++ ([kOut cJ n153 rs154] ++ ([(n137, .inl (cI, (Int32.toNatClampNeg 10), .inl x136))] ++ ([(n157, .inl (cI, (Int32.toNatClampNeg (nI (tN F133))), .inl x156))])))))) ++ (kRows cI lr rs154)) → va_S A s.heap H locs → lv_has ls 8 [(4, .int a159), (0, .ref ot), (1, .int b132), (2, .int v151), (3, .ref n157)] → l_X3_off_126 b132 v151 Hb F x152 x136 x156 (Int32.toNatClampNeg 10) (Int32.toNatClampNeg (nI (tN F133))) L xs lr k n a159 F160 = some res → W p l e (headSpec (ws_ yX3_off cX3_off 8 (some .boolean)) rm_X3_off).room s m ([.ref ot].toArray) below meth c H locs 4 49 (MQ below (va_Qi (fun (r : Int32) (u : Nat × RS) => r = res.1 ∧ u.2.map Prod.snd = res.2.2.2) (sbEnd (dC, dI) (fun (u : Nat × RS) => (wTD cI cF cJ ot oh b ou od ow oa ob u.1 os res.2.1 ++ (wHB cI cF cJ oh fa tr rw Hb ++ (wFR cI cF cJ q0 q1 q2 q3 q4 q5 q6 q7 q8 res.2.2.1 ++ ([kOut cJ u.1 u.2])))) ++ (kRows cI lr u.2)) (A)) (A)) ([.ref ot].toArray) s 4 49 A) (F0 m 126 ls []) := by
              intro k hk n
              induction n with
              | zero =>
                intro a161 F162 H locs ls hP hD hS hl hf
                rw [l_X3_off_126] at hf
                cases hf
              | succ n ih =>
                intro a161 F162 H locs ls hP hD hS hl hf
                rw [l_X3_off_126] at hf
                refine lv_iload hx hb dX3_off_126 (lv_at hl 0 rfl) ?_
                refine lv_if_lt (tgt := 238) hx hb dX3_off_128 (by decide) (fun c163 => ?_) (fun c163 => ?_)
                · have hf := ite_t hf c163
                  exact hk a161 F162 _ _ _ hP hD hS (lv_sub hl [1, 2, 3] rfl) hf
                · have hf := ite_f hf c163
                  refine lv_aload_n hx hb dX3_off_131 rfl (lv_at hl 1 rfl) ?_
                  refine lv_iload hx hb dX3_off_132 (lv_at hl 0 rfl) ?_
                  obtain ⟨x164, hx164, hf⟩ := obd_e hf
                  refine sbT_Vi (As := [.int a161]) (rest := []) ⟨hx, hb, hml, hown, hts⟩ (fun sz => c_X3_value l dC dI cI cF cJ cD ot oh b ou od ow oa ob n153 os F162 a161  x164 hx164 sz) (cwV 1 hts (g_V q369 q370 q371 q352 q366) rfl rfl rfl pc_X3_value ⟨Nat.le_of_ble_eq_true rfl, Nat.le_of_ble_eq_true rfl⟩) 0 3 rfl rfl hK hP hD hS hA [0, 1, 2, 3, 4, 5, 6] [7, 8, 9, 10, 11, 12, 13, 14, 15, 16, 17, 18, 19, 20] rfl rfl (by decide) (by decide) (by decide) (fun _ _ _ _ h => h) (fun _ _ _ => trivial) rfl rfl hl.1 (Nat.le_of_ble_eq_true rfl) dX3_off_134 ⟨Nat.le_of_ble_eq_true rfl, Nat.le_of_ble_eq_true rfl⟩ (fun r9 u H locs hr9 hP hD hS => ?_)
                  have hr9 := Eq.symm hr9
                  subst hr9
                  have hP : va_P (dC, dI) vwCl ((wTD cI cF cJ ot oh b ou od ow oa ob n153 os F162 ++ (wHB cI cF cJ oh fa tr rw Hb ++ (wFR cI cF cJ q0 q1 q2 q3 q4 q5 q6 q7 q8 F ++ ([kOut cJ n153 rs154] ++ ([(n137, .inl (cI, (Int32.toNatClampNeg 10), .inl x136))] ++ ([(n157, .inl (cI, (Int32.toNatClampNeg (nI (tN F133))), .inl x156))])))))) ++ (kRows cI lr rs154)) H := va_P.part hP [14, 15, 16, 17, 18, 19, 20, 0, 1, 2, 3, 4, 5, 6, 7, 8, 9, 10, 11, 12, 13] rfl
                  have hD : va_D A ((wTD cI cF cJ ot oh b ou od ow oa ob n153 os F162 ++ (wHB cI cF cJ oh fa tr rw Hb ++ (wFR cI cF cJ q0 q1 q2 q3 q4 q5 q6 q7 q8 F ++ ([kOut cJ n153 rs154] ++ ([(n137, .inl (cI, (Int32.toNatClampNeg 10), .inl x136))] ++ ([(n157, .inl (cI, (Int32.toNatClampNeg (nI (tN F133))), .inl x156))])))))) ++ (kRows cI lr rs154)) := va_D.part hD [14, 15, 16, 17, 18, 19, 20, 0, 1, 2, 3, 4, 5, 6, 7, 8, 9, 10, 11, 12, 13] (by decide) rfl
                  refine lv_aload_n hx hb dX3_off_137 rfl (lv_at hl 4 rfl) ?_
                  refine lv_iload hx hb dX3_off_138 (lv_at hl 0 rfl) ?_
                  obtain ⟨g165, hf⟩ := gd_e hf
                  refine va_iald hx hb hK hP 20 0 rfl rfl (gin_in g165) dX3_off_140 ?_
                  refine lv_topi (fun v166 ev166 => ?_)
                  have hf := bnd_all hf v166 ev166
                  refine lv_isub hx hb dX3_off_141 ?_
                  refine lv_topi (fun v167 ev167 => ?_)
                  have hf := bnd_all hf v167 ev167
                  refine lv_istore (lv' := [(5, .int v167), (4, .int a161), (0, .ref ot), (1, .int b132), (2, .int v151), (3, .ref n157)]) hx hb dX3_off_142 hl (by decide) rfl (fun ls hl => ?_)
                  refine lv_iload hx hb dX3_off_144 (lv_at hl 0 rfl) ?_
                  refine lv_if_ge (tgt := 224) hx hb dX3_off_146 (by decide) (fun c168 => ?_) (fun c168 => ?_)
                  · have hf := ite_t hf c168
                    refine lv_aload_n hx hb dX3_off_224 rfl (lv_at hl 2 rfl) ?_
                    refine lv_iload hx hb dX3_off_225 (lv_at hl 1 rfl) ?_
                    refine lv_iload hx hb dX3_off_227 (lv_at hl 0 rfl) ?_
                    obtain ⟨x169, hx169, hf⟩ := obd_e hf
                    refine sbT_Vv (As := [.int a161, .int v167]) (rest := []) ⟨hx, hb, hml, hown, hts⟩ (fun sz => c_X3_set l dC dI cI cF cJ cD ot oh b ou od ow oa ob n153 os F162 a161 v167  x169 hx169 sz) (cwV 2 hts (g_V q394 q395 q396 q352 q393) rfl rfl rfl pc_X3_set ⟨Nat.le_of_ble_eq_true rfl, Nat.le_of_ble_eq_true rfl⟩) 0 3 rfl rfl hK hP hD hS hA [0, 1, 2, 3, 4, 5, 6] [7, 8, 9, 10, 11, 12, 13, 14, 15, 16, 17, 18, 19, 20] rfl rfl (by decide) (by decide) (by decide) (fun _ _ _ _ h => h) (fun _ _ _ => trivial) rfl rfl hl.1 (Nat.le_of_ble_eq_true rfl) dX3_off_229 ⟨Nat.le_of_ble_eq_true rfl, Nat.le_of_ble_eq_true rfl⟩ (fun u H locs hr9 hP hD hS => ?_)
                    have hP : va_P (dC, dI) vwCl ((wTD cI cF cJ ot oh b ou od ow oa ob n153 os x169 ++ (wHB cI cF cJ oh fa tr rw Hb ++ (wFR cI cF cJ q0 q1 q2 q3 q4 q5 q6 q7 q8 F ++ ([kOut cJ n153 rs154] ++ ([(n137, .inl (cI, (Int32.toNatClampNeg 10), .inl x136))] ++ ([(n157, .inl (cI, (Int32.toNatClampNeg (nI (tN F133))), .inl x156))])))))) ++ (kRows cI lr rs154)) H := va_P.part hP [14, 15, 16, 17, 18, 19, 20, 0, 1, 2, 3, 4, 5, 6, 7, 8, 9, 10, 11, 12, 13] rfl
                    have hD : va_D A ((wTD cI cF cJ ot oh b ou od ow oa ob n153 os x169 ++ (wHB cI cF cJ oh fa tr rw Hb ++ (wFR cI cF cJ q0 q1 q2 q3 q4 q5 q6 q7 q8 F ++ ([kOut cJ n153 rs154] ++ ([(n137, .inl (cI, (Int32.toNatClampNeg 10), .inl x136))] ++ ([(n157, .inl (cI, (Int32.toNatClampNeg (nI (tN F133))), .inl x156))])))))) ++ (kRows cI lr rs154)) := va_D.part hD [14, 15, 16, 17, 18, 19, 20, 0, 1, 2, 3, 4, 5, 6, 7, 8, 9, 10, 11, 12, 13] (by decide) rfl
                    obtain ⟨v170, ev170⟩ : ∃ y : Int32, y = a161 + (-1) := ⟨_, rfl⟩
                    have hf := bnd_all hf v170 ev170
                    refine lv_iinc (v := v170) (lv' := [(4, .int v170), (5, .int v167), (0, .ref ot), (1, .int b132), (2, .int v151), (3, .ref n157)]) hx hb dX3_off_232 hl (k := 1) rfl (by rw [ev170]; rfl) (by decide) rfl (fun ls hl => ?_)
                    refine lv_goto (tgt := 126) hx hb dX3_off_235 (by decide) ?_
                    exact ih v170 x169 _ _ _ hP hD hS (lv_sub hl [0, 2, 3, 4, 5] rfl) hf
                  · have hf := ite_f hf c168
                    refine lv_iload hx hb dX3_off_149 (lv_at hl 1 rfl) ?_
                    refine lv_iconst (v := 1) hx hb dX3_off_151 (by decide) ?_
                    refine lv_iadd hx hb dX3_off_152 ?_
                    refine lv_topi (fun v171 ev171 => ?_)
                    have hf := bnd_all hf v171 ev171
                    refine lv_istore (lv' := [(6, .int v171), (5, .int v167), (4, .int a161), (0, .ref ot), (1, .int b132), (2, .int v151), (3, .ref n157)]) hx hb dX3_off_153 hl (by decide) rfl (fun ls hl => ?_)
                    have L155 : ∀ (k : Int32 → TD → Option (Int32 × TD × FR × KO)), (∀ (a172 : Int32) (F173 : TD) (H : Heap) (locs : List Loc) (ls : Array Slot), va_P (dC, dI) vwCl ((wTD cI cF cJ ot oh b ou od ow oa ob n153 os F173 ++ (wHB cI cF cJ oh fa tr rw Hb ++ (wFR cI cF cJ q0 q1 q2 q3 q4 q5 q6 q7 q8 F ++ ([kOut cJ n153 rs154] ++ ([(n137, .inl (cI, (Int32.toNatClampNeg 10), .inl x136))] ++ ([(n157, .inl (cI, (Int32.toNatClampNeg (nI (tN F133))), .inl x156))])))))) ++ (kRows cI lr rs154)) H → va_D A ((wTD cI cF cJ ot oh b ou od ow oa ob n153 os F173 ++ (wHB cI cF cJ oh fa tr rw Hb ++ (wFR cI cF cJ q0 q1 q2 q3 q4 q5 q6 q7 q8 F ++ ([kOut cJ n153 rs154] ++ ([(n137, .inl (cI, (Int32.toNatClampNeg 10), .inl x136))] ++ ([(n157, .inl (cI, (Int32.toNatClampNeg (nI (tN F133))), .inl x156))])))))) ++ (kRows cI lr rs154)) → va_S A s.heap H locs → lv_has ls 8 [(6, .int a172), (0, .ref ot), (1, .int b132), (2, .int v151), (3, .ref n157), (4, .int a161), (5, .int v167)] → k a172 F173 = some res → W p l e (headSpec (ws_ yX3_off cX3_off 8 (some .boolean)) rm_X3_off).room s m ([.ref ot].toArray) below meth c H locs 4 49 (MQ below (va_Qi (fun (r : Int32) (u : Nat × RS) => r = res.1 ∧ u.2.map Prod.snd = res.2.2.2) (sbEnd (dC, dI) (fun (u : Nat × RS) => (wTD cI cF cJ ot oh b ou od ow oa ob u.1 os res.2.1 ++ (wHB cI cF cJ oh fa tr rw Hb ++ (wFR cI cF cJ q0 q1 q2 q3 q4 q5 q6 q7 q8 res.2.2.1 ++ ([kOut cJ u.1 u.2])))) ++ (kRows cI lr u.2)) (A)) (A)) ([.ref ot].toArray) s 4 49 A) (F0 m 170 ls [])) → ∀ (n : Nat) (a172 : Int32) (F173 : TD) (H : Heap) (locs : List Loc) (ls : Array Slot), va_P (dC, dI) vwCl ((wTD cI cF cJ ot oh b ou od ow oa ob n153 os F173 ++ (wHB cI cF cJ oh fa tr rw Hb ++ (wFR cI cF cJ q0 q1 q2 q3 q4 q5 q6 q7 q8 F ++ ([kOut cJ n153 rs154] ++ ([(n137, .inl (cI, (Int32.toNatClampNeg 10), .inl x136))] ++ ([(n157, .inl (cI, (Int32.toNatClampNeg (nI (tN F133))), .inl x156))])))))) ++ (kRows cI lr rs154)) H → va_D A ((wTD cI cF cJ ot oh b ou od ow oa ob n153 os F173 ++ (wHB cI cF cJ oh fa tr rw Hb ++ (wFR cI cF cJ q0 q1 q2 q3 q4 q5 q6 q7 q8 F ++ ([kOut cJ n153 rs154] ++ ([(n137, .inl (cI, (Int32.toNatClampNeg 10), .inl x136))] ++ ([(n157, .inl (cI, (Int32.toNatClampNeg (nI (tN F133))), .inl x156))])))))) ++ (kRows cI lr rs154)) → va_S A s.heap H locs → lv_has ls 8 [(6, .int a172), (0, .ref ot), (1, .int b132), (2, .int v151), (3, .ref n157), (4, .int a161), (5, .int v167)] → l_X3_off_155 b132 v151 a161 v167 Hb F x152 x136 x156 (Int32.toNatClampNeg 10) (Int32.toNatClampNeg (nI (tN F133))) L xs lr k n a172 F173 = some res → W p l e (headSpec (ws_ yX3_off cX3_off 8 (some .boolean)) rm_X3_off).room s m ([.ref ot].toArray) below meth c H locs 4 49 (MQ below (va_Qi (fun (r : Int32) (u : Nat × RS) => r = res.1 ∧ u.2.map Prod.snd = res.2.2.2) (sbEnd (dC, dI) (fun (u : Nat × RS) => (wTD cI cF cJ ot oh b ou od ow oa ob u.1 os res.2.1 ++ (wHB cI cF cJ oh fa tr rw Hb ++ (wFR cI cF cJ q0 q1 q2 q3 q4 q5 q6 q7 q8 res.2.2.1 ++ ([kOut cJ u.1 u.2])))) ++ (kRows cI lr u.2)) (A)) (A)) ([.ref ot].toArray) s 4 49 A) (F0 m 155 ls []) := by
                      intro k hk n
                      induction n with
                      | zero =>
                        intro a174 F175 H locs ls hP hD hS hl hf
                        rw [l_X3_off_155] at hf
                        cases hf
                      | succ n ih =>
                        intro a174 F175 H locs ls hP hD hS hl hf
                        rw [l_X3_off_155] at hf
                        refine lv_aload_n hx hb dX3_off_155 rfl (lv_at hl 1 rfl) ?_
                        refine lv_iload hx hb dX3_off_156 (lv_at hl 0 rfl) ?_
                        obtain ⟨x176, hx176, hf⟩ := obd_e hf
                        refine sbT_Vi (As := [.int a174]) (rest := []) ⟨hx, hb, hml, hown, hts⟩ (fun sz => c_X3_value l dC dI cI cF cJ cD ot oh b ou od ow oa ob n153 os F175 a174  x176 hx176 sz) (cwV 1 hts (g_V q369 q370 q371 q352 q366) rfl rfl rfl pc_X3_value ⟨Nat.le_of_ble_eq_true rfl, Nat.le_of_ble_eq_true rfl⟩) 0 3 rfl rfl hK hP hD hS hA [0, 1, 2, 3, 4, 5, 6] [7, 8, 9, 10, 11, 12, 13, 14, 15, 16, 17, 18, 19, 20] rfl rfl (by decide) (by decide) (by decide) (fun _ _ _ _ h => h) (fun _ _ _ => trivial) rfl rfl hl.1 (Nat.le_of_ble_eq_true rfl) dX3_off_158 ⟨Nat.le_of_ble_eq_true rfl, Nat.le_of_ble_eq_true rfl⟩ (fun r9 u H locs hr9 hP hD hS => ?_)
                        have hr9 := Eq.symm hr9
                        subst hr9
                        have hP : va_P (dC, dI) vwCl ((wTD cI cF cJ ot oh b ou od ow oa ob n153 os F175 ++ (wHB cI cF cJ oh fa tr rw Hb ++ (wFR cI cF cJ q0 q1 q2 q3 q4 q5 q6 q7 q8 F ++ ([kOut cJ n153 rs154] ++ ([(n137, .inl (cI, (Int32.toNatClampNeg 10), .inl x136))] ++ ([(n157, .inl (cI, (Int32.toNatClampNeg (nI (tN F133))), .inl x156))])))))) ++ (kRows cI lr rs154)) H := va_P.part hP [14, 15, 16, 17, 18, 19, 20, 0, 1, 2, 3, 4, 5, 6, 7, 8, 9, 10, 11, 12, 13] rfl
                        have hD : va_D A ((wTD cI cF cJ ot oh b ou od ow oa ob n153 os F175 ++ (wHB cI cF cJ oh fa tr rw Hb ++ (wFR cI cF cJ q0 q1 q2 q3 q4 q5 q6 q7 q8 F ++ ([kOut cJ n153 rs154] ++ ([(n137, .inl (cI, (Int32.toNatClampNeg 10), .inl x136))] ++ ([(n157, .inl (cI, (Int32.toNatClampNeg (nI (tN F133))), .inl x156))])))))) ++ (kRows cI lr rs154)) := va_D.part hD [14, 15, 16, 17, 18, 19, 20, 0, 1, 2, 3, 4, 5, 6, 7, 8, 9, 10, 11, 12, 13] (by decide) rfl
                        refine lv_if_ne (tgt := 170) hx hb dX3_off_161 (by decide) (fun c177 => ?_) (fun c177 => ?_)
                        · have hf := ite_f hf c177
                          exact hk a174 F175 _ _ _ hP hD hS (lv_sub hl [0, 1, 2, 3, 4, 5, 6] rfl) hf
                        · have hf := ite_t hf c177
                          obtain ⟨v178, ev178⟩ : ∃ y : Int32, y = a174 + 1 := ⟨_, rfl⟩
                          have hf := bnd_all hf v178 ev178
                          refine lv_iinc (v := v178) (lv' := [(6, .int v178), (0, .ref ot), (1, .int b132), (2, .int v151), (3, .ref n157), (4, .int a161), (5, .int v167)]) hx hb dX3_off_164 hl (k := 0) rfl (by rw [ev178]; rfl) (by decide) rfl (fun ls hl => ?_)
                          refine lv_goto (tgt := 155) hx hb dX3_off_167 (by decide) ?_
                          exact ih v178 F175 _ _ _ hP hD hS (lv_sub hl [0, 1, 2, 3, 4, 5, 6] rfl) hf
                    refine L155 _ (fun a179 F180 H locs ls hP hD hS hl hf => ?_) 16 v171 F162 _ _ _ hP hD hS (lv_sub hl [0, 3, 4, 5, 6, 2, 1] rfl) hf
                    refine lv_aload_n hx hb dX3_off_170 rfl (lv_at hl 1 rfl) ?_
                    refine lv_iload hx hb dX3_off_171 (lv_at hl 0 rfl) ?_
                    refine lv_aload_n hx hb dX3_off_173 rfl (lv_at hl 1 rfl) ?_
                    refine lv_iload hx hb dX3_off_174 (lv_at hl 0 rfl) ?_
                    obtain ⟨x181, hx181, hf⟩ := obd_e hf
                    refine sbT_Vi (As := [.int a179]) (rest := [.int a179, .ref ot]) ⟨hx, hb, hml, hown, hts⟩ (fun sz => c_X3_value l dC dI cI cF cJ cD ot oh b ou od ow oa ob n153 os F180 a179  x181 hx181 sz) (cwV 1 hts (g_V q369 q370 q371 q352 q366) rfl rfl rfl pc_X3_value ⟨Nat.le_of_ble_eq_true rfl, Nat.le_of_ble_eq_true rfl⟩) 0 3 rfl rfl hK hP hD hS hA [0, 1, 2, 3, 4, 5, 6] [7, 8, 9, 10, 11, 12, 13, 14, 15, 16, 17, 18, 19, 20] rfl rfl (by decide) (by decide) (by decide) (fun _ _ _ _ h => h) (fun _ _ _ => trivial) rfl rfl hl.1 (Nat.le_of_ble_eq_true rfl) dX3_off_176 ⟨Nat.le_of_ble_eq_true rfl, Nat.le_of_ble_eq_true rfl⟩ (fun r9 u H locs hr9 hP hD hS => ?_)
                    have hr9 := Eq.symm hr9
                    subst hr9
                    have hP : va_P (dC, dI) vwCl ((wTD cI cF cJ ot oh b ou od ow oa ob n153 os F180 ++ (wHB cI cF cJ oh fa tr rw Hb ++ (wFR cI cF cJ q0 q1 q2 q3 q4 q5 q6 q7 q8 F ++ ([kOut cJ n153 rs154] ++ ([(n137, .inl (cI, (Int32.toNatClampNeg 10), .inl x136))] ++ ([(n157, .inl (cI, (Int32.toNatClampNeg (nI (tN F133))), .inl x156))])))))) ++ (kRows cI lr rs154)) H := va_P.part hP [14, 15, 16, 17, 18, 19, 20, 0, 1, 2, 3, 4, 5, 6, 7, 8, 9, 10, 11, 12, 13] rfl
                    have hD : va_D A ((wTD cI cF cJ ot oh b ou od ow oa ob n153 os F180 ++ (wHB cI cF cJ oh fa tr rw Hb ++ (wFR cI cF cJ q0 q1 q2 q3 q4 q5 q6 q7 q8 F ++ ([kOut cJ n153 rs154] ++ ([(n137, .inl (cI, (Int32.toNatClampNeg 10), .inl x136))] ++ ([(n157, .inl (cI, (Int32.toNatClampNeg (nI (tN F133))), .inl x156))])))))) ++ (kRows cI lr rs154)) := va_D.part hD [14, 15, 16, 17, 18, 19, 20, 0, 1, 2, 3, 4, 5, 6, 7, 8, 9, 10, 11, 12, 13] (by decide) rfl
                    refine lv_iconst (v := 1) hx hb dX3_off_179 (by decide) ?_
                    refine lv_isub hx hb dX3_off_180 ?_
                    refine lv_topi (fun v182 ev182 => ?_)
                    have hf := bnd_all hf v182 ev182
                    obtain ⟨x183, hx183, hf⟩ := obd_e hf
                    refine sbT_Vv (As := [.int a179, .int v182]) (rest := []) ⟨hx, hb, hml, hown, hts⟩ (fun sz => c_X3_set l dC dI cI cF cJ cD ot oh b ou od ow oa ob n153 os F180 a179 v182  x183 hx183 sz) (cwV 2 hts (g_V q394 q395 q396 q352 q393) rfl rfl rfl pc_X3_set ⟨Nat.le_of_ble_eq_true rfl, Nat.le_of_ble_eq_true rfl⟩) 0 3 rfl rfl hK hP hD hS hA [0, 1, 2, 3, 4, 5, 6] [7, 8, 9, 10, 11, 12, 13, 14, 15, 16, 17, 18, 19, 20] rfl rfl (by decide) (by decide) (by decide) (fun _ _ _ _ h => h) (fun _ _ _ => trivial) rfl rfl hl.1 (Nat.le_of_ble_eq_true rfl) dX3_off_181 ⟨Nat.le_of_ble_eq_true rfl, Nat.le_of_ble_eq_true rfl⟩ (fun u H locs hr9 hP hD hS => ?_)
                    have hP : va_P (dC, dI) vwCl ((wTD cI cF cJ ot oh b ou od ow oa ob n153 os x183 ++ (wHB cI cF cJ oh fa tr rw Hb ++ (wFR cI cF cJ q0 q1 q2 q3 q4 q5 q6 q7 q8 F ++ ([kOut cJ n153 rs154] ++ ([(n137, .inl (cI, (Int32.toNatClampNeg 10), .inl x136))] ++ ([(n157, .inl (cI, (Int32.toNatClampNeg (nI (tN F133))), .inl x156))])))))) ++ (kRows cI lr rs154)) H := va_P.part hP [14, 15, 16, 17, 18, 19, 20, 0, 1, 2, 3, 4, 5, 6, 7, 8, 9, 10, 11, 12, 13] rfl
                    have hD : va_D A ((wTD cI cF cJ ot oh b ou od ow oa ob n153 os x183 ++ (wHB cI cF cJ oh fa tr rw Hb ++ (wFR cI cF cJ q0 q1 q2 q3 q4 q5 q6 q7 q8 F ++ ([kOut cJ n153 rs154] ++ ([(n137, .inl (cI, (Int32.toNatClampNeg 10), .inl x136))] ++ ([(n157, .inl (cI, (Int32.toNatClampNeg (nI (tN F133))), .inl x156))])))))) ++ (kRows cI lr rs154)) := va_D.part hD [14, 15, 16, 17, 18, 19, 20, 0, 1, 2, 3, 4, 5, 6, 7, 8, 9, 10, 11, 12, 13] (by decide) rfl
                    refine lv_iload hx hb dX3_off_184 (lv_at hl 0 rfl) ?_
                    refine lv_iconst (v := 1) hx hb dX3_off_186 (by decide) ?_
                    refine lv_isub hx hb dX3_off_187 ?_
                    refine lv_topi (fun v184 ev184 => ?_)
                    have hf := bnd_all hf v184 ev184
                    refine lv_istore (lv' := [(7, .int v184), (6, .int a179), (0, .ref ot), (1, .int b132), (2, .int v151), (3, .ref n157), (4, .int a161), (5, .int v167)]) hx hb dX3_off_188 hl (by decide) rfl (fun ls hl => ?_)
                    have L190 : ∀ (k : Int32 → TD → Option (Int32 × TD × FR × KO)), (∀ (a185 : Int32) (F186 : TD) (H : Heap) (locs : List Loc) (ls : Array Slot), va_P (dC, dI) vwCl ((wTD cI cF cJ ot oh b ou od ow oa ob n153 os F186 ++ (wHB cI cF cJ oh fa tr rw Hb ++ (wFR cI cF cJ q0 q1 q2 q3 q4 q5 q6 q7 q8 F ++ ([kOut cJ n153 rs154] ++ ([(n137, .inl (cI, (Int32.toNatClampNeg 10), .inl x136))] ++ ([(n157, .inl (cI, (Int32.toNatClampNeg (nI (tN F133))), .inl x156))])))))) ++ (kRows cI lr rs154)) H → va_D A ((wTD cI cF cJ ot oh b ou od ow oa ob n153 os F186 ++ (wHB cI cF cJ oh fa tr rw Hb ++ (wFR cI cF cJ q0 q1 q2 q3 q4 q5 q6 q7 q8 F ++ ([kOut cJ n153 rs154] ++ ([(n137, .inl (cI, (Int32.toNatClampNeg 10), .inl x136))] ++ ([(n157, .inl (cI, (Int32.toNatClampNeg (nI (tN F133))), .inl x156))])))))) ++ (kRows cI lr rs154)) → va_S A s.heap H locs → lv_has ls 8 [(0, .ref ot), (1, .int b132), (2, .int v151), (3, .ref n157), (4, .int a161), (5, .int v167)] → k a185 F186 = some res → W p l e (headSpec (ws_ yX3_off cX3_off 8 (some .boolean)) rm_X3_off).room s m ([.ref ot].toArray) below meth c H locs 4 49 (MQ below (va_Qi (fun (r : Int32) (u : Nat × RS) => r = res.1 ∧ u.2.map Prod.snd = res.2.2.2) (sbEnd (dC, dI) (fun (u : Nat × RS) => (wTD cI cF cJ ot oh b ou od ow oa ob u.1 os res.2.1 ++ (wHB cI cF cJ oh fa tr rw Hb ++ (wFR cI cF cJ q0 q1 q2 q3 q4 q5 q6 q7 q8 res.2.2.1 ++ ([kOut cJ u.1 u.2])))) ++ (kRows cI lr u.2)) (A)) (A)) ([.ref ot].toArray) s 4 49 A) (F0 m 211 ls [])) → ∀ (n : Nat) (a185 : Int32) (F186 : TD) (H : Heap) (locs : List Loc) (ls : Array Slot), va_P (dC, dI) vwCl ((wTD cI cF cJ ot oh b ou od ow oa ob n153 os F186 ++ (wHB cI cF cJ oh fa tr rw Hb ++ (wFR cI cF cJ q0 q1 q2 q3 q4 q5 q6 q7 q8 F ++ ([kOut cJ n153 rs154] ++ ([(n137, .inl (cI, (Int32.toNatClampNeg 10), .inl x136))] ++ ([(n157, .inl (cI, (Int32.toNatClampNeg (nI (tN F133))), .inl x156))])))))) ++ (kRows cI lr rs154)) H → va_D A ((wTD cI cF cJ ot oh b ou od ow oa ob n153 os F186 ++ (wHB cI cF cJ oh fa tr rw Hb ++ (wFR cI cF cJ q0 q1 q2 q3 q4 q5 q6 q7 q8 F ++ ([kOut cJ n153 rs154] ++ ([(n137, .inl (cI, (Int32.toNatClampNeg 10), .inl x136))] ++ ([(n157, .inl (cI, (Int32.toNatClampNeg (nI (tN F133))), .inl x156))])))))) ++ (kRows cI lr rs154)) → va_S A s.heap H locs → lv_has ls 8 [(7, .int a185), (0, .ref ot), (1, .int b132), (2, .int v151), (3, .ref n157), (4, .int a161), (5, .int v167)] → l_X3_off_190 b132 v151 a161 v167 Hb F x152 x136 x156 (Int32.toNatClampNeg 10) (Int32.toNatClampNeg (nI (tN F133))) L xs lr k n a185 F186 = some res → W p l e (headSpec (ws_ yX3_off cX3_off 8 (some .boolean)) rm_X3_off).room s m ([.ref ot].toArray) below meth c H locs 4 49 (MQ below (va_Qi (fun (r : Int32) (u : Nat × RS) => r = res.1 ∧ u.2.map Prod.snd = res.2.2.2) (sbEnd (dC, dI) (fun (u : Nat × RS) => (wTD cI cF cJ ot oh b ou od ow oa ob u.1 os res.2.1 ++ (wHB cI cF cJ oh fa tr rw Hb ++ (wFR cI cF cJ q0 q1 q2 q3 q4 q5 q6 q7 q8 res.2.2.1 ++ ([kOut cJ u.1 u.2])))) ++ (kRows cI lr u.2)) (A)) (A)) ([.ref ot].toArray) s 4 49 A) (F0 m 190 ls []) := by
                      intro k hk n
                      induction n with
                      | zero =>
                        intro a187 F188 H locs ls hP hD hS hl hf
                        rw [l_X3_off_190] at hf
                        cases hf
                      | succ n ih =>
                        intro a187 F188 H locs ls hP hD hS hl hf
                        rw [l_X3_off_190] at hf
                        refine lv_iload hx hb dX3_off_190 (lv_at hl 0 rfl) ?_
                        refine lv_iload hx hb dX3_off_192 (lv_at hl 5 rfl) ?_
                        refine lv_icmp_le (tgt := 211) hx hb dX3_off_194 (by decide) (fun c189 => ?_) (fun c189 => ?_)
                        · have hf := ite_t hf c189
                          exact hk a187 F188 _ _ _ hP hD hS (lv_sub hl [1, 2, 3, 4, 5, 6] rfl) hf
                        · have hf := ite_f hf c189
                          refine lv_aload_n hx hb dX3_off_197 rfl (lv_at hl 1 rfl) ?_
                          refine lv_iload hx hb dX3_off_198 (lv_at hl 0 rfl) ?_
                          refine lv_bipush (v := 9) hx hb dX3_off_200 (by decide) ?_
                          obtain ⟨x190, hx190, hf⟩ := obd_e hf
                          refine sbT_Vv (As := [.int a187, .int 9]) (rest := []) ⟨hx, hb, hml, hown, hts⟩ (fun sz => c_X3_set l dC dI cI cF cJ cD ot oh b ou od ow oa ob n153 os F188 a187 9  x190 hx190 sz) (cwV 2 hts (g_V q394 q395 q396 q352 q393) rfl rfl rfl pc_X3_set ⟨Nat.le_of_ble_eq_true rfl, Nat.le_of_ble_eq_true rfl⟩) 0 3 rfl rfl hK hP hD hS hA [0, 1, 2, 3, 4, 5, 6] [7, 8, 9, 10, 11, 12, 13, 14, 15, 16, 17, 18, 19, 20] rfl rfl (by decide) (by decide) (by decide) (fun _ _ _ _ h => h) (fun _ _ _ => trivial) rfl rfl hl.1 (Nat.le_of_ble_eq_true rfl) dX3_off_202 ⟨Nat.le_of_ble_eq_true rfl, Nat.le_of_ble_eq_true rfl⟩ (fun u H locs hr9 hP hD hS => ?_)
                          have hP : va_P (dC, dI) vwCl ((wTD cI cF cJ ot oh b ou od ow oa ob n153 os x190 ++ (wHB cI cF cJ oh fa tr rw Hb ++ (wFR cI cF cJ q0 q1 q2 q3 q4 q5 q6 q7 q8 F ++ ([kOut cJ n153 rs154] ++ ([(n137, .inl (cI, (Int32.toNatClampNeg 10), .inl x136))] ++ ([(n157, .inl (cI, (Int32.toNatClampNeg (nI (tN F133))), .inl x156))])))))) ++ (kRows cI lr rs154)) H := va_P.part hP [14, 15, 16, 17, 18, 19, 20, 0, 1, 2, 3, 4, 5, 6, 7, 8, 9, 10, 11, 12, 13] rfl
                          have hD : va_D A ((wTD cI cF cJ ot oh b ou od ow oa ob n153 os x190 ++ (wHB cI cF cJ oh fa tr rw Hb ++ (wFR cI cF cJ q0 q1 q2 q3 q4 q5 q6 q7 q8 F ++ ([kOut cJ n153 rs154] ++ ([(n137, .inl (cI, (Int32.toNatClampNeg 10), .inl x136))] ++ ([(n157, .inl (cI, (Int32.toNatClampNeg (nI (tN F133))), .inl x156))])))))) ++ (kRows cI lr rs154)) := va_D.part hD [14, 15, 16, 17, 18, 19, 20, 0, 1, 2, 3, 4, 5, 6, 7, 8, 9, 10, 11, 12, 13] (by decide) rfl
                          obtain ⟨v191, ev191⟩ : ∃ y : Int32, y = a187 + (-1) := ⟨_, rfl⟩
                          have hf := bnd_all hf v191 ev191
                          refine lv_iinc (v := v191) (lv' := [(7, .int v191), (0, .ref ot), (1, .int b132), (2, .int v151), (3, .ref n157), (4, .int a161), (5, .int v167)]) hx hb dX3_off_205 hl (k := 0) rfl (by rw [ev191]; rfl) (by decide) rfl (fun ls hl => ?_)
                          refine lv_goto (tgt := 190) hx hb dX3_off_208 (by decide) ?_
                          exact ih v191 x190 _ _ _ hP hD hS (lv_sub hl [0, 1, 2, 3, 4, 5, 6] rfl) hf
                    refine L190 _ (fun a192 F193 H locs ls hP hD hS hl hf => ?_) 16 v184 x183 _ _ _ hP hD hS (lv_sub hl [0, 2, 3, 4, 5, 6, 7] rfl) hf
                    obtain ⟨v194, ev194⟩ : ∃ y : Int32, y = v167 + 10 := ⟨_, rfl⟩
                    have hf := bnd_all hf v194 ev194
                    refine lv_iinc (v := v194) (lv' := [(5, .int v194), (0, .ref ot), (1, .int b132), (2, .int v151), (3, .ref n157), (4, .int a161)]) hx hb dX3_off_211 hl (k := 5) rfl (by rw [ev194]; rfl) (by decide) rfl (fun ls hl => ?_)
                    refine lv_aload_n hx hb dX3_off_214 rfl (lv_at hl 1 rfl) ?_
                    refine va_get (D := (dC, dI)) (ci := 3) (v := .ref os) (C := RX3) (T := TX3) (N := 12) hx hb hts iX3 hown hK hP 0 rfl rfl 9 (by decide) (hts _ q331) (fun _ h9 => h9) rfl dX3_off_215 ?_
                    refine lv_iconst (v := 3) hx hb dX3_off_218 (by decide) ?_
                    refine lv_dup2_11 hx hb dX3_off_219 rfl rfl ?_
                    obtain ⟨g195, hf⟩ := gd_e hf
                    refine va_iald hx hb hK hP 6 0 rfl rfl (gin_in g195) dX3_off_220 ?_
                    refine lv_topi (fun v196 ev196 => ?_)
                    have hf := bnd_all hf v196 ev196
                    refine lv_iconst (v := 1) hx hb dX3_off_221 (by decide) ?_
                    refine lv_iadd hx hb dX3_off_222 ?_
                    refine lv_topi (fun v197 ev197 => ?_)
                    have hf := bnd_all hf v197 ev197
                    obtain ⟨g198, hf⟩ := gd_e hf
                    refine va_iast hx hb hK hP hD hS 6 0 rfl rfl (gin_in g198) dX3_off_223 (fun H locs hP hD hS => ?_)
                    have hP : va_P (dC, dI) vwCl ((wTD cI cF cJ ot oh b ou od ow oa ob n153 os (stSm F193 (upd (tSm F193) (Int32.toNatClampNeg 3) v197)) ++ (wHB cI cF cJ oh fa tr rw Hb ++ (wFR cI cF cJ q0 q1 q2 q3 q4 q5 q6 q7 q8 F ++ ([kOut cJ n153 rs154] ++ ([(n137, .inl (cI, (Int32.toNatClampNeg 10), .inl x136))] ++ ([(n157, .inl (cI, (Int32.toNatClampNeg (nI (tN F133))), .inl x156))])))))) ++ (kRows cI lr rs154)) H := hP
                    have hD : va_D A ((wTD cI cF cJ ot oh b ou od ow oa ob n153 os (stSm F193 (upd (tSm F193) (Int32.toNatClampNeg 3) v197)) ++ (wHB cI cF cJ oh fa tr rw Hb ++ (wFR cI cF cJ q0 q1 q2 q3 q4 q5 q6 q7 q8 F ++ ([kOut cJ n153 rs154] ++ ([(n137, .inl (cI, (Int32.toNatClampNeg 10), .inl x136))] ++ ([(n157, .inl (cI, (Int32.toNatClampNeg (nI (tN F133))), .inl x156))])))))) ++ (kRows cI lr rs154)) := hD
                    refine lv_aload_n hx hb dX3_off_224 rfl (lv_at hl 1 rfl) ?_
                    refine lv_iload hx hb dX3_off_225 (lv_at hl 5 rfl) ?_
                    refine lv_iload hx hb dX3_off_227 (lv_at hl 0 rfl) ?_
                    obtain ⟨x199, hx199, hf⟩ := obd_e hf
                    refine sbT_Vv (As := [.int a161, .int v194]) (rest := []) ⟨hx, hb, hml, hown, hts⟩ (fun sz => c_X3_set l dC dI cI cF cJ cD ot oh b ou od ow oa ob n153 os (stSm F193 (upd (tSm F193) (Int32.toNatClampNeg 3) v197)) a161 v194  x199 hx199 sz) (cwV 2 hts (g_V q394 q395 q396 q352 q393) rfl rfl rfl pc_X3_set ⟨Nat.le_of_ble_eq_true rfl, Nat.le_of_ble_eq_true rfl⟩) 0 3 rfl rfl hK hP hD hS hA [0, 1, 2, 3, 4, 5, 6] [7, 8, 9, 10, 11, 12, 13, 14, 15, 16, 17, 18, 19, 20] rfl rfl (by decide) (by decide) (by decide) (fun _ _ _ _ h => h) (fun _ _ _ => trivial) rfl rfl hl.1 (Nat.le_of_ble_eq_true rfl) dX3_off_229 ⟨Nat.le_of_ble_eq_true rfl, Nat.le_of_ble_eq_true rfl⟩ (fun u H locs hr9 hP hD hS => ?_)
                    have hP : va_P (dC, dI) vwCl ((wTD cI cF cJ ot oh b ou od ow oa ob n153 os x199 ++ (wHB cI cF cJ oh fa tr rw Hb ++ (wFR cI cF cJ q0 q1 q2 q3 q4 q5 q6 q7 q8 F ++ ([kOut cJ n153 rs154] ++ ([(n137, .inl (cI, (Int32.toNatClampNeg 10), .inl x136))] ++ ([(n157, .inl (cI, (Int32.toNatClampNeg (nI (tN F133))), .inl x156))])))))) ++ (kRows cI lr rs154)) H := va_P.part hP [14, 15, 16, 17, 18, 19, 20, 0, 1, 2, 3, 4, 5, 6, 7, 8, 9, 10, 11, 12, 13] rfl
                    have hD : va_D A ((wTD cI cF cJ ot oh b ou od ow oa ob n153 os x199 ++ (wHB cI cF cJ oh fa tr rw Hb ++ (wFR cI cF cJ q0 q1 q2 q3 q4 q5 q6 q7 q8 F ++ ([kOut cJ n153 rs154] ++ ([(n137, .inl (cI, (Int32.toNatClampNeg 10), .inl x136))] ++ ([(n157, .inl (cI, (Int32.toNatClampNeg (nI (tN F133))), .inl x156))])))))) ++ (kRows cI lr rs154)) := va_D.part hD [14, 15, 16, 17, 18, 19, 20, 0, 1, 2, 3, 4, 5, 6, 7, 8, 9, 10, 11, 12, 13] (by decide) rfl
                    obtain ⟨v200, ev200⟩ : ∃ y : Int32, y = a161 + (-1) := ⟨_, rfl⟩
                    have hf := bnd_all hf v200 ev200
                    refine lv_iinc (v := v200) (lv' := [(4, .int v200), (5, .int v194), (0, .ref ot), (1, .int b132), (2, .int v151), (3, .ref n157)]) hx hb dX3_off_232 hl (k := 5) rfl (by rw [ev200]; rfl) (by decide) rfl (fun ls hl => ?_)
                    refine lv_goto (tgt := 126) hx hb dX3_off_235 (by decide) ?_
                    exact ih v200 x199 _ _ _ hP hD hS (lv_sub hl [0, 2, 3, 4, 5] rfl) hf
            refine L126 _ (fun a201 F202 H locs ls hP hD hS hl hf => ?_) 16 v158 F133 _ _ _ hP hD hS (lv_sub hl [0, 4, 3, 2, 1] rfl) hf
            refine lv_aload_n hx hb dX3_off_238 rfl (lv_at hl 0 rfl) ?_
            refine va_get (D := (dC, dI)) (ci := 3) (v := .ref oh) (C := RX3) (T := TX3) (N := 12) hx hb hts iX3 hown hK hP 0 rfl rfl 0 (by decide) (hts _ q332) (fun _ h9 => h9) rfl dX3_off_239 ?_
            refine lv_aload_n hx hb dX3_off_242 rfl (lv_at hl 0 rfl) ?_
            refine va_get (D := (dC, dI)) (ci := 3) (v := .int (tNu F202)) (C := RX3) (T := TX3) (N := 12) hx hb hts iX3 hown hK hP 0 rfl rfl 3 (by decide) (hts _ q343) (fun _ h9 => h9) rfl dX3_off_243 ?_
            obtain ⟨g203, hf⟩ := gd_e hf
            refine sb_topv (v' := .int (tNu T)) (congrArg Value.int (gdec_e g203)) ?_
            refine lv_iload_n hx hb dX3_off_246 rfl (lv_at hl 1 rfl) ?_
            obtain ⟨x204, hx204, hf⟩ := obd_e hf
            refine sbT_Vi (As := [.int (tNu T), .int b132]) (rest := []) ⟨hx, hb, hml, hown, hts⟩ (fun sz => c_X2_off l dC dI cI cF cJ cD oh fa tr q0 q1 q2 q3 q4 q5 q6 q7 q8 rw Hb F (tNu T) b132 hq x204 hx204 sz) (cwV 2 hts (g_V q426 q427 q428 q172 q216) rfl rfl rfl pc_X2_off ⟨Nat.le_of_ble_eq_true rfl, Nat.le_of_ble_eq_true rfl⟩) 0 2 rfl rfl hK hP hD hS hA [7, 8, 9, 10, 11, 12, 13, 14, 15, 16, 17] [0, 1, 2, 3, 4, 5, 6, 18, 19, 20] rfl rfl (by decide) (by decide) (by decide) (fun _ _ _ _ h => h) (fun _ _ _ => trivial) rfl rfl hl.1 (Nat.le_of_ble_eq_true rfl) dX3_off_247 ⟨Nat.le_of_ble_eq_true rfl, Nat.le_of_ble_eq_true rfl⟩ (fun r9 u H locs hr9 hP hD hS => ?_)
            have hr9 := Eq.symm hr9
            subst hr9
            have hP : va_P (dC, dI) vwCl ((wTD cI cF cJ ot oh b ou od ow oa ob n153 os F202 ++ (wHB cI cF cJ oh fa tr rw Hb ++ (wFR cI cF cJ q0 q1 q2 q3 q4 q5 q6 q7 q8 x204.2 ++ ([kOut cJ n153 rs154] ++ ([(n137, .inl (cI, (Int32.toNatClampNeg 10), .inl x136))] ++ ([(n157, .inl (cI, (Int32.toNatClampNeg (nI (tN F133))), .inl x156))])))))) ++ (kRows cI lr rs154)) H := va_P.part hP [0, 1, 2, 3, 4, 5, 6, 10, 11, 12, 13, 14, 15, 16, 17, 18, 19, 20, 7, 8, 9] rfl
            have hD : va_D A ((wTD cI cF cJ ot oh b ou od ow oa ob n153 os F202 ++ (wHB cI cF cJ oh fa tr rw Hb ++ (wFR cI cF cJ q0 q1 q2 q3 q4 q5 q6 q7 q8 x204.2 ++ ([kOut cJ n153 rs154] ++ ([(n137, .inl (cI, (Int32.toNatClampNeg 10), .inl x136))] ++ ([(n157, .inl (cI, (Int32.toNatClampNeg (nI (tN F133))), .inl x156))])))))) ++ (kRows cI lr rs154)) := va_D.part hD [0, 1, 2, 3, 4, 5, 6, 10, 11, 12, 13, 14, 15, 16, 17, 18, 19, 20, 7, 8, 9] (by decide) rfl
            refine lv_aload_n hx hb dX3_off_250 rfl (lv_at hl 0 rfl) ?_
            refine va_get (D := (dC, dI)) (ci := 3) (v := .ref os) (C := RX3) (T := TX3) (N := 12) hx hb hts iX3 hown hK hP 0 rfl rfl 9 (by decide) (hts _ q331) (fun _ h9 => h9) rfl dX3_off_251 ?_
            refine lv_iconst (v := 0) hx hb dX3_off_254 (by decide) ?_
            obtain ⟨g205, hf⟩ := gd_e hf
            refine va_iald hx hb hK hP 6 0 rfl rfl (gin_in g205) dX3_off_255 ?_
            refine lv_topi (fun v206 ev206 => ?_)
            have hf := bnd_all hf v206 ev206
            refine lv_iload_n hx hb dX3_off_256 rfl (lv_at hl 2 rfl) ?_
            refine lv_isub hx hb dX3_off_257 ?_
            refine lv_topi (fun v207 ev207 => ?_)
            have hf := bnd_all hf v207 ev207
            refine lv_icmp_ne (tgt := 265) hx hb dX3_off_258 (by decide) (fun c208 => ?_) (fun c208 => ?_)
            · have hf := ite_f hf c208
              refine lv_iconst (v := 0) hx hb dX3_off_265 (by decide) ?_
              have hP : va_P (dC, dI) vwCl ((wTD cI cF cJ ot oh b ou od ow oa ob n153 os F202 ++ (wHB cI cF cJ oh fa tr rw Hb ++ (wFR cI cF cJ q0 q1 q2 q3 q4 q5 q6 q7 q8 x204.2 ++ ([kOut cJ n153 rs154])))) ++ (kRows cI lr rs154)) H := va_P.part hP [0, 1, 2, 3, 4, 5, 6, 7, 8, 9, 10, 11, 12, 13, 14, 15, 16, 17, 18] rfl
              have hD : va_D A ((wTD cI cF cJ ot oh b ou od ow oa ob n153 os F202 ++ (wHB cI cF cJ oh fa tr rw Hb ++ (wFR cI cF cJ q0 q1 q2 q3 q4 q5 q6 q7 q8 x204.2 ++ ([kOut cJ n153 rs154])))) ++ (kRows cI lr rs154)) := va_D.part hD [0, 1, 2, 3, 4, 5, 6, 7, 8, 9, 10, 11, 12, 13, 14, 15, 16, 17, 18] (by decide) rfl
              obtain rfl := Option.some.inj hf
              exact W.zret (v := 0) hx hb hr (by rfl) (fun t ht hW => ⟨⟨_, (n153, rs154), rfl, ⟨rfl, hrs154⟩, by rw [ht]; exact hP, hD⟩, hS.F ht⟩) hS.2.2 dX3_off_266
            · have hf := ite_t hf c208
              refine lv_iconst (v := 1) hx hb dX3_off_261 (by decide) ?_
              refine lv_goto (tgt := 266) hx hb dX3_off_262 (by decide) ?_
              have hP : va_P (dC, dI) vwCl ((wTD cI cF cJ ot oh b ou od ow oa ob n153 os F202 ++ (wHB cI cF cJ oh fa tr rw Hb ++ (wFR cI cF cJ q0 q1 q2 q3 q4 q5 q6 q7 q8 x204.2 ++ ([kOut cJ n153 rs154])))) ++ (kRows cI lr rs154)) H := va_P.part hP [0, 1, 2, 3, 4, 5, 6, 7, 8, 9, 10, 11, 12, 13, 14, 15, 16, 17, 18] rfl
              have hD : va_D A ((wTD cI cF cJ ot oh b ou od ow oa ob n153 os F202 ++ (wHB cI cF cJ oh fa tr rw Hb ++ (wFR cI cF cJ q0 q1 q2 q3 q4 q5 q6 q7 q8 x204.2 ++ ([kOut cJ n153 rs154])))) ++ (kRows cI lr rs154)) := va_D.part hD [0, 1, 2, 3, 4, 5, 6, 7, 8, 9, 10, 11, 12, 13, 14, 15, 16, 17, 18] (by decide) rfl
              obtain rfl := Option.some.inj hf
              exact W.zret (v := 1) hx hb hr (by rfl) (fun t ht hW => ⟨⟨_, (n153, rs154), rfl, ⟨rfl, hrs154⟩, by rw [ht]; exact hP, hD⟩, hS.F ht⟩) hS.2.2 dX3_off_266
          · have hf := ite_f hf c149
            refine lv_aload_n hx hb dX3_off_72 rfl (lv_at hl 1 rfl) ?_
            refine va_get (D := (dC, dI)) (ci := 3) (v := .ref oh) (C := RX3) (T := TX3) (N := 12) hx hb hts iX3 hown hK hP 0 rfl rfl 0 (by decide) (hts _ q332) (fun _ h9 => h9) rfl dX3_off_73 ?_
            refine lv_aload_n hx hb dX3_off_76 rfl (lv_at hl 1 rfl) ?_
            refine va_get (D := (dC, dI)) (ci := 3) (v := .int (tNu F133)) (C := RX3) (T := TX3) (N := 12) hx hb hts iX3 hown hK hP 0 rfl rfl 3 (by decide) (hts _ q343) (fun _ h9 => h9) rfl dX3_off_77 ?_
            obtain ⟨g209, hf⟩ := gd_e hf
            refine sb_topv (v' := .int (tNu T)) (congrArg Value.int (gdec_e g209)) ?_
            refine lv_iload_n hx hb dX3_off_80 rfl (lv_at hl 0 rfl) ?_
            obtain ⟨x210, hx210, hf⟩ := obd_e hf
            refine sbT_Vi (As := [.int (tNu T), .int b132]) (rest := []) ⟨hx, hb, hml, hown, hts⟩ (fun sz => c_X2_off l dC dI cI cF cJ cD oh fa tr q0 q1 q2 q3 q4 q5 q6 q7 q8 rw Hb F (tNu T) b132 hq x210 hx210 sz) (cwV 2 hts (g_V q426 q427 q428 q172 q216) rfl rfl rfl pc_X2_off ⟨Nat.le_of_ble_eq_true rfl, Nat.le_of_ble_eq_true rfl⟩) 0 2 rfl rfl hK hP hD hS hA [7, 8, 9, 10, 11, 12, 13, 14, 15, 16, 17] [0, 1, 2, 3, 4, 5, 6, 18, 19] rfl rfl (by decide) (by decide) (by decide) (fun _ _ _ _ h => h) (fun _ _ _ => trivial) rfl rfl hl.1 (Nat.le_of_ble_eq_true rfl) dX3_off_81 ⟨Nat.le_of_ble_eq_true rfl, Nat.le_of_ble_eq_true rfl⟩ (fun r9 u H locs hr9 hP hD hS => ?_)
            have hr9 := Eq.symm hr9
            subst hr9
            have hP : va_P (dC, dI) vwCl ((wTD cI cF cJ ot oh b ou od ow oa ob ok os F133 ++ (wHB cI cF cJ oh fa tr rw Hb ++ (wFR cI cF cJ q0 q1 q2 q3 q4 q5 q6 q7 q8 x210.2 ++ ([kOut cJ ok rs] ++ ([(n137, .inl (cI, (Int32.toNatClampNeg 10), .inl x136))]))))) ++ (kRows cI lr rs)) H := va_P.part hP [0, 1, 2, 3, 4, 5, 6, 9, 10, 11, 12, 13, 14, 15, 16, 17, 18, 19, 7, 8] rfl
            have hD : va_D A ((wTD cI cF cJ ot oh b ou od ow oa ob ok os F133 ++ (wHB cI cF cJ oh fa tr rw Hb ++ (wFR cI cF cJ q0 q1 q2 q3 q4 q5 q6 q7 q8 x210.2 ++ ([kOut cJ ok rs] ++ ([(n137, .inl (cI, (Int32.toNatClampNeg 10), .inl x136))]))))) ++ (kRows cI lr rs)) := va_D.part hD [0, 1, 2, 3, 4, 5, 6, 9, 10, 11, 12, 13, 14, 15, 16, 17, 18, 19, 7, 8] (by decide) rfl
            refine lv_bipush (v := (-2)) hx hb dX3_off_84 (by decide) ?_
            refine lv_icmp_ne (tgt := 93) hx hb dX3_off_86 (by decide) (fun c211 => ?_) (fun c211 => ?_)
            · have hf := ite_f hf c211
              refine lv_iconst (v := 0) hx hb dX3_off_93 (by decide) ?_
              have hP : va_P (dC, dI) vwCl ((wTD cI cF cJ ot oh b ou od ow oa ob ok os F133 ++ (wHB cI cF cJ oh fa tr rw Hb ++ (wFR cI cF cJ q0 q1 q2 q3 q4 q5 q6 q7 q8 x210.2 ++ ([kOut cJ ok rs])))) ++ (kRows cI lr rs)) H := va_P.part hP [0, 1, 2, 3, 4, 5, 6, 7, 8, 9, 10, 11, 12, 13, 14, 15, 16, 17, 18] rfl
              have hD : va_D A ((wTD cI cF cJ ot oh b ou od ow oa ob ok os F133 ++ (wHB cI cF cJ oh fa tr rw Hb ++ (wFR cI cF cJ q0 q1 q2 q3 q4 q5 q6 q7 q8 x210.2 ++ ([kOut cJ ok rs])))) ++ (kRows cI lr rs)) := va_D.part hD [0, 1, 2, 3, 4, 5, 6, 7, 8, 9, 10, 11, 12, 13, 14, 15, 16, 17, 18] (by decide) rfl
              refine W.widen (k := 4) (n := 49) (Nat.le_of_ble_eq_true rfl) (Nat.le_of_ble_eq_true rfl) ?_
              obtain rfl := Option.some.inj hf
              exact W.zret (v := 0) hx hb hr (by rfl) (fun t ht hW => ⟨⟨_, (ok, rs), rfl, ⟨rfl, hrs⟩, by rw [ht]; exact hP, hD⟩, hS.F ht⟩) hS.2.2 dX3_off_94
            · have hf := ite_t hf c211
              refine lv_iconst (v := 1) hx hb dX3_off_89 (by decide) ?_
              refine lv_goto (tgt := 94) hx hb dX3_off_90 (by decide) ?_
              have hP : va_P (dC, dI) vwCl ((wTD cI cF cJ ot oh b ou od ow oa ob ok os F133 ++ (wHB cI cF cJ oh fa tr rw Hb ++ (wFR cI cF cJ q0 q1 q2 q3 q4 q5 q6 q7 q8 x210.2 ++ ([kOut cJ ok rs])))) ++ (kRows cI lr rs)) H := va_P.part hP [0, 1, 2, 3, 4, 5, 6, 7, 8, 9, 10, 11, 12, 13, 14, 15, 16, 17, 18] rfl
              have hD : va_D A ((wTD cI cF cJ ot oh b ou od ow oa ob ok os F133 ++ (wHB cI cF cJ oh fa tr rw Hb ++ (wFR cI cF cJ q0 q1 q2 q3 q4 q5 q6 q7 q8 x210.2 ++ ([kOut cJ ok rs])))) ++ (kRows cI lr rs)) := va_D.part hD [0, 1, 2, 3, 4, 5, 6, 7, 8, 9, 10, 11, 12, 13, 14, 15, 16, 17, 18] (by decide) rfl
              refine W.widen (k := 4) (n := 49) (Nat.le_of_ble_eq_true rfl) (Nat.le_of_ble_eq_true rfl) ?_
              obtain rfl := Option.some.inj hf
              exact W.zret (v := 1) hx hb hr (by rfl) (fun t ht hW => ⟨⟨_, (ok, rs), rfl, ⟨rfl, hrs⟩, by rw [ht]; exact hP, hD⟩, hS.F ht⟩) hS.2.2 dX3_off_94
      · have hf := ite_f hf c140
        refine lv_iconst (v := 1) hx hb dX3_off_53 (by decide) ?_
        have hP : va_P (dC, dI) vwCl ((wTD cI cF cJ ot oh b ou od ow oa ob ok os F133 ++ (wHB cI cF cJ oh fa tr rw Hb ++ (wFR cI cF cJ q0 q1 q2 q3 q4 q5 q6 q7 q8 F ++ ([kOut cJ ok rs])))) ++ (kRows cI lr rs)) H := va_P.part hP [0, 1, 2, 3, 4, 5, 6, 7, 8, 9, 10, 11, 12, 13, 14, 15, 16, 17, 18] rfl
        have hD : va_D A ((wTD cI cF cJ ot oh b ou od ow oa ob ok os F133 ++ (wHB cI cF cJ oh fa tr rw Hb ++ (wFR cI cF cJ q0 q1 q2 q3 q4 q5 q6 q7 q8 F ++ ([kOut cJ ok rs])))) ++ (kRows cI lr rs)) := va_D.part hD [0, 1, 2, 3, 4, 5, 6, 7, 8, 9, 10, 11, 12, 13, 14, 15, 16, 17, 18] (by decide) rfl
        refine W.widen (k := 4) (n := 49) (Nat.le_of_ble_eq_true rfl) (Nat.le_of_ble_eq_true rfl) ?_
        obtain rfl := Option.some.inj hf
        exact W.zret (v := 1) hx hb hr (by rfl) (fun t ht hW => ⟨⟨_, (ok, rs), rfl, ⟨rfl, hrs⟩, by rw [ht]; exact hP, hD⟩, hS.F ht⟩) hS.2.2 dX3_off_54
  refine lv_if_ne (tgt := 15) hx hb dX3_off_5 (by decide) (fun c212 => ?_) (fun c212 => ?_)
  · have hf := ite_f hf c212
    refine lv_aload_n hx hb dX3_off_15 rfl (lv_at hl 0 rfl) ?_
    obtain ⟨x213, hx213, hf⟩ := obd_e hf
    refine sbT_Vl (As := []) (rest := []) ⟨hx, hb, hml, hown, hts⟩ (fun sz => c_X3_total l dC dI cI cF cJ cD ot oh b ou od ow oa ob ok os x1.2  x213 hx213 sz) (cwV 0 hts (g_V q420 q421 q422 q352 q367) rfl rfl rfl pc_X3_total ⟨Nat.le_of_ble_eq_true rfl, Nat.le_of_ble_eq_true rfl⟩) 0 3 rfl rfl hK hP hD hS hA [0, 1, 2, 3, 4, 5, 6] [7, 8, 9, 10, 11, 12, 13, 14, 15, 16, 17, 18] rfl rfl (by decide) (by decide) (by decide) (fun _ _ _ _ h => h) (fun _ _ _ => trivial) rfl rfl hl.1 (Nat.le_of_ble_eq_true rfl) dX3_off_16 ⟨hkc, hks⟩ (fun r9 u H locs hr9 hP hD hS => ?_)
    have hr9 := Eq.symm hr9
    subst hr9
    have hP : va_P (dC, dI) vwCl ((wTD cI cF cJ ot oh b ou od ow oa ob ok os x1.2 ++ (wHB cI cF cJ oh fa tr rw Hb ++ (wFR cI cF cJ q0 q1 q2 q3 q4 q5 q6 q7 q8 F ++ ([kOut cJ ok rs])))) ++ (kRows cI lr rs)) H := va_P.part hP [12, 13, 14, 15, 16, 17, 18, 0, 1, 2, 3, 4, 5, 6, 7, 8, 9, 10, 11] rfl
    have hD : va_D A ((wTD cI cF cJ ot oh b ou od ow oa ob ok os x1.2 ++ (wHB cI cF cJ oh fa tr rw Hb ++ (wFR cI cF cJ q0 q1 q2 q3 q4 q5 q6 q7 q8 F ++ ([kOut cJ ok rs])))) ++ (kRows cI lr rs)) := va_D.part hD [12, 13, 14, 15, 16, 17, 18, 0, 1, 2, 3, 4, 5, 6, 7, 8, 9, 10, 11] (by decide) rfl
    refine lv_iconst (v := 1) hx hb dX3_off_19 (by decide) ?_
    refine lv_aload_n hx hb dX3_off_20 rfl (lv_at hl 0 rfl) ?_
    refine lv_bipush (v := 9) hx hb dX3_off_21 (by decide) ?_
    obtain ⟨x214, hx214, hf⟩ := obd_e hf
    refine sbT_Vi (As := [.int 9]) (rest := [.int 1, .long x213]) ⟨hx, hb, hml, hown, hts⟩ (fun sz => c_X3_draw l dC dI cI cF cJ cD b L xs tA tB ot oh ou od ow oa ob ok os x1.2 9  x214 hx214 sz) (cwV 1 hts (g_V q349 q350 q351 q352 q339) rfl rfl rfl pc_X3_draw ⟨Nat.le_of_ble_eq_true rfl, Nat.le_of_ble_eq_true rfl⟩) 0 3 rfl rfl hK hP hD hS hA [0, 1, 2, 3, 4, 5, 6] [7, 8, 9, 10, 11, 12, 13, 14, 15, 16, 17, 18] rfl rfl (by decide) (by decide) (by decide) EX_blind (fun U hU hW => EX_pass hE hS (va_free hD.left hS hA [0, 1, 2, 3, 4, 5, 6] rfl) hU hW) rfl rfl hl.1 (Nat.le_of_ble_eq_true rfl) dX3_off_23 ⟨hkc, hks⟩ (fun r9 u H locs hr9 hP hD hS => ?_)
    have hr9 := Eq.symm hr9
    subst hr9
    have hP : va_P (dC, dI) vwCl ((wTD cI cF cJ ot oh b ou od ow oa ob ok os x214.2 ++ (wHB cI cF cJ oh fa tr rw Hb ++ (wFR cI cF cJ q0 q1 q2 q3 q4 q5 q6 q7 q8 F ++ ([kOut cJ ok rs])))) ++ (kRows cI lr rs)) H := va_P.part hP [12, 13, 14, 15, 16, 17, 18, 0, 1, 2, 3, 4, 5, 6, 7, 8, 9, 10, 11] rfl
    have hD : va_D A ((wTD cI cF cJ ot oh b ou od ow oa ob ok os x214.2 ++ (wHB cI cF cJ oh fa tr rw Hb ++ (wFR cI cF cJ q0 q1 q2 q3 q4 q5 q6 q7 q8 F ++ ([kOut cJ ok rs])))) ++ (kRows cI lr rs)) := va_D.part hD [12, 13, 14, 15, 16, 17, 18, 0, 1, 2, 3, 4, 5, 6, 7, 8, 9, 10, 11] (by decide) rfl
    refine lv_iadd hx hb dX3_off_26 ?_
    refine lv_topi (fun v215 ev215 => ?_)
    have hf := bnd_all hf v215 ev215
    refine lv_i2l hx hb dX3_off_27 rfl ?_
    refine lv_topl (fun v216 ev216 => ?_)
    have hf := bnd_all hf v216 ev216
    obtain ⟨g217, hf⟩ := gd_e hf
    refine lv_ldiv hx hb dX3_off_28 (nz64_e g217) ?_
    refine lv_topl (fun v218 ev218 => ?_)
    have hf := bnd_all hf v218 ev218
    refine lv_l2i hx hb dX3_off_29 rfl ?_
    refine lv_topi (fun v219 ev219 => ?_)
    have hf := bnd_all hf v219 ev219
    exact hJ30 v219 x214.2 _ _ _ hP hD hS (lv_sub hl [0] rfl) hf
  · have hf := ite_t hf c212
    refine lv_aload_n hx hb dX3_off_8 rfl (lv_at hl 0 rfl) ?_
    obtain ⟨x220, hx220, hf⟩ := obd_e hf
    refine sbT_Vi (As := []) (rest := []) ⟨hx, hb, hml, hown, hts⟩ (fun sz => c_X3_some l dC dI cI cF cJ cD b L xs tA tB ot oh ou od ow oa ob ok os x1.2  x220 hx220 sz) (cwV 0 hts (g_V q406 q407 q408 q352 q405) rfl rfl rfl pc_X3_some ⟨Nat.le_of_ble_eq_true rfl, Nat.le_of_ble_eq_true rfl⟩) 0 3 rfl rfl hK hP hD hS hA [0, 1, 2, 3, 4, 5, 6] [7, 8, 9, 10, 11, 12, 13, 14, 15, 16, 17, 18] rfl rfl (by decide) (by decide) (by decide) EX_blind (fun U hU hW => EX_pass hE hS (va_free hD.left hS hA [0, 1, 2, 3, 4, 5, 6] rfl) hU hW) rfl rfl hl.1 (Nat.le_of_ble_eq_true rfl) dX3_off_9 ⟨hkc, hks⟩ (fun r9 u H locs hr9 hP hD hS => ?_)
    have hr9 := Eq.symm hr9
    subst hr9
    have hP : va_P (dC, dI) vwCl ((wTD cI cF cJ ot oh b ou od ow oa ob ok os x220.2 ++ (wHB cI cF cJ oh fa tr rw Hb ++ (wFR cI cF cJ q0 q1 q2 q3 q4 q5 q6 q7 q8 F ++ ([kOut cJ ok rs])))) ++ (kRows cI lr rs)) H := va_P.part hP [12, 13, 14, 15, 16, 17, 18, 0, 1, 2, 3, 4, 5, 6, 7, 8, 9, 10, 11] rfl
    have hD : va_D A ((wTD cI cF cJ ot oh b ou od ow oa ob ok os x220.2 ++ (wHB cI cF cJ oh fa tr rw Hb ++ (wFR cI cF cJ q0 q1 q2 q3 q4 q5 q6 q7 q8 F ++ ([kOut cJ ok rs])))) ++ (kRows cI lr rs)) := va_D.part hD [12, 13, 14, 15, 16, 17, 18, 0, 1, 2, 3, 4, 5, 6, 7, 8, 9, 10, 11] (by decide) rfl
    refine lv_goto (tgt := 30) hx hb dX3_off_12 (by decide) ?_
    exact hJ30 x220.1 x220.2 _ _ _ hP hD hS (lv_sub hl [0] rfl) hf
