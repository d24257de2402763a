-- laid by wip/p30/specs.py
noncomputable def f_X3_keep (lr : Nat) (T : TD) (K : KO) : Option (KO) := bnd (2 * (nI (tN T))) fun (v1 : Int32) => gd (glen v1 16) <| gd (gcp 0 0 (nI (tN T)) (tN T) (Int32.toNatClampNeg v1)) <| gd (gcp 0 (nI (tN T)) (nI (tN T)) (tN T) (Int32.toNatClampNeg v1)) <| if (nI (List.length K)) = 12 then (none) else (bnd ((nI (List.length K)) - 0) fun (v7 : Int32) => bnd (v7 + 1) fun (v8 : Int32) => gd (glen v8 13) <| bnd ((nI (List.length K)) - 0) fun (v11 : Int32) => gd (gcp 0 0 v11 (List.length K) (Int32.toNatClampNeg v8)) <| bnd ((nI (Int32.toNatClampNeg v8)) - 1) fun (v13 : Int32) => gd (gin v13 (Int32.toNatClampNeg v8)) <| gd (gdec ((Int32.toNatClampNeg v1) = lr)) <| gd (gdec (List.length K < 12)) <| some (K ++ [(va_cpy (tDn T) (va_cpy (tUp T) (fun _ => 0) (Int32.toNatClampNeg 0) (Int32.toNatClampNeg 0) (Int32.toNatClampNeg (nI (tN T)))) (Int32.toNatClampNeg 0) (Int32.toNatClampNeg (nI (tN T))) (Int32.toNatClampNeg (nI (tN T))))]))
theorem pc_X3_keep : yX3_keep.cls = RX3 ∧ yX3_keep.cls ≠ "java/lang/invoke/MethodHandle" ∧ yX3_keep.cls ≠ "java/lang/invoke/VarHandle" ∧ (parseMethodDescriptor yX3_keep.desc).map (fun d => d.parameters.length) = some 0 := by decide +kernel
abbrev rm_X3_keep : Room := { frames := 1, cells := 2, slots := 29, locals := 60 }
set_option maxHeartbeats 4000000 in
set_option maxRecDepth 100000 in
theorem c_X3_keep (l : Launch) (dC : Nat → ClassId) (dI : Nat → Nat → Nat) (cI cF cJ cD : ClassId) (b L : Nat) (xs : Nat → Int32) (tA tB : Nat) (lr : Nat) (ot oh ou od ow oa ob ok os : Nat) (rs : RS) (T : TD) (K : KO) (hrs : rs.map Prod.snd = K) (res : (KO)) (hf : f_X3_keep lr T K = some res) (sz : Nat) : Met l yX3_keep (ws_ yX3_keep cX3_keep 4 none) rm_X3_keep (sbPre (dC, dI) (TY cI cF cJ cD) ((wTD cI cF cJ ot oh b ou od ow oa ob ok os T ++ ([kOut cJ ok rs])) ++ (kRows cI lr rs)) (fun sz U => EX b L xs tA tB (va_A ((wTD cI cF cJ ot oh b ou od ow oa ob ok os T ++ ([kOut cJ ok rs])) ++ (kRows cI lr rs)) sz) U) sz [.ref ot]) (va_Qv (fun (u : Nat × RS) => u.2.map Prod.snd = res) (sbEnd (dC, dI) (fun (u : Nat × RS) => (wTD cI cF cJ ot oh b ou od ow oa ob u.1 os T ++ ([kOut cJ u.1 u.2])) ++ (kRows cI lr u.2)) (va_A ((wTD cI cF cJ ot oh b ou od ow oa ob ok os T ++ ([kOut cJ ok rs])) ++ (kRows cI lr rs)) sz)) (va_A ((wTD cI cF cJ ot oh b ou od ow oa ob ok os T ++ ([kOut cJ ok rs])) ++ (kRows cI lr rs)) sz)) 2 29 (va_A ((wTD cI cF cJ ot oh b ou od ow oa ob ok os T ++ ([kOut cJ ok rs])) ++ (kRows cI lr rs)) sz) := by
  refine Met.ofW (cc := cX3_keep) (maxL := 4) (ret := none) (by decide) rfl ?_
  intro p e s m args below meth c s₁ B hml hv
  obtain ⟨rfl, hsz, hP, hK, hD0, hE⟩ := hv
  have hx := B.exec
  have hb := B.bytes
  have hr := B.returns
  have hts0 := atoms_spec (ws := ws_ yX3_keep cX3_keep 4 none) B.pre
  have hts := fun (w : Cond) (h : w ∈ LW) => hts0 w (List.mem_cons_of_mem _ h)
  have hown : s.vm.findClass RX3 = some m.cls := findClass_of_methodNamed B.named
  have hlocks := B.notSynchronized
  subst hsz
  have hD := hD0.self (sz := s.heap.size)
  have hE : EX b L xs tA tB (va_A ((wTD cI cF cJ ot oh b ou od ow oa ob ok os T ++ ([kOut cJ ok rs])) ++ (kRows cI lr rs)) s.heap.size) s := hE
  generalize hAe : va_A ((wTD cI cF cJ ot oh b ou od ow oa ob ok os T ++ ([kOut cJ ok rs])) ++ (kRows cI lr rs)) s.heap.size = A at hD hE ⊢
  have hA : ∀ q : Nat, s.heap.size ≤ q → A q := fun q h => by rw [← hAe]; exact Or.inr h
  have hS : va_S A s.heap s.heap [] := va_S.rf
  have hkc := Nat.zero_le rm_X3_keep.cells
  have hks := Nat.zero_le rm_X3_keep.slots
  have hl := lv_entry ([.ref ot]) (n := 4) (Nat.le_of_ble_eq_true rfl)
  rw [lg_entry_eq]
  generalize (lg_sl ([.ref ot]) ++ List.replicate (4 - (lg_sl ([.ref ot])).length) Slot.unset).toArray = ls at hl ⊢
  have hl : lv_has ls 4 [(0, .ref ot)] := hl
  rw [f_X3_keep] at hf
  refine lv_iconst (v := 2) hx hb dX3_keep_0 (by decide) ?_
  refine lv_aload_n hx hb dX3_keep_1 rfl (lv_at hl 0 rfl) ?_
  refine va_get (D := (dC, dI)) (ci := 3) (v := .ref ou) (C := RX3) (T := TX3) (N := 12) hx hb hts iX3 hown hK hP 0 rfl rfl 5 (by decide) (hts _ q345) (fun _ h9 => h9) rfl dX3_keep_2 ?_
  refine va_alen (v := (nI (tN T))) hx hb hK hP 1 0 rfl rfl rfl dX3_keep_5 ?_
  refine lv_imul hx hb dX3_keep_6 ?_
  refine lv_topi (fun v1 ev1 => ?_)
  have hf := bnd_all hf v1 ev1
  obtain ⟨g3, hf⟩ := gd_e hf
  refine sb_newi hx hb (hts _ q4) hK hP hD hS hA (glen_0 g3) rfl (glen_b g3 (by decide)) (Nat.le_of_ble_eq_true rfl) (glen_s g3 (Nat.le_of_ble_eq_true rfl)) dX3_keep_7 (fun n2 H hP hD hS => ?_)
  refine W.widen (k := 1) (n := 16) (Nat.le_refl _) (glen_w g3) ?_
  have hP := hP.swap
  have hD := hD.swap
  have hP : va_P (dC, dI) vwCl ((wTD cI cF cJ ot oh b ou od ow oa ob ok os T ++ ([kOut cJ ok rs] ++ ([(n2, .inl (cI, (Int32.toNatClampNeg v1), .inl (fun _ => 0)))]))) ++ (kRows cI lr rs)) H := hP
  have hD : va_D A ((wTD cI cF cJ ot oh b ou od ow oa ob ok os T ++ ([kOut cJ ok rs] ++ ([(n2, .inl (cI, (Int32.toNatClampNeg v1), .inl (fun _ => 0)))]))) ++ (kRows cI lr rs)) := hD
  refine lv_astore_n (lv' := [(1, .ref n2), (0, .ref ot)]) hx hb dX3_keep_9 rfl hl (by decide) rfl (fun ls hl => ?_)
  refine lv_aload_n hx hb dX3_keep_10 rfl (lv_at hl 1 rfl) ?_
  refine va_get (D := (dC, dI)) (ci := 3) (v := .ref ou) (C := RX3) (T := TX3) (N := 12) hx hb hts iX3 hown hK hP 0 rfl rfl 5 (by decide) (hts _ q345) (fun _ h9 => h9) rfl dX3_keep_11 ?_
  refine lv_iconst (v := 0) hx hb dX3_keep_14 (by decide) ?_
  refine lv_aload_n hx hb dX3_keep_15 rfl (lv_at hl 0 rfl) ?_
  refine lv_iconst (v := 0) hx hb dX3_keep_16 (by decide) ?_
  refine lv_aload_n hx hb dX3_keep_17 rfl (lv_at hl 1 rfl) ?_
  refine va_get (D := (dC, dI)) (ci := 3) (v := .ref ou) (C := RX3) (T := TX3) (N := 12) hx hb hts iX3 hown hK hP 0 rfl rfl 5 (by decide) (hts _ q345) (fun _ h9 => h9) rfl dX3_keep_18 ?_
  refine va_alen (v := (nI (tN T))) hx hb hK hP 1 0 rfl rfl rfl dX3_keep_21 ?_
  obtain ⟨g4, hf⟩ := gd_e hf
  obtain ⟨g4a, g4b, g4c, g4d, g4e⟩ := gcp_e g4
  refine va_copyi hx hb (hml.trans hl.1.symm) hown (hts _ q374) (hts _ q375) (hts _ q376) (hts _ q377) hK hP hD hS 1 8 0 0 rfl rfl rfl rfl rfl g4a g4b g4c g4d g4e (fun _ _ => rfl) (Nat.le_of_ble_eq_true rfl) (Nat.le_of_ble_eq_true rfl) dX3_keep_22 (fun H locs hP hD hS => ?_)
  have hP : va_P (dC, dI) vwCl ((wTD cI cF cJ ot oh b ou od ow oa ob ok os T ++ ([kOut cJ ok rs] ++ ([(n2, .inl (cI, (Int32.toNatClampNeg v1), .inl (va_cpy (tUp T) (fun _ => 0) (Int32.toNatClampNeg 0) (Int32.toNatClampNeg 0) (Int32.toNatClampNeg (nI (tN T))))))]))) ++ (kRows cI lr rs)) H := hP
  have hD : va_D A ((wTD cI cF cJ ot oh b ou od ow oa ob ok os T ++ ([kOut cJ ok rs] ++ ([(n2, .inl (cI, (Int32.toNatClampNeg v1), .inl (va_cpy (tUp T) (fun _ => 0) (Int32.toNatClampNeg 0) (Int32.toNatClampNeg 0) (Int32.toNatClampNeg (nI (tN T))))))]))) ++ (kRows cI lr rs)) := hD
  refine lv_aload_n hx hb dX3_keep_25 rfl (lv_at hl 1 rfl) ?_
  refine va_get (D := (dC, dI)) (ci := 3) (v := .ref od) (C := RX3) (T := TX3) (N := 12) hx hb hts iX3 hown hK hP 0 rfl rfl 6 (by decide) (hts _ q346) (fun _ h9 => h9) rfl dX3_keep_26 ?_
  refine lv_iconst (v := 0) hx hb dX3_keep_29 (by decide) ?_
  refine lv_aload_n hx hb dX3_keep_30 rfl (lv_at hl 0 rfl) ?_
  refine lv_aload_n hx hb dX3_keep_31 rfl (lv_at hl 1 rfl) ?_
  refine va_get (D := (dC, dI)) (ci := 3) (v := .ref ou) (C := RX3) (T := TX3) (N := 12) hx hb hts iX3 hown hK hP 0 rfl rfl 5 (by decide) (hts _ q345) (fun _ h9 => h9) rfl dX3_keep_32 ?_
  refine va_alen (v := (nI (tN T))) hx hb hK hP 1 0 rfl rfl rfl dX3_keep_35 ?_
  refine lv_aload_n hx hb dX3_keep_36 rfl (lv_at hl 1 rfl) ?_
  refine va_get (D := (dC, dI)) (ci := 3) (v := .ref ou) (C := RX3) (T := TX3) (N := 12) hx hb hts iX3 hown hK hP 0 rfl rfl 5 (by decide) (hts _ q345) (fun _ h9 => h9) rfl dX3_keep_37 ?_
  refine va_alen (v := (nI (tN T))) hx hb hK hP 1 0 rfl rfl rfl dX3_keep_40 ?_
  obtain ⟨g5, hf⟩ := gd_e hf
  obtain ⟨g5a, g5b, g5c, g5d, g5e⟩ := gcp_e g5
  refine va_copyi hx hb (hml.trans hl.1.symm) hown (hts _ q374) (hts _ q375) (hts _ q376) (hts _ q377) hK hP hD hS 2 8 0 0 rfl rfl rfl rfl rfl g5a g5b g5c g5d g5e (fun _ _ => rfl) (Nat.le_of_ble_eq_true rfl) (Nat.le_of_ble_eq_true rfl) dX3_keep_41 (fun H locs hP hD hS => ?_)
  have hP : va_P (dC, dI) vwCl ((wTD cI cF cJ ot oh b ou od ow oa ob ok os T ++ ([kOut cJ ok rs] ++ ([(n2, .inl (cI, (Int32.toNatClampNeg v1), .inl (va_cpy (tDn T) (va_cpy (tUp T) (fun _ => 0) (Int32.toNatClampNeg 0) (Int32.toNatClampNeg 0) (Int32.toNatClampNeg (nI (tN T)))) (Int32.toNatClampNeg 0) (Int32.toNatClampNeg (nI (tN T))) (Int32.toNatClampNeg (nI (tN T))))))]))) ++ (kRows cI lr rs)) H := hP
  have hD : va_D A ((wTD cI cF cJ ot oh b ou od ow oa ob ok os T ++ ([kOut cJ ok rs] ++ ([(n2, .inl (cI, (Int32.toNatClampNeg v1), .inl (va_cpy (tDn T) (va_cpy (tUp T) (fun _ => 0) (Int32.toNatClampNeg 0) (Int32.toNatClampNeg 0) (Int32.toNatClampNeg (nI (tN T)))) (Int32.toNatClampNeg 0) (Int32.toNatClampNeg (nI (tN T))) (Int32.toNatClampNeg (nI (tN T))))))]))) ++ (kRows cI lr rs)) := hD
  refine lv_aload_n hx hb dX3_keep_44 rfl (lv_at hl 1 rfl) ?_
  refine va_get (D := (dC, dI)) (ci := 3) (v := .ref ok) (C := RX3) (T := TX3) (N := 12) hx hb hts iX3 hown hK hP 0 rfl rfl 8 (by decide) (hts _ q330) (fun _ h9 => h9) rfl dX3_keep_45 ?_
  refine va_alen (v := nI (List.length rs)) hx hb hK hP 7 2 rfl rfl rfl dX3_keep_48 ?_
  refine sb_topv (v' := .int (nI (List.length K))) (by rw [← hrs, List.length_map]) ?_
  refine lv_bipush (v := 12) hx hb dX3_keep_49 (by decide) ?_
  refine lv_icmp_ne (tgt := 58) hx hb dX3_keep_51 (by decide) (fun c6 => ?_) (fun c6 => ?_)
  · have hf := ite_f hf c6
    refine lv_iconst (v := 0) hx hb dX3_keep_58 (by decide) ?_
    refine lv_istore_n (lv' := [(2, .int 0), (1, .ref n2), (0, .ref ot)]) hx hb dX3_keep_59 rfl hl (by decide) rfl (fun ls hl => ?_)
    refine lv_aload_n hx hb dX3_keep_60 rfl (lv_at hl 2 rfl) ?_
    refine va_get (D := (dC, dI)) (ci := 3) (v := .ref ok) (C := RX3) (T := TX3) (N := 12) hx hb hts iX3 hown hK hP 0 rfl rfl 8 (by decide) (hts _ q330) (fun _ h9 => h9) rfl dX3_keep_61 ?_
    refine va_alen (v := nI (List.length rs)) hx hb hK hP 7 2 rfl rfl rfl dX3_keep_64 ?_
    refine sb_topv (v' := .int (nI (List.length K))) (by rw [← hrs, List.length_map]) ?_
    refine lv_iload_n hx hb dX3_keep_65 rfl (lv_at hl 0 rfl) ?_
    refine lv_isub hx hb dX3_keep_66 ?_
    refine lv_topi (fun v7 ev7 => ?_)
    have hf := bnd_all hf v7 ev7
    refine lv_iconst (v := 1) hx hb dX3_keep_67 (by decide) ?_
    refine lv_iadd hx hb dX3_keep_68 ?_
    refine lv_topi (fun v8 ev8 => ?_)
    have hf := bnd_all hf v8 ev8
    obtain ⟨g10, hf⟩ := gd_e hf
    refine sb_newJ hx hb hown (hts _ q329) hE.2.1.2.2.2.2.2 hK hP hD hS hA (glen_0 g10) rfl (glen_b g10 (by decide)) (Nat.le_of_ble_eq_true rfl) (glen_s g10 (Nat.le_of_ble_eq_true rfl)) dX3_keep_69 (fun n9 H hP hD hS => ?_)
    refine W.widen (k := 2) (n := 29) (Nat.le_refl _) (glen_w g10) ?_
    have hP := hP.swap
    have hD := hD.swap
    have hP : va_P (dC, dI) vwCl ((wTD cI cF cJ ot oh b ou od ow oa ob ok os T ++ ([kOut cJ ok rs] ++ ([(n2, .inl (cI, (Int32.toNatClampNeg v1), .inl (va_cpy (tDn T) (va_cpy (tUp T) (fun _ => 0) (Int32.toNatClampNeg 0) (Int32.toNatClampNeg 0) (Int32.toNatClampNeg (nI (tN T)))) (Int32.toNatClampNeg 0) (Int32.toNatClampNeg (nI (tN T))) (Int32.toNatClampNeg (nI (tN T))))))] ++ ([(n9, .inl (cJ, (Int32.toNatClampNeg v8), .inr (.inr (.inr (.inr (fun _ => none))))))])))) ++ (kRows cI lr rs)) H := hP
    have hD : va_D A ((wTD cI cF cJ ot oh b ou od ow oa ob ok os T ++ ([kOut cJ ok rs] ++ ([(n2, .inl (cI, (Int32.toNatClampNeg v1), .inl (va_cpy (tDn T) (va_cpy (tUp T) (fun _ => 0) (Int32.toNatClampNeg 0) (Int32.toNatClampNeg 0) (Int32.toNatClampNeg (nI (tN T)))) (Int32.toNatClampNeg 0) (Int32.toNatClampNeg (nI (tN T))) (Int32.toNatClampNeg (nI (tN T))))))] ++ ([(n9, .inl (cJ, (Int32.toNatClampNeg v8), .inr (.inr (.inr (.inr (fun _ => none))))))])))) ++ (kRows cI lr rs)) := hD
    refine lv_astore_n (lv' := [(3, .ref n9), (2, .int 0), (1, .ref n2), (0, .ref ot)]) hx hb dX3_keep_72 rfl hl (by decide) rfl (fun ls hl => ?_)
    refine lv_aload_n hx hb dX3_keep_73 rfl (lv_at hl 3 rfl) ?_
    refine va_get (D := (dC, dI)) (ci := 3) (v := .ref ok) (C := RX3) (T := TX3) (N := 12) hx hb hts iX3 hown hK hP 0 rfl rfl 8 (by decide) (hts _ q330) (fun _ h9 => h9) rfl dX3_keep_74 ?_
    refine lv_iload_n hx hb dX3_keep_77 rfl (lv_at hl 1 rfl) ?_
    refine lv_aload_n hx hb dX3_keep_78 rfl (lv_at hl 0 rfl) ?_
    refine lv_iconst (v := 0) hx hb dX3_keep_79 (by decide) ?_
    refine lv_aload_n hx hb dX3_keep_80 rfl (lv_at hl 3 rfl) ?_
    refine va_get (D := (dC, dI)) (ci := 3) (v := .ref ok) (C := RX3) (T := TX3) (N := 12) hx hb hts iX3 hown hK hP 0 rfl rfl 8 (by decide) (hts _ q330) (fun _ h9 => h9) rfl dX3_keep_81 ?_
    refine va_alen (v := nI (List.length rs)) hx hb hK hP 7 2 rfl rfl rfl dX3_keep_84 ?_
    refine sb_topv (v' := .int (nI (List.length K))) (by rw [← hrs, List.length_map]) ?_
    refine lv_iload_n hx hb dX3_keep_85 rfl (lv_at hl 1 rfl) ?_
    refine lv_isub hx hb dX3_keep_86 ?_
    refine lv_topi (fun v11 ev11 => ?_)
    have hf := bnd_all hf v11 ev11
    obtain ⟨g12, hf⟩ := gd_e hf
    obtain ⟨g12a, g12b, g12c, g12d, g12e⟩ := gcp_e g12
    refine sb_cpyJ hx hb (hml.trans hl.1.symm) hown (hts _ q374) (hts _ q375) (hts _ q376) (hts _ q377) hE.2.1.2.2.2.2.2 hK hP hD hS 7 9 rfl rfl g12a g12b g12c (by have := g12d; rw [← hrs, List.length_map] at this; exact this) g12e (fun i _ y hy => kp_hel hy) (Nat.le_of_ble_eq_true rfl) (Nat.le_of_ble_eq_true rfl) dX3_keep_87 (fun H locs hP hD hS => ?_)
    have hP : va_P (dC, dI) vwCl ((wTD cI cF cJ ot oh b ou od ow oa ob ok os T ++ ([kOut cJ ok rs] ++ ([(n2, .inl (cI, (Int32.toNatClampNeg v1), .inl (va_cpy (tDn T) (va_cpy (tUp T) (fun _ => 0) (Int32.toNatClampNeg 0) (Int32.toNatClampNeg 0) (Int32.toNatClampNeg (nI (tN T)))) (Int32.toNatClampNeg 0) (Int32.toNatClampNeg (nI (tN T))) (Int32.toNatClampNeg (nI (tN T))))))] ++ ([(n9, .inl (cJ, (Int32.toNatClampNeg v8), .inr (.inr (.inr (.inr (va_cpy (fun i => (rs[i]?).map Prod.fst) (fun _ => none) (Int32.toNatClampNeg 0) (Int32.toNatClampNeg 0) (Int32.toNatClampNeg v11)))))))])))) ++ (kRows cI lr rs)) H := hP
    have hD : va_D A ((wTD cI cF cJ ot oh b ou od ow oa ob ok os T ++ ([kOut cJ ok rs] ++ ([(n2, .inl (cI, (Int32.toNatClampNeg v1), .inl (va_cpy (tDn T) (va_cpy (tUp T) (fun _ => 0) (Int32.toNatClampNeg 0) (Int32.toNatClampNeg 0) (Int32.toNatClampNeg (nI (tN T)))) (Int32.toNatClampNeg 0) (Int32.toNatClampNeg (nI (tN T))) (Int32.toNatClampNeg (nI (tN T))))))] ++ ([(n9, .inl (cJ, (Int32.toNatClampNeg v8), .inr (.inr (.inr (.inr (va_cpy (fun i => (rs[i]?).map Prod.fst) (fun _ => none) (Int32.toNatClampNeg 0) (Int32.toNatClampNeg 0) (Int32.toNatClampNeg v11)))))))])))) ++ (kRows cI lr rs)) := hD
    refine lv_aload_n hx hb dX3_keep_90 rfl (lv_at hl 0 rfl) ?_
    refine lv_aload_n hx hb dX3_keep_91 rfl (lv_at hl 0 rfl) ?_
    refine va_alen (v := (nI (Int32.toNatClampNeg v8))) hx hb hK hP 9 2 rfl rfl rfl dX3_keep_92 ?_
    refine lv_iconst (v := 1) hx hb dX3_keep_93 (by decide) ?_
    refine lv_isub hx hb dX3_keep_94 ?_
    refine lv_topi (fun v13 ev13 => ?_)
    have hf := bnd_all hf v13 ev13
    refine lv_aload_n hx hb dX3_keep_95 rfl (lv_at hl 2 rfl) ?_
    obtain ⟨g14, hf⟩ := gd_e hf
    refine sb_astJ hx hb hE.2.1.2.2.2.2.2 hK hP hD hS 9 8 rfl rfl (gin_in g14) dX3_keep_96 (fun H locs hP hD hS => ?_)
    have hP : va_P (dC, dI) vwCl ((wTD cI cF cJ ot oh b ou od ow oa ob ok os T ++ ([kOut cJ ok rs] ++ ([(n2, .inl (cI, (Int32.toNatClampNeg v1), .inl (va_cpy (tDn T) (va_cpy (tUp T) (fun _ => 0) (Int32.toNatClampNeg 0) (Int32.toNatClampNeg 0) (Int32.toNatClampNeg (nI (tN T)))) (Int32.toNatClampNeg 0) (Int32.toNatClampNeg (nI (tN T))) (Int32.toNatClampNeg (nI (tN T))))))] ++ ([(n9, .inl (cJ, (Int32.toNatClampNeg v8), .inr (.inr (.inr (.inr (va_up (va_cpy (fun i => (rs[i]?).map Prod.fst) (fun _ => none) (Int32.toNatClampNeg 0) (Int32.toNatClampNeg 0) (Int32.toNatClampNeg v11)) (Int32.toNatClampNeg v13) (some n2)))))))])))) ++ (kRows cI lr rs)) H := hP
    have hD : va_D A ((wTD cI cF cJ ot oh b ou od ow oa ob ok os T ++ ([kOut cJ ok rs] ++ ([(n2, .inl (cI, (Int32.toNatClampNeg v1), .inl (va_cpy (tDn T) (va_cpy (tUp T) (fun _ => 0) (Int32.toNatClampNeg 0) (Int32.toNatClampNeg 0) (Int32.toNatClampNeg (nI (tN T)))) (Int32.toNatClampNeg 0) (Int32.toNatClampNeg (nI (tN T))) (Int32.toNatClampNeg (nI (tN T))))))] ++ ([(n9, .inl (cJ, (Int32.toNatClampNeg v8), .inr (.inr (.inr (.inr (va_up (va_cpy (fun i => (rs[i]?).map Prod.fst) (fun _ => none) (Int32.toNatClampNeg 0) (Int32.toNatClampNeg 0) (Int32.toNatClampNeg v11)) (Int32.toNatClampNeg v13) (some n2)))))))])))) ++ (kRows cI lr rs)) := hD
    refine lv_aload_n hx hb dX3_keep_97 rfl (lv_at hl 3 rfl) ?_
    refine lv_aload_n hx hb dX3_keep_98 rfl (lv_at hl 0 rfl) ?_
    refine va_put (D := (dC, dI)) (ci := 3) (v := .ref n9) (ty := (.array (.array .int))) (C := RX3) (T := TX3) (N := 12) hx hb hts iX3 tyX3 tyX3_ok nmX3 hown hK hP hD hS 0 rfl rfl 8 (by decide) (hts _ q330) (fun _ h9 => h9) rfl (by decide +kernel) rfl rfl (Nat.le_of_ble_eq_true rfl) dX3_keep_99 (fun H locs hP hD hS => ?_)
    have hP : va_P (dC, dI) vwCl ((wTD cI cF cJ ot oh b ou od ow oa ob n9 os T ++ ([kOut cJ ok rs] ++ ([(n2, .inl (cI, (Int32.toNatClampNeg v1), .inl (va_cpy (tDn T) (va_cpy (tUp T) (fun _ => 0) (Int32.toNatClampNeg 0) (Int32.toNatClampNeg 0) (Int32.toNatClampNeg (nI (tN T)))) (Int32.toNatClampNeg 0) (Int32.toNatClampNeg (nI (tN T))) (Int32.toNatClampNeg (nI (tN T))))))] ++ ([(n9, .inl (cJ, (Int32.toNatClampNeg v8), .inr (.inr (.inr (.inr (va_up (va_cpy (fun i => (rs[i]?).map Prod.fst) (fun _ => none) (Int32.toNatClampNeg 0) (Int32.toNatClampNeg 0) (Int32.toNatClampNeg v11)) (Int32.toNatClampNeg v13) (some n2)))))))])))) ++ (kRows cI lr rs)) H := hP
    have hD : va_D A ((wTD cI cF cJ ot oh b ou od ow oa ob n9 os T ++ ([kOut cJ ok rs] ++ ([(n2, .inl (cI, (Int32.toNatClampNeg v1), .inl (va_cpy (tDn T) (va_cpy (tUp T) (fun _ => 0) (Int32.toNatClampNeg 0) (Int32.toNatClampNeg 0) (Int32.toNatClampNeg (nI (tN T)))) (Int32.toNatClampNeg 0) (Int32.toNatClampNeg (nI (tN T))) (Int32.toNatClampNeg (nI (tN T))))))] ++ ([(n9, .inl (cJ, (Int32.toNatClampNeg v8), .inr (.inr (.inr (.inr (va_up (va_cpy (fun i => (rs[i]?).map Prod.fst) (fun _ => none) (Int32.toNatClampNeg 0) (Int32.toNatClampNeg 0) (Int32.toNatClampNeg v11)) (Int32.toNatClampNeg v13) (some n2)))))))])))) ++ (kRows cI lr rs)) := hD
    obtain ⟨g15, hf⟩ := gd_e hf
    obtain ⟨g16, hf⟩ := gd_e hf
    have hP : va_P (dC, dI) vwCl ((wTD cI cF cJ ot oh b ou od ow oa ob n9 os T ++ ([(n9, .inl (cJ, (Int32.toNatClampNeg v8), .inr (.inr (.inr (.inr (va_up (va_cpy (fun i => (rs[i]?).map Prod.fst) (fun _ => none) (Int32.toNatClampNeg 0) (Int32.toNatClampNeg 0) (Int32.toNatClampNeg v11)) (Int32.toNatClampNeg v13) (some n2))))))), (n2, .inl (cI, (Int32.toNatClampNeg v1), .inl (va_cpy (tDn T) (va_cpy (tUp T) (fun _ => 0) (Int32.toNatClampNeg 0) (Int32.toNatClampNeg 0) (Int32.toNatClampNeg (nI (tN T)))) (Int32.toNatClampNeg 0) (Int32.toNatClampNeg (nI (tN T))) (Int32.toNatClampNeg (nI (tN T))))))])) ++ (kRows cI lr rs)) H := va_P.part hP [0, 1, 2, 3, 4, 5, 6, 9, 8] rfl
    have hD : va_D A ((wTD cI cF cJ ot oh b ou od ow oa ob n9 os T ++ ([(n9, .inl (cJ, (Int32.toNatClampNeg v8), .inr (.inr (.inr (.inr (va_up (va_cpy (fun i => (rs[i]?).map Prod.fst) (fun _ => none) (Int32.toNatClampNeg 0) (Int32.toNatClampNeg 0) (Int32.toNatClampNeg v11)) (Int32.toNatClampNeg v13) (some n2))))))), (n2, .inl (cI, (Int32.toNatClampNeg v1), .inl (va_cpy (tDn T) (va_cpy (tUp T) (fun _ => 0) (Int32.toNatClampNeg 0) (Int32.toNatClampNeg 0) (Int32.toNatClampNeg (nI (tN T)))) (Int32.toNatClampNeg 0) (Int32.toNatClampNeg (nI (tN T))) (Int32.toNatClampNeg (nI (tN T))))))])) ++ (kRows cI lr rs)) := va_D.part hD [0, 1, 2, 3, 4, 5, 6, 9, 8] (by decide) rfl
    obtain ⟨m1, m2, m3⟩ := kp_n1 (gdec_e g16) ev7 ev8 ev11 ev13
    have hl9 : List.length K = List.length rs := by rw [← hrs, List.length_map]
    obtain ⟨hP, hD⟩ := kp_fin (X := wTD cI cF cJ ot oh b ou od ow oa ob n9 os T) hP hD (m1.trans (by rw [hl9])) (gdec_e g15) (fun j hj => by rw [c0, m2, m3]; exact kp_f1 hl9 j hj)
    obtain ⟨rs17, ers17⟩ : ∃ z, z = rs ++ [(n2, (va_cpy (tDn T) (va_cpy (tUp T) (fun _ => 0) (Int32.toNatClampNeg 0) (Int32.toNatClampNeg 0) (Int32.toNatClampNeg (nI (tN T)))) (Int32.toNatClampNeg 0) (Int32.toNatClampNeg (nI (tN T))) (Int32.toNatClampNeg (nI (tN T)))))] := ⟨_, rfl⟩
    rw [← ers17] at hP hD
    have hrs17 : rs17.map Prod.snd = K ++ [(va_cpy (tDn T) (va_cpy (tUp T) (fun _ => 0) (Int32.toNatClampNeg 0) (Int32.toNatClampNeg 0) (Int32.toNatClampNeg (nI (tN T)))) (Int32.toNatClampNeg 0) (Int32.toNatClampNeg (nI (tN T))) (Int32.toNatClampNeg (nI (tN T))))] := by rw [ers17, List.map_append, hrs]; rfl
    have hP : va_P (dC, dI) vwCl ((wTD cI cF cJ ot oh b ou od ow oa ob n9 os T ++ ([kOut cJ n9 rs17])) ++ (kRows cI lr rs17)) H := hP
    have hD : va_D A ((wTD cI cF cJ ot oh b ou od ow oa ob n9 os T ++ ([kOut cJ n9 rs17])) ++ (kRows cI lr rs17)) := hD
    obtain rfl := Option.some.inj hf
    exact W.vret hx hb hr (fun t ht hW => ⟨⟨(n9, rs17), rfl, hrs17, by rw [ht]; exact hP, hD⟩, hS.F ht⟩) hS.2.2 dX3_keep_102
  · have hf := ite_t hf c6
    cases hf
noncomputable def f_X3_back (lr : Nat) (T : TD) (Hb : HB) (F : FR) (K : KO) : Option (Int32 × TD × FR × KO) := if (nI (List.length K)) = 0 then (some (1, T, F, K)) else (gd (gdec (List.length K < 12)) <| olast K fun K0 kx => bnd ((nI (List.length K)) - 1) fun (v3 : Int32) => gd (gin v3 (List.length K)) <| gd (gcp 0 0 (nI (tN T)) lr (tN T)) <| gd (gcp (nI (tN T)) 0 (nI (tN T)) lr (tN T)) <| bnd ((nI (List.length K)) - 1) fun (v7 : Int32) => gd (glen v7 13) <| gd (gcp 0 0 (nI (Int32.toNatClampNeg v7)) (List.length K) (Int32.toNatClampNeg v7)) <| obd (f_X2_back Hb F (tNu T)) fun x11 => if x11.1 = (nI (List.length K0)) then (some (1, (stDn (stUp T (va_cpy kx (tUp T) (Int32.toNatClampNeg 0) (Int32.toNatClampNeg 0) (Int32.toNatClampNeg (nI (tN T))))) (va_cpy kx (tDn T) (Int32.toNatClampNeg (nI (tN T))) (Int32.toNatClampNeg 0) (Int32.toNatClampNeg (nI (tN T))))), x11.2, K0)) else (some (0, (stDn (stUp T (va_cpy kx (tUp T) (Int32.toNatClampNeg 0) (Int32.toNatClampNeg 0) (Int32.toNatClampNeg (nI (tN T))))) (va_cpy kx (tDn T) (Int32.toNatClampNeg (nI (tN T))) (Int32.toNatClampNeg 0) (Int32.toNatClampNeg (nI (tN T))))), x11.2, K0)))
theorem pc_X3_back : yX3_back.cls = RX3 ∧ yX3_back.cls ≠ "java/lang/invoke/MethodHandle" ∧ yX3_back.cls ≠ "java/lang/invoke/VarHandle" ∧ (parseMethodDescriptor yX3_back.desc).map (fun d => d.parameters.length) = some 0 := by decide +kernel
abbrev rm_X3_back : Room := { frames := 4, cells := 1, slots := 13, locals := 86 }
set_option maxHeartbeats 4000000 in
set_option maxRecDepth 100000 in
theorem c_X3_back (l : Launch) (dC : Nat → ClassId) (dI : Nat → Nat → Nat) (cI cF cJ cD : ClassId) (b L : Nat) (xs : Nat → Int32) (tA tB : Nat) (lr : Nat) (ot oh ou od ow oa ob ok os fa tr q0 q1 q2 q3 q4 q5 q6 q7 q8 : Nat) (rw : Nat → Option Nat) (rs : RS) (T : TD) (Hb : HB) (F : FR) (K : KO) (hq : f_X2_frameAt rw (tNu T) = some (some q0)) (hrs : rs.map Prod.snd = K) (res : (Int32 × TD × FR × KO)) (hf : f_X3_back lr T Hb F K = some res) (sz : Nat) : Met l yX3_back (ws_ yX3_back cX3_back 3 (some .boolean)) rm_X3_back (sbPre (dC, dI) (TY cI cF cJ cD) ((wTD cI cF cJ ot oh b ou od ow oa ob ok os T ++ (wHB cI cF cJ oh fa tr rw Hb ++ (wFR cI cF cJ q0 q1 q2 q3 q4 q5 q6 q7 q8 F ++ ([kOut cJ ok rs])))) ++ (kRows cI lr rs)) (fun sz U => EX b L xs tA tB (va_A ((wTD cI cF cJ ot oh b ou od ow oa ob ok os T ++ (wHB cI cF cJ oh fa tr rw Hb ++ (wFR cI cF cJ q0 q1 q2 q3 q4 q5 q6 q7 q8 F ++ ([kOut cJ ok rs])))) ++ (kRows cI lr rs)) sz) U) sz [.ref ot]) (va_Qi (fun (r : Int32) (u : Nat × RS) => r = res.1 ∧ u.2.map Prod.snd = res.2.2.2) (sbEnd (dC, dI) (fun (u : Nat × RS) => (wTD cI cF cJ ot oh b ou od ow oa ob u.1 os res.2.1 ++ (wHB cI cF cJ oh fa tr rw Hb ++ (wFR cI cF cJ q0 q1 q2 q3 q4 q5 q6 q7 q8 res.2.2.1 ++ ([kOut cJ u.1 u.2])))) ++ (kRows cI lr u.2)) (va_A ((wTD cI cF cJ ot oh b ou od ow oa ob ok os T ++ (wHB cI cF cJ oh fa tr rw Hb ++ (wFR cI cF cJ q0 q1 q2 q3 q4 q5 q6 q7 q8 F ++ ([kOut cJ ok rs])))) ++ (kRows cI lr rs)) sz)) (va_A ((wTD cI cF cJ ot oh b ou od ow oa ob ok os T ++ (wHB cI cF cJ oh fa tr rw Hb ++ (wFR cI cF cJ q0 q1 q2 q3 q4 q5 q6 q7 q8 F ++ ([kOut cJ ok rs])))) ++ (kRows cI lr rs)) sz)) 1 13 (va_A ((wTD cI cF cJ ot oh b ou od ow oa ob ok os T ++ (wHB cI cF cJ oh fa tr rw Hb ++ (wFR cI cF cJ q0 q1 q2 q3 q4 q5 q6 q7 q8 F ++ ([kOut cJ ok rs])))) ++ (kRows cI lr rs)) sz) := by
  refine Met.ofW (cc := cX3_back) (maxL := 3) (ret := (some .boolean)) (by decide) rfl ?_
  intro p e s m args below meth c s₁ B hml hv
  obtain ⟨rfl, hsz, hP, hK, hD0, hE⟩ := hv
  have hx := B.exec
  have hb := B.bytes
  have hr := B.returns
  have hts0 := atoms_spec (ws := ws_ yX3_back cX3_back 3 (some .boolean)) B.pre
  have hts := fun (w : Cond) (h : w ∈ LW) => hts0 w (List.mem_cons_of_mem _ h)
  have hown : s.vm.findClass RX3 = some m.cls := findClass_of_methodNamed B.named
  have hlocks := B.notSynchronized
  subst hsz
  have hD := hD0.self (sz := s.heap.size)
  have hE : EX b L xs tA tB (va_A ((wTD cI cF cJ ot oh b ou od ow oa ob ok os T ++ (wHB cI cF cJ oh fa tr rw Hb ++ (wFR cI cF cJ q0 q1 q2 q3 q4 q5 q6 q7 q8 F ++ ([kOut cJ ok rs])))) ++ (kRows cI lr rs)) s.heap.size) s := hE
  generalize hAe : va_A ((wTD cI cF cJ ot oh b ou od ow oa ob ok os T ++ (wHB cI cF cJ oh fa tr rw Hb ++ (wFR cI cF cJ q0 q1 q2 q3 q4 q5 q6 q7 q8 F ++ ([kOut cJ ok rs])))) ++ (kRows cI lr rs)) s.heap.size = A at hD hE ⊢
  have hA : ∀ q : Nat, s.heap.size ≤ q → A q := fun q h => by rw [← hAe]; exact Or.inr h
  have hS : va_S A s.heap s.heap [] := va_S.rf
  have hkc := Nat.zero_le rm_X3_back.cells
  have hks := Nat.zero_le rm_X3_back.slots
  have hl := lv_entry ([.ref ot]) (n := 3) (Nat.le_of_ble_eq_true rfl)
  rw [lg_entry_eq]
  generalize (lg_sl ([.ref ot]) ++ List.replicate (3 - (lg_sl ([.ref ot])).length) Slot.unset).toArray = ls at hl ⊢
  have hl : lv_has ls 3 [(0, .ref ot)] := hl
  rw [f_X3_back] at hf
  refine lv_aload_n hx hb dX3_back_0 rfl (lv_at hl 0 rfl) ?_
  refine va_get (D := (dC, dI)) (ci := 3) (v := .ref ok) (C := RX3) (T := TX3) (N := 12) hx hb hts iX3 hown hK hP 0 rfl rfl 8 (by decide) (hts _ q330) (fun _ h9 => h9) rfl dX3_back_1 ?_
  refine va_alen (v := nI (List.length rs)) hx hb hK hP 18 2 rfl rfl rfl dX3_back_4 ?_
  refine sb_topv (v' := .int (nI (List.length K))) (by rw [← hrs, List.length_map]) ?_
  refine lv_if_ne (tgt := 10) hx hb dX3_back_5 (by decide) (fun c1 => ?_) (fun c1 => ?_)
  · have hf := ite_f hf c1
    obtain ⟨g2, hf⟩ := gd_e hf
    obtain ⟨K0, kx, eK, hf⟩ := olast_e hf
    obtain ⟨rs0, ra, ers, hrs0⟩ := rs_last (hrs.trans eK)
    subst ers
    have hrsx := hrs
    have hk9 : List.length K = List.length rs0 + 1 := by rw [← hrsx]; simp
    have h12 := gdec_e g2
    obtain ⟨hP, hD⟩ := kp_split hP hD
    have hP : va_P (dC, dI) vwCl ((wTD cI cF cJ ot oh b ou od ow oa ob ok os T ++ (wHB cI cF cJ oh fa tr rw Hb ++ (wFR cI cF cJ q0 q1 q2 q3 q4 q5 q6 q7 q8 F ++ ([kOut cJ ok (rs0 ++ [(ra, kx)])] ++ ([(ra, .inl (cI, lr, .inl kx))]))))) ++ (kRows cI lr rs0)) _ := hP
    have hD : va_D A ((wTD cI cF cJ ot oh b ou od ow oa ob ok os T ++ (wHB cI cF cJ oh fa tr rw Hb ++ (wFR cI cF cJ q0 q1 q2 q3 q4 q5 q6 q7 q8 F ++ ([kOut cJ ok (rs0 ++ [(ra, kx)])] ++ ([(ra, .inl (cI, lr, .inl kx))]))))) ++ (kRows cI lr rs0)) := hD
    refine lv_aload_n hx hb dX3_back_10 rfl (lv_at hl 0 rfl) ?_
    refine va_get (D := (dC, dI)) (ci := 3) (v := .ref ok) (C := RX3) (T := TX3) (N := 12) hx hb hts iX3 hown hK hP 0 rfl rfl 8 (by decide) (hts _ q330) (fun _ h9 => h9) rfl dX3_back_11 ?_
    refine lv_aload_n hx hb dX3_back_14 rfl (lv_at hl 0 rfl) ?_
    refine va_get (D := (dC, dI)) (ci := 3) (v := .ref ok) (C := RX3) (T := TX3) (N := 12) hx hb hts iX3 hown hK hP 0 rfl rfl 8 (by decide) (hts _ q330) (fun _ h9 => h9) rfl dX3_back_15 ?_
    refine va_alen (v := nI (List.length (rs0 ++ [(ra, kx)]))) hx hb hK hP 18 2 rfl rfl rfl dX3_back_18 ?_
    refine sb_topv (v' := .int (nI (List.length K))) (by rw [← hrsx, List.length_map]) ?_
    refine lv_iconst (v := 1) hx hb dX3_back_19 (by decide) ?_
    refine lv_isub hx hb dX3_back_20 ?_
    refine lv_topi (fun v3 ev3 => ?_)
    have hf := bnd_all hf v3 ev3
    obtain ⟨g4, hf⟩ := gd_e hf
    refine sb_aldJ hx hb hK hP 18 2 rfl rfl (by have := gin_in g4; rw [← hrsx, List.length_map] at this; exact this) dX3_back_21 ?_
    refine sb_topv (v' := .ref ra) (congrArg va_rf (kp_last hk9 h12 ev3)) ?_
    refine lv_astore_n (lv' := [(1, .ref ra), (0, .ref ot)]) hx hb dX3_back_22 rfl hl (by decide) rfl (fun ls hl => ?_)
    refine lv_aload_n hx hb dX3_back_23 rfl (lv_at hl 0 rfl) ?_
    refine lv_iconst (v := 0) hx hb dX3_back_24 (by decide) ?_
    refine lv_aload_n hx hb dX3_back_25 rfl (lv_at hl 1 rfl) ?_
    refine va_get (D := (dC, dI)) (ci := 3) (v := .ref ou) (C := RX3) (T := TX3) (N := 12) hx hb hts iX3 hown hK hP 0 rfl rfl 5 (by decide) (hts _ q345) (fun _ h9 => h9) rfl dX3_back_26 ?_
    refine lv_iconst (v := 0) hx hb dX3_back_29 (by decide) ?_
    refine lv_aload_n hx hb dX3_back_30 rfl (lv_at hl 1 rfl) ?_
    refine va_get (D := (dC, dI)) (ci := 3) (v := .ref ou) (C := RX3) (T := TX3) (N := 12) hx hb hts iX3 hown hK hP 0 rfl rfl 5 (by decide) (hts _ q345) (fun _ h9 => h9) rfl dX3_back_31 ?_
    refine va_alen (v := (nI (tN T))) hx hb hK hP 1 0 rfl rfl rfl dX3_back_34 ?_
    obtain ⟨g5, hf⟩ := gd_e hf
    obtain ⟨g5a, g5b, g5c, g5d, g5e⟩ := gcp_e g5
    refine va_copyi hx hb (hml.trans hl.1.symm) hown (hts _ q374) (hts _ q375) (hts _ q376) (hts _ q377) hK hP hD hS 19 1 0 0 rfl rfl rfl rfl rfl g5a g5b g5c g5d g5e (fun _ _ => rfl) (Nat.le_of_ble_eq_true rfl) (Nat.le_of_ble_eq_true rfl) dX3_back_35 (fun H locs hP hD hS => ?_)
    have hP : va_P (dC, dI) vwCl ((wTD cI cF cJ ot oh b ou od ow oa ob ok os (stUp T (va_cpy kx (tUp T) (Int32.toNatClampNeg 0) (Int32.toNatClampNeg 0) (Int32.toNatClampNeg (nI (tN T))))) ++ (wHB cI cF cJ oh fa tr rw Hb ++ (wFR cI cF cJ q0 q1 q2 q3 q4 q5 q6 q7 q8 F ++ ([kOut cJ ok (rs0 ++ [(ra, kx)])] ++ ([(ra, .inl (cI, lr, .inl kx))]))))) ++ (kRows cI lr rs0)) H := hP
    have hD : va_D A ((wTD cI cF cJ ot oh b ou od ow oa ob ok os (stUp T (va_cpy kx (tUp T) (Int32.toNatClampNeg 0) (Int32.toNatClampNeg 0) (Int32.toNatClampNeg (nI (tN T))))) ++ (wHB cI cF cJ oh fa tr rw Hb ++ (wFR cI cF cJ q0 q1 q2 q3 q4 q5 q6 q7 q8 F ++ ([kOut cJ ok (rs0 ++ [(ra, kx)])] ++ ([(ra, .inl (cI, lr, .inl kx))]))))) ++ (kRows cI lr rs0)) := hD
    refine lv_aload_n hx hb dX3_back_38 rfl (lv_at hl 0 rfl) ?_
    refine lv_aload_n hx hb dX3_back_39 rfl (lv_at hl 1 rfl) ?_
    refine va_get (D := (dC, dI)) (ci := 3) (v := .ref ou) (C := RX3) (T := TX3) (N := 12) hx hb hts iX3 hown hK hP 0 rfl rfl 5 (by decide) (hts _ q345) (fun _ h9 => h9) rfl dX3_back_40 ?_
    refine va_alen (v := (nI (tN T))) hx hb hK hP 1 0 rfl rfl rfl dX3_back_43 ?_
    refine lv_aload_n hx hb dX3_back_44 rfl (lv_at hl 1 rfl) ?_
    refine va_get (D := (dC, dI)) (ci := 3) (v := .ref od) (C := RX3) (T := TX3) (N := 12) hx hb hts iX3 hown hK hP 0 rfl rfl 6 (by decide) (hts _ q346) (fun _ h9 => h9) rfl dX3_back_45 ?_
    refine lv_iconst (v := 0) hx hb dX3_back_48 (by decide) ?_
    refine lv_aload_n hx hb dX3_back_49 rfl (lv_at hl 1 rfl) ?_
    refine va_get (D := (dC, dI)) (ci := 3) (v := .ref ou) (C := RX3) (T := TX3) (N := 12) hx hb hts iX3 hown hK hP 0 rfl rfl 5 (by decide) (hts _ q345) (fun _ h9 => h9) rfl dX3_back_50 ?_
    refine va_alen (v := (nI (tN T))) hx hb hK hP 1 0 rfl rfl rfl dX3_back_53 ?_
    obtain ⟨g6, hf⟩ := gd_e hf
    obtain ⟨g6a, g6b, g6c, g6d, g6e⟩ := gcp_e g6
    refine va_copyi hx hb (hml.trans hl.1.symm) hown (hts _ q374) (hts _ q375) (hts _ q376) (hts _ q377) hK hP hD hS 19 2 0 0 rfl rfl rfl rfl rfl g6a g6b g6c g6d g6e (fun _ _ => rfl) (Nat.le_of_ble_eq_true rfl) (Nat.le_of_ble_eq_true rfl) dX3_back_54 (fun H locs hP hD hS => ?_)
    have hP : va_P (dC, dI) vwCl ((wTD cI cF cJ ot oh b ou od ow oa ob ok os (stDn (stUp T (va_cpy kx (tUp T) (Int32.toNatClampNeg 0) (Int32.toNatClampNeg 0) (Int32.toNatClampNeg (nI (tN T))))) (va_cpy kx (tDn T) (Int32.toNatClampNeg (nI (tN T))) (Int32.toNatClampNeg 0) (Int32.toNatClampNeg (nI (tN T))))) ++ (wHB cI cF cJ oh fa tr rw Hb ++ (wFR cI cF cJ q0 q1 q2 q3 q4 q5 q6 q7 q8 F ++ ([kOut cJ ok (rs0 ++ [(ra, kx)])] ++ ([(ra, .inl (cI, lr, .inl kx))]))))) ++ (kRows cI lr rs0)) H := hP
    have hD : va_D A ((wTD cI cF cJ ot oh b ou od ow oa ob ok os (stDn (stUp T (va_cpy kx (tUp T) (Int32.toNatClampNeg 0) (Int32.toNatClampNeg 0) (Int32.toNatClampNeg (nI (tN T))))) (va_cpy kx (tDn T) (Int32.toNatClampNeg (nI (tN T))) (Int32.toNatClampNeg 0) (Int32.toNatClampNeg (nI (tN T))))) ++ (wHB cI cF cJ oh fa tr rw Hb ++ (wFR cI cF cJ q0 q1 q2 q3 q4 q5 q6 q7 q8 F ++ ([kOut cJ ok (rs0 ++ [(ra, kx)])] ++ ([(ra, .inl (cI, lr, .inl kx))]))))) ++ (kRows cI lr rs0)) := hD
    refine lv_aload_n hx hb dX3_back_57 rfl (lv_at hl 1 rfl) ?_
    refine va_get (D := (dC, dI)) (ci := 3) (v := .ref ok) (C := RX3) (T := TX3) (N := 12) hx hb hts iX3 hown hK hP 0 rfl rfl 8 (by decide) (hts _ q330) (fun _ h9 => h9) rfl dX3_back_58 ?_
    refine va_alen (v := nI (List.length (rs0 ++ [(ra, kx)]))) hx hb hK hP 18 2 rfl rfl rfl dX3_back_61 ?_
    refine sb_topv (v' := .int (nI (List.length K))) (by rw [← hrsx, List.length_map]) ?_
    refine lv_iconst (v := 1) hx hb dX3_back_62 (by decide) ?_
    refine lv_isub hx hb dX3_back_63 ?_
    refine lv_topi (fun v7 ev7 => ?_)
    have hf := bnd_all hf v7 ev7
    obtain ⟨g9, hf⟩ := gd_e hf
    refine sb_newJ hx hb hown (hts _ q329) hE.2.1.2.2.2.2.2 hK hP hD hS hA (glen_0 g9) rfl (glen_b g9 (by decide)) (Nat.le_of_ble_eq_true rfl) (glen_s g9 (Nat.le_of_ble_eq_true rfl)) dX3_back_64 (fun n8 H hP hD hS => ?_)
    refine W.widen (k := 1) (n := 13) (Nat.le_refl _) (glen_w g9) ?_
    have hP := hP.swap
    have hD := hD.swap
    have hP : va_P (dC, dI) vwCl ((wTD cI cF cJ ot oh b ou od ow oa ob ok os (stDn (stUp T (va_cpy kx (tUp T) (Int32.toNatClampNeg 0) (Int32.toNatClampNeg 0) (Int32.toNatClampNeg (nI (tN T))))) (va_cpy kx (tDn T) (Int32.toNatClampNeg (nI (tN T))) (Int32.toNatClampNeg 0) (Int32.toNatClampNeg (nI (tN T))))) ++ (wHB cI cF cJ oh fa tr rw Hb ++ (wFR cI cF cJ q0 q1 q2 q3 q4 q5 q6 q7 q8 F ++ ([kOut cJ ok (rs0 ++ [(ra, kx)])] ++ ([(ra, .inl (cI, lr, .inl kx))] ++ ([(n8, .inl (cJ, (Int32.toNatClampNeg v7), .inr (.inr (.inr (.inr (fun _ => none))))))])))))) ++ (kRows cI lr rs0)) H := hP
    have hD : va_D A ((wTD cI cF cJ ot oh b ou od ow oa ob ok os (stDn (stUp T (va_cpy kx (tUp T) (Int32.toNatClampNeg 0) (Int32.toNatClampNeg 0) (Int32.toNatClampNeg (nI (tN T))))) (va_cpy kx (tDn T) (Int32.toNatClampNeg (nI (tN T))) (Int32.toNatClampNeg 0) (Int32.toNatClampNeg (nI (tN T))))) ++ (wHB cI cF cJ oh fa tr rw Hb ++ (wFR cI cF cJ q0 q1 q2 q3 q4 q5 q6 q7 q8 F ++ ([kOut cJ ok (rs0 ++ [(ra, kx)])] ++ ([(ra, .inl (cI, lr, .inl kx))] ++ ([(n8, .inl (cJ, (Int32.toNatClampNeg v7), .inr (.inr (.inr (.inr (fun _ => none))))))])))))) ++ (kRows cI lr rs0)) := hD
    refine lv_astore_n (lv' := [(2, .ref n8), (1, .ref ra), (0, .ref ot)]) hx hb dX3_back_67 rfl hl (by decide) rfl (fun ls hl => ?_)
    refine lv_aload_n hx hb dX3_back_68 rfl (lv_at hl 2 rfl) ?_
    refine va_get (D := (dC, dI)) (ci := 3) (v := .ref ok) (C := RX3) (T := TX3) (N := 12) hx hb hts iX3 hown hK hP 0 rfl rfl 8 (by decide) (hts _ q330) (fun _ h9 => h9) rfl dX3_back_69 ?_
    refine lv_iconst (v := 0) hx hb dX3_back_72 (by decide) ?_
    refine lv_aload_n hx hb dX3_back_73 rfl (lv_at hl 0 rfl) ?_
    refine lv_iconst (v := 0) hx hb dX3_back_74 (by decide) ?_
    refine lv_aload_n hx hb dX3_back_75 rfl (lv_at hl 0 rfl) ?_
    refine va_alen (v := (nI (Int32.toNatClampNeg v7))) hx hb hK hP 20 2 rfl rfl rfl dX3_back_76 ?_
    obtain ⟨g10, hf⟩ := gd_e hf
    obtain ⟨g10a, g10b, g10c, g10d, g10e⟩ := gcp_e g10
    refine sb_cpyJ hx hb (hml.trans hl.1.symm) hown (hts _ q374) (hts _ q375) (hts _ q376) (hts _ q377) hE.2.1.2.2.2.2.2 hK hP hD hS 18 20 rfl rfl g10a g10b g10c (by have := g10d; rw [← hrsx, List.length_map] at this; exact this) g10e (fun i hi y hy => kp_hel2 (by have := (kp_n2 hk9 h12 ev7).2; rw [c0]; omega) hy) (Nat.le_of_ble_eq_true rfl) (Nat.le_of_ble_eq_true rfl) dX3_back_77 (fun H locs hP hD hS => ?_)
    have hP : va_P (dC, dI) vwCl ((wTD cI cF cJ ot oh b ou od ow oa ob ok os (stDn (stUp T (va_cpy kx (tUp T) (Int32.toNatClampNeg 0) (Int32.toNatClampNeg 0) (Int32.toNatClampNeg (nI (tN T))))) (va_cpy kx (tDn T) (Int32.toNatClampNeg (nI (tN T))) (Int32.toNatClampNeg 0) (Int32.toNatClampNeg (nI (tN T))))) ++ (wHB cI cF cJ oh fa tr rw Hb ++ (wFR cI cF cJ q0 q1 q2 q3 q4 q5 q6 q7 q8 F ++ ([kOut cJ ok (rs0 ++ [(ra, kx)])] ++ ([(ra, .inl (cI, lr, .inl kx))] ++ ([(n8, .inl (cJ, (Int32.toNatClampNeg v7), .inr (.inr (.inr (.inr (va_cpy (fun i => ((rs0 ++ [(ra, kx)])[i]?).map Prod.fst) (fun _ => none) (Int32.toNatClampNeg 0) (Int32.toNatClampNeg 0) (Int32.toNatClampNeg (nI (Int32.toNatClampNeg v7)))))))))])))))) ++ (kRows cI lr rs0)) H := hP
    have hD : va_D A ((wTD cI cF cJ ot oh b ou od ow oa ob ok os (stDn (stUp T (va_cpy kx (tUp T) (Int32.toNatClampNeg 0) (Int32.toNatClampNeg 0) (Int32.toNatClampNeg (nI (tN T))))) (va_cpy kx (tDn T) (Int32.toNatClampNeg (nI (tN T))) (Int32.toNatClampNeg 0) (Int32.toNatClampNeg (nI (tN T))))) ++ (wHB cI cF cJ oh fa tr rw Hb ++ (wFR cI cF cJ q0 q1 q2 q3 q4 q5 q6 q7 q8 F ++ ([kOut cJ ok (rs0 ++ [(ra, kx)])] ++ ([(ra, .inl (cI, lr, .inl kx))] ++ ([(n8, .inl (cJ, (Int32.toNatClampNeg v7), .inr (.inr (.inr (.inr (va_cpy (fun i => ((rs0 ++ [(ra, kx)])[i]?).map Prod.fst) (fun _ => none) (Int32.toNatClampNeg 0) (Int32.toNatClampNeg 0) (Int32.toNatClampNeg (nI (Int32.toNatClampNeg v7)))))))))])))))) ++ (kRows cI lr rs0)) := hD
    refine lv_aload_n hx hb dX3_back_80 rfl (lv_at hl 2 rfl) ?_
    refine lv_aload_n hx hb dX3_back_81 rfl (lv_at hl 0 rfl) ?_
    refine va_put (D := (dC, dI)) (ci := 3) (v := .ref n8) (ty := (.array (.array .int))) (C := RX3) (T := TX3) (N := 12) hx hb hts iX3 tyX3 tyX3_ok nmX3 hown hK hP hD hS 0 rfl rfl 8 (by decide) (hts _ q330) (fun _ h9 => h9) rfl (by decide +kernel) rfl rfl (Nat.le_of_ble_eq_true rfl) dX3_back_82 (fun H locs hP hD hS => ?_)
    have hP : va_P (dC, dI) vwCl ((wTD cI cF cJ ot oh b ou od ow oa ob n8 os (stDn (stUp T (va_cpy kx (tUp T) (Int32.toNatClampNeg 0) (Int32.toNatClampNeg 0) (Int32.toNatClampNeg (nI (tN T))))) (va_cpy kx (tDn T) (Int32.toNatClampNeg (nI (tN T))) (Int32.toNatClampNeg 0) (Int32.toNatClampNeg (nI (tN T))))) ++ (wHB cI cF cJ oh fa tr rw Hb ++ (wFR cI cF cJ q0 q1 q2 q3 q4 q5 q6 q7 q8 F ++ ([kOut cJ ok (rs0 ++ [(ra, kx)])] ++ ([(ra, .inl (cI, lr, .inl kx))] ++ ([(n8, .inl (cJ, (Int32.toNatClampNeg v7), .inr (.inr (.inr (.inr (va_cpy (fun i => ((rs0 ++ [(ra, kx)])[i]?).map Prod.fst) (fun _ => none) (Int32.toNatClampNeg 0) (Int32.toNatClampNeg 0) (Int32.toNatClampNeg (nI (Int32.toNatClampNeg v7)))))))))])))))) ++ (kRows cI lr rs0)) H := hP
    have hD : va_D A ((wTD cI cF cJ ot oh b ou od ow oa ob n8 os (stDn (stUp T (va_cpy kx (tUp T) (Int32.toNatClampNeg 0) (Int32.toNatClampNeg 0) (Int32.toNatClampNeg (nI (tN T))))) (va_cpy kx (tDn T) (Int32.toNatClampNeg (nI (tN T))) (Int32.toNatClampNeg 0) (Int32.toNatClampNeg (nI (tN T))))) ++ (wHB cI cF cJ oh fa tr rw Hb ++ (wFR cI cF cJ q0 q1 q2 q3 q4 q5 q6 q7 q8 F ++ ([kOut cJ ok (rs0 ++ [(ra, kx)])] ++ ([(ra, .inl (cI, lr, .inl kx))] ++ ([(n8, .inl (cJ, (Int32.toNatClampNeg v7), .inr (.inr (.inr (.inr (va_cpy (fun i => ((rs0 ++ [(ra, kx)])[i]?).map Prod.fst) (fun _ => none) (Int32.toNatClampNeg 0) (Int32.toNatClampNeg 0) (Int32.toNatClampNeg (nI (Int32.toNatClampNeg v7)))))))))])))))) ++ (kRows cI lr rs0)) := hD
    have hP : va_P (dC, dI) vwCl ((wTD cI cF cJ ot oh b ou od ow oa ob n8 os (stDn (stUp T (va_cpy kx (tUp T) (Int32.toNatClampNeg 0) (Int32.toNatClampNeg 0) (Int32.toNatClampNeg (nI (tN T))))) (va_cpy kx (tDn T) (Int32.toNatClampNeg (nI (tN T))) (Int32.toNatClampNeg 0) (Int32.toNatClampNeg (nI (tN T))))) ++ (wHB cI cF cJ oh fa tr rw Hb ++ (wFR cI cF cJ q0 q1 q2 q3 q4 q5 q6 q7 q8 F ++ ([(n8, .inl (cJ, (Int32.toNatClampNeg v7), .inr (.inr (.inr (.inr (va_cpy (fun i => ((rs0 ++ [(ra, kx)])[i]?).map Prod.fst) (fun _ => none) (Int32.toNatClampNeg 0) (Int32.toNatClampNeg 0) (Int32.toNatClampNeg (nI (Int32.toNatClampNeg v7)))))))))])))) ++ (kRows cI lr rs0)) H := va_P.part hP [0, 1, 2, 3, 4, 5, 6, 7, 8, 9, 10, 11, 12, 13, 14, 15, 16, 17, 20] rfl
    have hD : va_D A ((wTD cI cF cJ ot oh b ou od ow oa ob n8 os (stDn (stUp T (va_cpy kx (tUp T) (Int32.toNatClampNeg 0) (Int32.toNatClampNeg 0) (Int32.toNatClampNeg (nI (tN T))))) (va_cpy kx (tDn T) (Int32.toNatClampNeg (nI (tN T))) (Int32.toNatClampNeg 0) (Int32.toNatClampNeg (nI (tN T))))) ++ (wHB cI cF cJ oh fa tr rw Hb ++ (wFR cI cF cJ q0 q1 q2 q3 q4 q5 q6 q7 q8 F ++ ([(n8, .inl (cJ, (Int32.toNatClampNeg v7), .inr (.inr (.inr (.inr (va_cpy (fun i => ((rs0 ++ [(ra, kx)])[i]?).map Prod.fst) (fun _ => none) (Int32.toNatClampNeg 0) (Int32.toNatClampNeg 0) (Int32.toNatClampNeg (nI (Int32.toNatClampNeg v7)))))))))])))) ++ (kRows cI lr rs0)) := va_D.part hD [0, 1, 2, 3, 4, 5, 6, 7, 8, 9, 10, 11, 12, 13, 14, 15, 16, 17, 20] (by decide) rfl
    obtain ⟨m1, m2⟩ := kp_n2 hk9 h12 ev7
    have hP := kp_back (D := (dC, dI)) (cl := vwCl) (H := H) (cI := cI) (cJ := cJ) (lr := lr) (rs := rs0) (q := n8) (X := wTD cI cF cJ ot oh b ou od ow oa ob n8 os (stDn (stUp T (va_cpy kx (tUp T) (Int32.toNatClampNeg 0) (Int32.toNatClampNeg 0) (Int32.toNatClampNeg (nI (tN T))))) (va_cpy kx (tDn T) (Int32.toNatClampNeg (nI (tN T))) (Int32.toNatClampNeg 0) (Int32.toNatClampNeg (nI (tN T))))) ++ (wHB cI cF cJ oh fa tr rw Hb ++ (wFR cI cF cJ q0 q1 q2 q3 q4 q5 q6 q7 q8 F))) (Y := []) hP m1 (fun j hj => by rw [c0, m2]; exact kp_f2 rfl j hj)
    have hP : va_P (dC, dI) vwCl ((wTD cI cF cJ ot oh b ou od ow oa ob n8 os (stDn (stUp T (va_cpy kx (tUp T) (Int32.toNatClampNeg 0) (Int32.toNatClampNeg 0) (Int32.toNatClampNeg (nI (tN T))))) (va_cpy kx (tDn T) (Int32.toNatClampNeg (nI (tN T))) (Int32.toNatClampNeg 0) (Int32.toNatClampNeg (nI (tN T))))) ++ (wHB cI cF cJ oh fa tr rw Hb ++ (wFR cI cF cJ q0 q1 q2 q3 q4 q5 q6 q7 q8 F ++ ([kOut cJ n8 rs0])))) ++ (kRows cI lr rs0)) H := hP
    have hD : va_D A ((wTD cI cF cJ ot oh b ou od ow oa ob n8 os (stDn (stUp T (va_cpy kx (tUp T) (Int32.toNatClampNeg 0) (Int32.toNatClampNeg 0) (Int32.toNatClampNeg (nI (tN T))))) (va_cpy kx (tDn T) (Int32.toNatClampNeg (nI (tN T))) (Int32.toNatClampNeg 0) (Int32.toNatClampNeg (nI (tN T))))) ++ (wHB cI cF cJ oh fa tr rw Hb ++ (wFR cI cF cJ q0 q1 q2 q3 q4 q5 q6 q7 q8 F ++ ([kOut cJ n8 rs0])))) ++ (kRows cI lr rs0)) := va_D_perm hD (List.Perm.refl _)
    refine lv_aload_n hx hb dX3_back_85 rfl (lv_at hl 2 rfl) ?_
    refine va_get (D := (dC, dI)) (ci := 3) (v := .ref oh) (C := RX3) (T := TX3) (N := 12) hx hb hts iX3 hown hK hP 0 rfl rfl 0 (by decide) (hts _ q332) (fun _ h9 => h9) rfl dX3_back_86 ?_
    refine lv_aload_n hx hb dX3_back_89 rfl (lv_at hl 2 rfl) ?_
    refine va_get (D := (dC, dI)) (ci := 3) (v := .int (tNu T)) (C := RX3) (T := TX3) (N := 12) hx hb hts iX3 hown hK hP 0 rfl rfl 3 (by decide) (hts _ q343) (fun _ h9 => h9) rfl dX3_back_90 ?_
    obtain ⟨x11, hx11, hf⟩ := obd_e hf
    refine sbT_Vi (As := [.int (tNu T)]) (rest := []) ⟨hx, hb, hml, hown, hts⟩ (fun sz => c_X2_back l dC dI cI cF cJ cD oh fa tr q0 q1 q2 q3 q4 q5 q6 q7 q8 rw Hb F (tNu T) hq x11 hx11 sz) (cwV 1 hts (g_V q461 q462 q463 q172 q247) rfl rfl rfl pc_X2_back ⟨Nat.le_of_ble_eq_true rfl, Nat.le_of_ble_eq_true rfl⟩) 0 2 rfl rfl hK hP hD hS hA [7, 8, 9, 10, 11, 12, 13, 14, 15, 16, 17] [0, 1, 2, 3, 4, 5, 6, 18] rfl rfl (by decide) (by decide) (by decide) (fun _ _ _ _ h => h) (fun _ _ _ => trivial) rfl rfl hl.1 (Nat.le_of_ble_eq_true rfl) dX3_back_93 ⟨Nat.le_of_ble_eq_true rfl, Nat.le_of_ble_eq_true rfl⟩ (fun r9 u H locs hr9 hP hD hS => ?_)
    have hr9 := Eq.symm hr9
    subst hr9
    have hP : va_P (dC, dI) vwCl ((wTD cI cF cJ ot oh b ou od ow oa ob n8 os (stDn (stUp T (va_cpy kx (tUp T) (Int32.toNatClampNeg 0) (Int32.toNatClampNeg 0) (Int32.toNatClampNeg (nI (tN T))))) (va_cpy kx (tDn T) (Int32.toNatClampNeg (nI (tN T))) (Int32.toNatClampNeg 0) (Int32.toNatClampNeg (nI (tN T))))) ++ (wHB cI cF cJ oh fa tr rw Hb ++ (wFR cI cF cJ q0 q1 q2 q3 q4 q5 q6 q7 q8 x11.2 ++ ([kOut cJ n8 rs0])))) ++ (kRows cI lr rs0)) H := va_P.part hP [0, 1, 2, 3, 4, 5, 6, 8, 9, 10, 11, 12, 13, 14, 15, 16, 17, 18, 7] rfl
    have hD : va_D A ((wTD cI cF cJ ot oh b ou od ow oa ob n8 os (stDn (stUp T (va_cpy kx (tUp T) (Int32.toNatClampNeg 0) (Int32.toNatClampNeg 0) (Int32.toNatClampNeg (nI (tN T))))) (va_cpy kx (tDn T) (Int32.toNatClampNeg (nI (tN T))) (Int32.toNatClampNeg 0) (Int32.toNatClampNeg (nI (tN T))))) ++ (wHB cI cF cJ oh fa tr rw Hb ++ (wFR cI cF cJ q0 q1 q2 q3 q4 q5 q6 q7 q8 x11.2 ++ ([kOut cJ n8 rs0])))) ++ (kRows cI lr rs0)) := va_D.part hD [0, 1, 2, 3, 4, 5, 6, 8, 9, 10, 11, 12, 13, 14, 15, 16, 17, 18, 7] (by decide) rfl
    refine lv_aload_n hx hb dX3_back_96 rfl (lv_at hl 0 rfl) ?_
    refine va_alen (v := nI (List.length rs0)) hx hb hK hP 18 2 rfl rfl rfl dX3_back_97 ?_
    refine sb_topv (v' := .int (nI (List.length K0))) (by rw [← hrs0, List.length_map]) ?_
    refine lv_icmp_ne (tgt := 105) hx hb dX3_back_98 (by decide) (fun c12 => ?_) (fun c12 => ?_)
    · have hf := ite_f hf c12
      refine lv_iconst (v := 0) hx hb dX3_back_105 (by decide) ?_
      obtain rfl := Option.some.inj hf
      exact W.zret (v := 0) hx hb hr (by rfl) (fun t ht hW => ⟨⟨_, (n8, rs0), rfl, ⟨rfl, hrs0⟩, by rw [ht]; exact hP, hD⟩, hS.F ht⟩) hS.2.2 dX3_back_106
    · have hf := ite_t hf c12
      refine lv_iconst (v := 1) hx hb dX3_back_101 (by decide) ?_
      refine lv_goto (tgt := 106) hx hb dX3_back_102 (by decide) ?_
      obtain rfl := Option.some.inj hf
      exact W.zret (v := 1) hx hb hr (by rfl) (fun t ht hW => ⟨⟨_, (n8, rs0), rfl, ⟨rfl, hrs0⟩, by rw [ht]; exact hP, hD⟩, hS.F ht⟩) hS.2.2 dX3_back_106
  · have hf := ite_t hf c1
    refine lv_iconst (v := 1) hx hb dX3_back_8 (by decide) ?_
    refine W.widen (k := 1) (n := 13) (Nat.le_of_ble_eq_true rfl) (Nat.le_of_ble_eq_true rfl) ?_
    obtain rfl := Option.some.inj hf
    exact W.zret (v := 1) hx hb hr (by rfl) (fun t ht hW => ⟨⟨_, (ok, rs), rfl, ⟨rfl, hrs⟩, by rw [ht]; exact hP, hD⟩, hS.F ht⟩) hS.2.2 dX3_back_9
