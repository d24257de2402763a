-- laid by wip/p30/specs.py
noncomputable def f_X2_frame (Hb : HB) (p0 : Int32) (p1 : Int32) : Option (Int32 × HB × FR) := if p0 < 0 then (none) else (if (3 : Int32) ≤ p0 then (none) else (if p1 < 2 then (none) else (if p1 ≤ 8 then (if (hFc Hb) < 0 then (none) else (if (hFc Hb) < 4 then (obd (f_X1_init p0 p1) fun x8 => gd (gin (hFc Hb) 4) <| bnd ((hFc Hb) + 1) fun (v26 : Int32) => some ((hFc Hb), (v26, (hRf Hb)), x8)) else (none))) else (none))))
theorem pc_X2_frame : yX2_frame.cls = RX2 ∧ yX2_frame.cls ≠ "java/lang/invoke/MethodHandle" ∧ yX2_frame.cls ≠ "java/lang/invoke/VarHandle" ∧ (parseMethodDescriptor yX2_frame.desc).map (fun d => d.parameters.length) = some 2 := by decide +kernel
abbrev rm_X2_frame : Room := { frames := 3, cells := 9, slots := 245, locals := 64 }
set_option maxHeartbeats 4000000 in
set_option maxRecDepth 100000 in
theorem c_X2_frame (l : Launch) (dC : Nat → ClassId) (dI : Nat → Nat → Nat) (cI cF cJ cD : ClassId) (b L : Nat) (xs : Nat → Int32) (tA tB : Nat) (h fa tr : Nat) (rw : Nat → Option Nat) (Hb : HB) (p0 : Int32) (p1 : Int32) (res : (Int32 × HB × FR)) (hf : f_X2_frame Hb p0 p1 = some res) (sz : Nat) : Met l yX2_frame (ws_ yX2_frame cX2_frame 4 (some .int)) rm_X2_frame (sbPre (dC, dI) (TY cI cF cJ cD) (wHB cI cF cJ h fa tr rw Hb) (fun sz U => EX b L xs tA tB (va_A (wHB cI cF cJ h fa tr rw Hb) sz) U) sz [.ref h, .int p0, .int p1]) (va_Qi (fun (r : Int32) (_ : Nat × Nat × Nat × Nat × Nat × Nat × Nat × Nat × Nat) => r = res.1) (sbEnd (dC, dI) (fun (u : Nat × Nat × Nat × Nat × Nat × Nat × Nat × Nat × Nat) => wHB cI cF cJ h fa tr (va_up rw (Int32.toNatClampNeg (hFc Hb)) (some u.1)) res.2.1 ++ (wFR cI cF cJ u.1 u.2.1 u.2.2.1 u.2.2.2.1 u.2.2.2.2.1 u.2.2.2.2.2.1 u.2.2.2.2.2.2.1 u.2.2.2.2.2.2.2.1 u.2.2.2.2.2.2.2.2 res.2.2)) (va_A (wHB cI cF cJ h fa tr rw Hb) sz)) (va_A (wHB cI cF cJ h fa tr rw Hb) sz)) 9 245 (va_A (wHB cI cF cJ h fa tr rw Hb) sz) := by
  refine Met.ofW (cc := cX2_frame) (maxL := 4) (ret := (some .int)) (by decide) rfl ?_
  intro p e s m args below meth c s₁ B hml hv
  obtain ⟨rfl, hsz, hP, hK, hD0, hE⟩ := hv
  have hx := B.exec
  have hb := B.bytes
  have hr := B.returns
  have hts0 := atoms_spec (ws := ws_ yX2_frame cX2_frame 4 (some .int)) B.pre
  have hts := fun (w : Cond) (h : w ∈ LW) => hts0 w (List.mem_cons_of_mem _ h)
  have hown : s.vm.findClass RX2 = some m.cls := findClass_of_methodNamed B.named
  have hlocks := B.notSynchronized
  subst hsz
  have hD := hD0.self (sz := s.heap.size)
  have hE : EX b L xs tA tB (va_A (wHB cI cF cJ h fa tr rw Hb) s.heap.size) s := hE
  generalize hAe : va_A (wHB cI cF cJ h fa tr rw Hb) s.heap.size = A at hD hE ⊢
  have hA : ∀ q : Nat, s.heap.size ≤ q → A q := fun q h => by rw [← hAe]; exact Or.inr h
  have hS : va_S A s.heap s.heap [] := va_S.rf
  have hkc := Nat.zero_le rm_X2_frame.cells
  have hks := Nat.zero_le rm_X2_frame.slots
  have hl := lv_entry ([.ref h, .int p0, .int p1]) (n := 4) (Nat.le_of_ble_eq_true rfl)
  rw [lg_entry_eq]
  generalize (lg_sl ([.ref h, .int p0, .int p1]) ++ List.replicate (4 - (lg_sl ([.ref h, .int p0, .int p1])).length) Slot.unset).toArray = ls at hl ⊢
  have hl : lv_has ls 4 [(0, .ref h), (1, .int p0), (2, .int p1)] := hl
  rw [f_X2_frame] at hf
  refine lv_iload_n hx hb dX2_frame_0 rfl (lv_at hl 1 rfl) ?_
  refine lv_if_lt (tgt := 23) hx hb dX2_frame_1 (by decide) (fun c1 => ?_) (fun c1 => ?_)
  · have hf := ite_t hf c1
    cases hf
  · have hf := ite_f hf c1
    refine lv_iload_n hx hb dX2_frame_4 rfl (lv_at hl 1 rfl) ?_
    refine va_gets (v := .ref tA) hx hb hE.1.1 hS hown (hts _ q162) (fun _ h9 => h9) dX2_frame_5 ?_
    refine va_tlen (v := 3) hx hb hE.1.2.2.1 hS rfl dX2_frame_8 ?_
    refine lv_icmp_ge (tgt := 23) hx hb dX2_frame_9 (by decide) (fun c2 => ?_) (fun c2 => ?_)
    · have hf := ite_t hf c2
      cases hf
    · have hf := ite_f hf c2
      refine lv_iload_n hx hb dX2_frame_12 rfl (lv_at hl 2 rfl) ?_
      refine lv_iconst (v := 2) hx hb dX2_frame_13 (by decide) ?_
      refine lv_icmp_lt (tgt := 23) hx hb dX2_frame_14 (by decide) (fun c3 => ?_) (fun c3 => ?_)
      · have hf := ite_t hf c3
        cases hf
      · have hf := ite_f hf c3
        refine lv_iload_n hx hb dX2_frame_17 rfl (lv_at hl 2 rfl) ?_
        refine lv_bipush (v := 8) hx hb dX2_frame_18 (by decide) ?_
        refine lv_icmp_le (tgt := 33) hx hb dX2_frame_20 (by decide) (fun c4 => ?_) (fun c4 => ?_)
        · have hf := ite_t hf c4
          refine lv_aload_n hx hb dX2_frame_33 rfl (lv_at hl 0 rfl) ?_
          refine va_get (D := (dC, dI)) (ci := 2) (v := .int (hFc Hb)) (C := RX2) (T := TX2) (N := 4) hx hb hts iX2 hown hK hP 0 rfl rfl 2 (by decide) (hts _ q163) (fun _ h9 => h9) rfl dX2_frame_34 ?_
          refine lv_if_lt (tgt := 52) hx hb dX2_frame_37 (by decide) (fun c5 => ?_) (fun c5 => ?_)
          · have hf := ite_t hf c5
            cases hf
          · have hf := ite_f hf c5
            refine lv_aload_n hx hb dX2_frame_40 rfl (lv_at hl 0 rfl) ?_
            refine va_get (D := (dC, dI)) (ci := 2) (v := .int (hFc Hb)) (C := RX2) (T := TX2) (N := 4) hx hb hts iX2 hown hK hP 0 rfl rfl 2 (by decide) (hts _ q163) (fun _ h9 => h9) rfl dX2_frame_41 ?_
            refine lv_aload_n hx hb dX2_frame_44 rfl (lv_at hl 0 rfl) ?_
            refine va_get (D := (dC, dI)) (ci := 2) (v := .ref fa) (C := RX2) (T := TX2) (N := 4) hx hb hts iX2 hown hK hP 0 rfl rfl 0 (by decide) (hts _ q152) (fun _ h9 => h9) rfl dX2_frame_45 ?_
            refine va_alen (v := 4) hx hb hK hP 1 1 rfl rfl rfl dX2_frame_48 ?_
            refine lv_icmp_lt (tgt := 62) hx hb dX2_frame_49 (by decide) (fun c6 => ?_) (fun c6 => ?_)
            · have hf := ite_t hf c6
              refine lv_aload_n hx hb dX2_frame_62 rfl (lv_at hl 0 rfl) ?_
              refine va_get (D := (dC, dI)) (ci := 2) (v := .int (hFc Hb)) (C := RX2) (T := TX2) (N := 4) hx hb hts iX2 hown hK hP 0 rfl rfl 2 (by decide) (hts _ q163) (fun _ h9 => h9) rfl dX2_frame_63 ?_
              refine lv_istore_n (lv' := [(3, .int (hFc Hb)), (0, .ref h), (1, .int p0), (2, .int p1)]) hx hb dX2_frame_66 rfl hl (by decide) rfl (fun ls hl => ?_)
              refine lv_aload_n hx hb dX2_frame_67 rfl (lv_at hl 1 rfl) ?_
              refine va_get (D := (dC, dI)) (ci := 2) (v := .ref fa) (C := RX2) (T := TX2) (N := 4) hx hb hts iX2 hown hK hP 0 rfl rfl 0 (by decide) (hts _ q152) (fun _ h9 => h9) rfl dX2_frame_68 ?_
              refine lv_iload_n hx hb dX2_frame_71 rfl (lv_at hl 0 rfl) ?_
              refine va_new (ci := 1) (fs := [.int 0, .int 0, .null, .null, .int 0, .float 0, .int 0, .int 0, .int 0, .int 0, .int 0, .int 0, .int 0]) (C := RX1) (T := TX1) (N := 13) hx hb hts iX1 tyX1 tyX1_ok hown (hts _ q151) (hts _ q153) (hts _ q56) hK hP hD hS hA rfl (fun j hj => by rcases (show j = 0 ∨ j = 1 ∨ j = 2 ∨ j = 3 ∨ j = 4 ∨ j = 5 ∨ j = 6 ∨ j = 7 ∨ j = 8 ∨ j = 9 ∨ j = 10 ∨ j = 11 ∨ j = 12 by omega) with rfl | rfl | rfl | rfl | rfl | rfl | rfl | rfl | rfl | rfl | rfl | rfl | rfl <;> rfl) (Nat.le_of_ble_eq_true rfl) (Nat.le_of_ble_eq_true rfl) dX2_frame_72 (fun n7 H hP hD hS => ?_)
              refine W.widen (k := 1) (n := 13) (Nat.le_refl _) (Nat.le_refl _) ?_
              have hP : va_P (dC, dI) vwCl (wHB cI cF cJ h fa tr rw Hb ++ (wNX1 n7)) H := hP
              have hD : va_D A (wHB cI cF cJ h fa tr rw Hb ++ (wNX1 n7)) := hD
              refine lv_dup hx hb dX2_frame_75 rfl ?_
              refine lv_iload_n hx hb dX2_frame_76 rfl (lv_at hl 2 rfl) ?_
              refine lv_iload_n hx hb dX2_frame_77 rfl (lv_at hl 3 rfl) ?_
              obtain ⟨x8, hx8, hf⟩ := obd_e hf
              refine sb_Iv (As := [.int p0, .int p1]) (rest := [.ref n7, .int (hFc Hb), .ref fa]) ⟨hx, hb, hml, hown, hts⟩ (fun sz => c_X1_init l dC dI cI cF cJ cD b L xs tA tB n7 p0 p1  x8 hx8 sz) (cwI 2 hts (g_ws q24) rfl rfl rfl (hts _ q56) (hts _ q155) (hts _ q156) rfl pi_X1_init ⟨Nat.le_of_ble_eq_true rfl, Nat.le_of_ble_eq_true rfl⟩)  hK hP hD hS hA [2] [0, 1] rfl rfl (by decide) (by decide) (by decide) EX_blind (fun U hU hW => EX_pass hE hS (va_free hD hS hA [2] rfl) hU hW) rfl rfl hl.1 (Nat.le_of_ble_eq_true rfl) dX2_frame_78 ⟨Nat.le_of_ble_eq_true rfl, Nat.le_of_ble_eq_true rfl⟩ (fun u H locs hr9 hP hD hS => ?_)
              refine W.widen (k := 9) (n := 245) (Nat.le_refl _) (Nat.le_refl _) ?_
              obtain ⟨n9, n10, n11, n12, n13, n14, n15, n16⟩ := u
              have hP : va_P (dC, dI) vwCl (wHB cI cF cJ h fa tr rw Hb ++ (wFR cI cF cJ n7 n9 n10 n11 n12 n13 n14 n15 n16 x8)) H := hP
              have hD : va_D A (wHB cI cF cJ h fa tr rw Hb ++ (wFR cI cF cJ n7 n9 n10 n11 n12 n13 n14 n15 n16 x8)) := hD
              obtain ⟨g25, hf⟩ := gd_e hf
              refine va_astq hx hb hK hP hD hS 1 1 2 1 rfl rfl rfl rfl (gin_in g25) dX2_frame_81 (fun H locs hP hD hS => ?_)
              have hP : va_P (dC, dI) vwCl (wHB cI cF cJ h fa tr (va_up rw (Int32.toNatClampNeg (hFc Hb)) (some n7)) Hb ++ (wFR cI cF cJ n7 n9 n10 n11 n12 n13 n14 n15 n16 x8)) H := hP
              have hD : va_D A (wHB cI cF cJ h fa tr (va_up rw (Int32.toNatClampNeg (hFc Hb)) (some n7)) Hb ++ (wFR cI cF cJ n7 n9 n10 n11 n12 n13 n14 n15 n16 x8)) := hD
              refine lv_aload_n hx hb dX2_frame_82 rfl (lv_at hl 1 rfl) ?_
              refine lv_iload_n hx hb dX2_frame_83 rfl (lv_at hl 0 rfl) ?_
              refine lv_iconst (v := 1) hx hb dX2_frame_84 (by decide) ?_
              refine lv_iadd hx hb dX2_frame_85 ?_
              refine lv_topi (fun v26 ev26 => ?_)
              have hf := bnd_all hf v26 ev26
              refine va_put (D := (dC, dI)) (ci := 2) (v := .int v26) (ty := .int) (C := RX2) (T := TX2) (N := 4) hx hb hts iX2 tyX2 tyX2_ok nmX2 hown hK hP hD hS 0 rfl rfl 2 (by decide) (hts _ q163) (fun _ h9 => h9) rfl (by decide +kernel) rfl rfl (Nat.le_of_ble_eq_true rfl) dX2_frame_86 (fun H locs hP hD hS => ?_)
              have hP : va_P (dC, dI) vwCl (wHB cI cF cJ h fa tr (va_up rw (Int32.toNatClampNeg (hFc Hb)) (some n7)) (shFc Hb v26) ++ (wFR cI cF cJ n7 n9 n10 n11 n12 n13 n14 n15 n16 x8)) H := hP
              have hD : va_D A (wHB cI cF cJ h fa tr (va_up rw (Int32.toNatClampNeg (hFc Hb)) (some n7)) (shFc Hb v26) ++ (wFR cI cF cJ n7 n9 n10 n11 n12 n13 n14 n15 n16 x8)) := hD
              refine lv_iload_n hx hb dX2_frame_89 rfl (lv_at hl 0 rfl) ?_
              have hP : va_P (dC, dI) vwCl (wHB cI cF cJ h fa tr (va_up rw (Int32.toNatClampNeg (hFc Hb)) (some n7)) (v26, (hRf Hb)) ++ (wFR cI cF cJ n7 n9 n10 n11 n12 n13 n14 n15 n16 x8)) H := hP.sub [0, 1, 2, 3, 4, 5, 6, 7, 8, 9, 10] rfl
              have hD : va_D A (wHB cI cF cJ h fa tr (va_up rw (Int32.toNatClampNeg (hFc Hb)) (some n7)) (v26, (hRf Hb)) ++ (wFR cI cF cJ n7 n9 n10 n11 n12 n13 n14 n15 n16 x8)) := hD.sub [0, 1, 2, 3, 4, 5, 6, 7, 8, 9, 10] (by decide) rfl
              obtain rfl := Option.some.inj hf
              exact W.iret (v := (hFc Hb)) hx hb hr (fun t ht hW => ⟨⟨_, (n7, n9, n10, n11, n12, n13, n14, n15, n16), rfl, rfl, by rw [ht]; exact hP, hD⟩, hS.F ht⟩) hS.2.2 dX2_frame_90
            · have hf := ite_f hf c6
              cases hf
        · have hf := ite_f hf c4
          cases hf
