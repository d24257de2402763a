-- laid by wip/p30/specs.py
noncomputable def l_X1_bestUp_18 (c1 : Int32) (c2 : Int32) (c3 : Int32) (R0 : FR) (k : Int32 → Int32 → Int32 → Int32 → Option (Int32)) : Nat → Int32 → Int32 → Int32 → Int32 → Option (Int32)
  | 0, _, _, _, _ => none
  | n + 1, a1, a2, a3, a4 => if a4 < 0 then (k a1 a2 a3 a4) else (bnd (5 * a4) fun (v6 : Int32) => bnd (c1 - v6) fun (v7 : Int32) => if v7 < 0 then (bnd (a4 + (-1)) fun (v9 : Int32) => l_X1_bestUp_18 c1 c2 c3 R0 k n a1 a2 a3 v9) else (if (dSz (fBe R0)) < v7 then (bnd (a4 + (-1)) fun (v11 : Int32) => l_X1_bestUp_18 c1 c2 c3 R0 k n a1 a2 a3 v11) else (bnd (a4 - c2) fun (v12 : Int32) => bnd (if 0 ≤ v12 then v12 else 0 - v12) fun (v13 : Int32) => bnd (v7 - c3) fun (v14 : Int32) => bnd (if 0 ≤ v14 then v14 else 0 - v14) fun (v15 : Int32) => jn (fun (b16 : Int32) => jn (fun (b17 : Int32) => bnd (b16 + b17) fun (v18 : Int32) => bnd (v13 + v15) fun (v19 : Int32) => if a1 = (-1) then (bnd (a4 + (-1)) fun (v21 : Int32) => l_X1_bestUp_18 c1 c2 c3 R0 k n a4 v18 v19 v21) else (if v18 < a2 then (bnd (a4 + (-1)) fun (v23 : Int32) => l_X1_bestUp_18 c1 c2 c3 R0 k n a4 v18 v19 v23) else (if v18 = a2 then (if a3 ≤ v19 then (bnd (a4 + (-1)) fun (v27 : Int32) => l_X1_bestUp_18 c1 c2 c3 R0 k n a1 a2 a3 v27) else (bnd (a4 + (-1)) fun (v28 : Int32) => l_X1_bestUp_18 c1 c2 c3 R0 k n a4 v18 v19 v28)) else (bnd (a4 + (-1)) fun (v25 : Int32) => l_X1_bestUp_18 c1 c2 c3 R0 k n a1 a2 a3 v25)))) fun J86 => if v15 ≤ 0 then (J86 0) else (J86 1)) fun J76 => if v13 ≤ 0 then (J76 0) else (J76 1))))
noncomputable def f_X1_bestUp (F : FR) (p0 : Int32) (p1 : Int32) (p2 : Int32) : Option (Int32) := l_X1_bestUp_18 p0 p1 p2 F (fun (a141 : Int32) (a142 : Int32) (a143 : Int32) (a144 : Int32) => some a141) 16 (-1) 0 0 (dSz (fAb F))
theorem pc_X1_bestUp : yX1_bestUp.cls = RX1 ∧ yX1_bestUp.cls ≠ "java/lang/invoke/MethodHandle" ∧ yX1_bestUp.cls ≠ "java/lang/invoke/VarHandle" ∧ (parseMethodDescriptor yX1_bestUp.desc).map (fun d => d.parameters.length) = some 3 := by decide +kernel
abbrev rm_X1_bestUp : Room := { frames := 1, cells := 0, slots := 0, locals := 21 }
set_option maxHeartbeats 4000000 in
set_option maxRecDepth 100000 in
theorem c_X1_bestUp (l : Launch) (dC : Nat → ClassId) (dI : Nat → Nat → Nat) (cI cF cJ cD : ClassId) (q0 q1 q2 q3 q4 q5 q6 q7 q8 : Nat) (F : FR) (p0 : Int32) (p1 : Int32) (p2 : Int32) (res : (Int32)) (hf : f_X1_bestUp F p0 p1 p2 = some res) (sz : Nat) : Met l yX1_bestUp (ws_ yX1_bestUp cX1_bestUp 13 (some .int)) rm_X1_bestUp (sbPre (dC, dI) (TY cI cF cJ cD) (wFR cI cF cJ q0 q1 q2 q3 q4 q5 q6 q7 q8 F) E0 sz [.ref q0, .int p0, .int p1, .int p2]) (va_Qi (fun (r : Int32) (_ : Unit) => r = res) (sbEnd (dC, dI) (fun _ => wFR cI cF cJ q0 q1 q2 q3 q4 q5 q6 q7 q8 F) (va_A (wFR cI cF cJ q0 q1 q2 q3 q4 q5 q6 q7 q8 F) sz)) (va_A (wFR cI cF cJ q0 q1 q2 q3 q4 q5 q6 q7 q8 F) sz)) 0 0 (va_A (wFR cI cF cJ q0 q1 q2 q3 q4 q5 q6 q7 q8 F) sz) := by
  refine Met.ofW (cc := cX1_bestUp) (maxL := 13) (ret := (some .int)) (by decide) rfl ?_
  intro p e s m args below meth c s₁ B hml hv
  obtain ⟨rfl, hsz, hP, hK, hD0, hE⟩ := hv
  have hx := B.exec
  have hb := B.bytes
  have hr := B.returns
  have hts0 := atoms_spec (ws := ws_ yX1_bestUp cX1_bestUp 13 (some .int)) B.pre
  have hts := fun (w : Cond) (h : w ∈ LW) => hts0 w (List.mem_cons_of_mem _ h)
  have hown : s.vm.findClass RX1 = some m.cls := findClass_of_methodNamed B.named
  have hlocks := B.notSynchronized
  subst hsz
  have hD := hD0.self (sz := s.heap.size)
  generalize hAe : va_A (wFR cI cF cJ q0 q1 q2 q3 q4 q5 q6 q7 q8 F) s.heap.size = A at hD ⊢
  have hA : ∀ q : Nat, s.heap.size ≤ q → A q := fun q h => by rw [← hAe]; exact Or.inr h
  have hS : va_S A s.heap s.heap [] := va_S.rf
  have hkc := Nat.zero_le rm_X1_bestUp.cells
  have hks := Nat.zero_le rm_X1_bestUp.slots
  have hl := lv_entry ([.ref q0, .int p0, .int p1, .int p2]) (n := 13) (Nat.le_of_ble_eq_true rfl)
  rw [lg_entry_eq]
  generalize (lg_sl ([.ref q0, .int p0, .int p1, .int p2]) ++ List.replicate (13 - (lg_sl ([.ref q0, .int p0, .int p1, .int p2])).length) Slot.unset).toArray = ls at hl ⊢
  have hl : lv_has ls 13 [(0, .ref q0), (1, .int p0), (2, .int p1), (3, .int p2)] := hl
  rw [f_X1_bestUp] at hf
  refine lv_iconst (v := (-1)) hx hb dX1_bestUp_0 (by decide) ?_
  refine lv_istore (lv' := [(4, .int (-1)), (0, .ref q0), (1, .int p0), (2, .int p1), (3, .int p2)]) hx hb dX1_bestUp_1 hl (by decide) rfl (fun ls hl => ?_)
  refine lv_iconst (v := 0) hx hb dX1_bestUp_3 (by decide) ?_
  refine lv_istore (lv' := [(5, .int 0), (4, .int (-1)), (0, .ref q0), (1, .int p0), (2, .int p1), (3, .int p2)]) hx hb dX1_bestUp_4 hl (by decide) rfl (fun ls hl => ?_)
  refine lv_iconst (v := 0) hx hb dX1_bestUp_6 (by decide) ?_
  refine lv_istore (lv' := [(6, .int 0), (5, .int 0), (4, .int (-1)), (0, .ref q0), (1, .int p0), (2, .int p1), (3, .int p2)]) hx hb dX1_bestUp_7 hl (by decide) rfl (fun ls hl => ?_)
  refine lv_aload_n hx hb dX1_bestUp_9 rfl (lv_at hl 3 rfl) ?_
  refine va_get (D := (dC, dI)) (ci := 1) (v := .ref q1) (C := RX1) (T := TX1) (N := 13) hx hb hts iX1 hown hK hP 0 rfl rfl 2 (by decide) (hts _ q30) (fun _ h9 => h9) rfl dX1_bestUp_10 ?_
  refine va_get (D := (dC, dI)) (ci := 0) (v := .int (dSz (fAb F))) (C := RX0) (T := TX0) (N := 4) hx hb hts iX0 hown hK hP 1 rfl rfl 0 (by decide) (hts _ q51) (fun _ h9 => h9) rfl dX1_bestUp_13 ?_
  refine lv_istore (lv' := [(7, .int (dSz (fAb F))), (6, .int 0), (5, .int 0), (4, .int (-1)), (0, .ref q0), (1, .int p0), (2, .int p1), (3, .int p2)]) hx hb dX1_bestUp_16 hl (by decide) rfl (fun ls hl => ?_)
  have L18 : ∀ (k : Int32 → Int32 → Int32 → Int32 → Option (Int32)), (∀ (a69 : Int32) (a70 : Int32) (a71 : Int32) (a72 : Int32) (H : Heap) (locs : List Loc) (ls : Array Slot), va_P (dC, dI) vwCl (wFR cI cF cJ q0 q1 q2 q3 q4 q5 q6 q7 q8 F) H → va_D A (wFR cI cF cJ q0 q1 q2 q3 q4 q5 q6 q7 q8 F) → va_S A s.heap H locs → lv_has ls 13 [(4, .int a69)] → k a69 a70 a71 a72 = some res → W p l e (headSpec (ws_ yX1_bestUp cX1_bestUp 13 (some .int)) rm_X1_bestUp).room s m ([.ref q0, .int p0, .int p1, .int p2].toArray) below meth c H locs 0 0 (MQ below (va_Qi (fun (r : Int32) (_ : Unit) => r = res) (sbEnd (dC, dI) (fun _ => wFR cI cF cJ q0 q1 q2 q3 q4 q5 q6 q7 q8 F) (A)) (A)) ([.ref q0, .int p0, .int p1, .int p2].toArray) s 0 0 A) (F0 m 141 ls [])) → ∀ (n : Nat) (a69 : Int32) (a70 : Int32) (a71 : Int32) (a72 : Int32) (H : Heap) (locs : List Loc) (ls : Array Slot), va_P (dC, dI) vwCl (wFR cI cF cJ q0 q1 q2 q3 q4 q5 q6 q7 q8 F) H → va_D A (wFR cI cF cJ q0 q1 q2 q3 q4 q5 q6 q7 q8 F) → va_S A s.heap H locs → lv_has ls 13 [(4, .int a69), (5, .int a70), (6, .int a71), (7, .int a72), (0, .ref q0), (1, .int p0), (2, .int p1), (3, .int p2)] → l_X1_bestUp_18 p0 p1 p2 F k n a69 a70 a71 a72 = some res → W p l e (headSpec (ws_ yX1_bestUp cX1_bestUp 13 (some .int)) rm_X1_bestUp).room s m ([.ref q0, .int p0, .int p1, .int p2].toArray) below meth c H locs 0 0 (MQ below (va_Qi (fun (r : Int32) (_ : Unit) => r = res) (sbEnd (dC, dI) (fun _ => wFR cI cF cJ q0 q1 q2 q3 q4 q5 q6 q7 q8 F) (A)) (A)) ([.ref q0, .int p0, .int p1, .int p2].toArray) s 0 0 A) (F0 m 18 ls []) := by
    intro k hk n
    induction n with
    | zero =>
      intro a73 a74 a75 a76 H locs ls hP hD hS hl hf
      rw [l_X1_bestUp_18] at hf
      cases hf
    | succ n ih =>
      intro a73 a74 a75 a76 H locs ls hP hD hS hl hf
      rw [l_X1_bestUp_18] at hf
      refine lv_iload hx hb dX1_bestUp_18 (lv_at hl 3 rfl) ?_
      refine lv_if_lt (tgt := 141) hx hb dX1_bestUp_20 (by decide) (fun c77 => ?_) (fun c77 => ?_)
      · have hf := ite_t hf c77
        exact hk a73 a74 a75 a76 _ _ _ hP hD hS (lv_sub hl [0] rfl) hf
      · have hf := ite_f hf c77
        refine lv_iload_n hx hb dX1_bestUp_23 rfl (lv_at hl 5 rfl) ?_
        refine lv_iconst (v := 5) hx hb dX1_bestUp_24 (by decide) ?_
        refine lv_iload hx hb dX1_bestUp_25 (lv_at hl 3 rfl) ?_
        refine lv_imul hx hb dX1_bestUp_27 ?_
        refine lv_topi (fun v78 ev78 => ?_)
        have hf := bnd_all hf v78 ev78
        refine lv_isub hx hb dX1_bestUp_28 ?_
        refine lv_topi (fun v79 ev79 => ?_)
        have hf := bnd_all hf v79 ev79
        refine lv_istore (lv' := [(8, .int v79), (4, .int a73), (5, .int a74), (6, .int a75), (7, .int a76), (0, .ref q0), (1, .int p0), (2, .int p1), (3, .int p2)]) hx hb dX1_bestUp_29 hl (by decide) rfl (fun ls hl => ?_)
        refine lv_iload hx hb dX1_bestUp_31 (lv_at hl 0 rfl) ?_
        refine lv_if_lt (tgt := 135) hx hb dX1_bestUp_33 (by decide) (fun c80 => ?_) (fun c80 => ?_)
        · have hf := ite_t hf c80
          obtain ⟨v81, ev81⟩ : ∃ y : Int32, y = a76 + (-1) := ⟨_, rfl⟩
          have hf := bnd_all hf v81 ev81
          refine lv_iinc (v := v81) (lv' := [(7, .int v81), (8, .int v79), (4, .int a73), (5, .int a74), (6, .int a75), (0, .ref q0), (1, .int p0), (2, .int p1), (3, .int p2)]) hx hb dX1_bestUp_135 hl (k := 4) rfl (by rw [ev81]; rfl) (by decide) rfl (fun ls hl => ?_)
          refine lv_goto (tgt := 18) hx hb dX1_bestUp_138 (by decide) ?_
          exact ih a73 a74 a75 v81 _ _ _ hP hD hS (lv_sub hl [2, 3, 4, 0, 5, 6, 7, 8] rfl) hf
        · have hf := ite_f hf c80
          refine lv_iload hx hb dX1_bestUp_36 (lv_at hl 0 rfl) ?_
          refine lv_aload_n hx hb dX1_bestUp_38 rfl (lv_at hl 5 rfl) ?_
          refine va_get (D := (dC, dI)) (ci := 1) (v := .ref q5) (C := RX1) (T := TX1) (N := 13) hx hb hts iX1 hown hK hP 0 rfl rfl 3 (by decide) (hts _ q31) (fun _ h9 => h9) rfl dX1_bestUp_39 ?_
          refine va_get (D := (dC, dI)) (ci := 0) (v := .int (dSz (fBe F))) (C := RX0) (T := TX0) (N := 4) hx hb hts iX0 hown hK hP 5 rfl rfl 0 (by decide) (hts _ q51) (fun _ h9 => h9) rfl dX1_bestUp_42 ?_
          refine lv_icmp_gt (tgt := 135) hx hb dX1_bestUp_45 (by decide) (fun c82 => ?_) (fun c82 => ?_)
          · have hf := ite_t hf c82
            obtain ⟨v83, ev83⟩ : ∃ y : Int32, y = a76 + (-1) := ⟨_, rfl⟩
            have hf := bnd_all hf v83 ev83
            refine lv_iinc (v := v83) (lv' := [(7, .int v83), (8, .int v79), (4, .int a73), (5, .int a74), (6, .int a75), (0, .ref q0), (1, .int p0), (2, .int p1), (3, .int p2)]) hx hb dX1_bestUp_135 hl (k := 4) rfl (by rw [ev83]; rfl) (by decide) rfl (fun ls hl => ?_)
            refine lv_goto (tgt := 18) hx hb dX1_bestUp_138 (by decide) ?_
            exact ih a73 a74 a75 v83 _ _ _ hP hD hS (lv_sub hl [2, 3, 4, 0, 5, 6, 7, 8] rfl) hf
          · have hf := ite_f hf c82
            refine lv_iload hx hb dX1_bestUp_48 (lv_at hl 4 rfl) ?_
            refine lv_iload_n hx hb dX1_bestUp_50 rfl (lv_at hl 7 rfl) ?_
            refine lv_isub hx hb dX1_bestUp_51 ?_
            refine lv_topi (fun v84 ev84 => ?_)
            have hf := bnd_all hf v84 ev84
            refine va_mabs hx hb (hml.trans hl.1.symm) hown (hts _ q59) (hts _ q60) (hts _ q61) (hts _ q62) (Nat.le_of_ble_eq_true rfl) (Nat.le_of_ble_eq_true rfl) hkc hks dX1_bestUp_52 ?_
            refine lv_topi (fun v85 ev85 => ?_)
            have hf := bnd_all hf v85 ev85
            refine lv_istore (lv' := [(9, .int v85), (8, .int v79), (4, .int a73), (5, .int a74), (6, .int a75), (7, .int a76), (0, .ref q0), (1, .int p0), (2, .int p1), (3, .int p2)]) hx hb dX1_bestUp_55 hl (by decide) rfl (fun ls hl => ?_)
            refine lv_iload hx hb dX1_bestUp_57 (lv_at hl 1 rfl) ?_
            refine lv_iload_n hx hb dX1_bestUp_59 rfl (lv_at hl 9 rfl) ?_
            refine lv_isub hx hb dX1_bestUp_60 ?_
            refine lv_topi (fun v86 ev86 => ?_)
            have hf := bnd_all hf v86 ev86
            refine va_mabs hx hb (hml.trans hl.1.symm) hown (hts _ q59) (hts _ q60) (hts _ q61) (hts _ q62) (Nat.le_of_ble_eq_true rfl) (Nat.le_of_ble_eq_true rfl) hkc hks dX1_bestUp_61 ?_
            refine lv_topi (fun v87 ev87 => ?_)
            have hf := bnd_all hf v87 ev87
            refine lv_istore (lv' := [(10, .int v87), (9, .int v85), (8, .int v79), (4, .int a73), (5, .int a74), (6, .int a75), (7, .int a76), (0, .ref q0), (1, .int p0), (2, .int p1), (3, .int p2)]) hx hb dX1_bestUp_64 hl (by decide) rfl (fun ls hl => ?_)
            refine lv_iload hx hb dX1_bestUp_66 (lv_at hl 1 rfl) ?_
            obtain ⟨J76, eJ76, hf⟩ := jn_e hf
            have hJ76 : ∀ (b114 : Int32) (H : Heap) (locs : List Loc) (ls : Array Slot), va_P (dC, dI) vwCl (wFR cI cF cJ q0 q1 q2 q3 q4 q5 q6 q7 q8 F) H → va_D A (wFR cI cF cJ q0 q1 q2 q3 q4 q5 q6 q7 q8 F) → va_S A s.heap H locs → lv_has ls 13 [(0, .ref q0), (1, .int p0), (2, .int p1), (3, .int p2), (4, .int a73), (5, .int a74), (6, .int a75), (7, .int a76), (9, .int v85), (10, .int v87)] → J76 b114 = some res → W p l e (headSpec (ws_ yX1_bestUp cX1_bestUp 13 (some .int)) rm_X1_bestUp).room s m ([.ref q0, .int p0, .int p1, .int p2].toArray) below meth c H locs 0 0 (MQ below (va_Qi (fun (r : Int32) (_ : Unit) => r = res) (sbEnd (dC, dI) (fun _ => wFR cI cF cJ q0 q1 q2 q3 q4 q5 q6 q7 q8 F) (A)) (A)) ([.ref q0, .int p0, .int p1, .int p2].toArray) s 0 0 A) (F0 m 76 ls [.int b114]) := by
              intro b114 H locs ls hP hD hS hl hf
              subst eJ76
              refine lv_iload hx hb dX1_bestUp_76 (lv_at hl 9 rfl) ?_
              obtain ⟨J86, eJ86, hf⟩ := jn_e hf
              have hJ86 : ∀ (b127 : Int32) (H : Heap) (locs : List Loc) (ls : Array Slot), va_P (dC, dI) vwCl (wFR cI cF cJ q0 q1 q2 q3 q4 q5 q6 q7 q8 F) H → va_D A (wFR cI cF cJ q0 q1 q2 q3 q4 q5 q6 q7 q8 F) → va_S A s.heap H locs → lv_has ls 13 [(0, .ref q0), (1, .int p0), (2, .int p1), (3, .int p2), (4, .int a73), (5, .int a74), (6, .int a75), (7, .int a76), (9, .int v85), (10, .int v87)] → J86 b127 = some res → W p l e (headSpec (ws_ yX1_bestUp cX1_bestUp 13 (some .int)) rm_X1_bestUp).room s m ([.ref q0, .int p0, .int p1, .int p2].toArray) below meth c H locs 0 0 (MQ below (va_Qi (fun (r : Int32) (_ : Unit) => r = res) (sbEnd (dC, dI) (fun _ => wFR cI cF cJ q0 q1 q2 q3 q4 q5 q6 q7 q8 F) (A)) (A)) ([.ref q0, .int p0, .int p1, .int p2].toArray) s 0 0 A) (F0 m 86 ls [.int b127, .int b114]) := by
                intro b127 H locs ls hP hD hS hl hf
                subst eJ86
                refine lv_iadd hx hb dX1_bestUp_86 ?_
                refine lv_topi (fun v128 ev128 => ?_)
                have hf := bnd_all hf v128 ev128
                refine lv_istore (lv' := [(11, .int v128), (0, .ref q0), (1, .int p0), (2, .int p1), (3, .int p2), (4, .int a73), (5, .int a74), (6, .int a75), (7, .int a76), (9, .int v85), (10, .int v87)]) hx hb dX1_bestUp_87 hl (by decide) rfl (fun ls hl => ?_)
                refine lv_iload hx hb dX1_bestUp_89 (lv_at hl 9 rfl) ?_
                refine lv_iload hx hb dX1_bestUp_91 (lv_at hl 10 rfl) ?_
                refine lv_iadd hx hb dX1_bestUp_93 ?_
                refine lv_topi (fun v129 ev129 => ?_)
                have hf := bnd_all hf v129 ev129
                refine lv_istore (lv' := [(12, .int v129), (11, .int v128), (0, .ref q0), (1, .int p0), (2, .int p1), (3, .int p2), (4, .int a73), (5, .int a74), (6, .int a75), (7, .int a76), (9, .int v85), (10, .int v87)]) hx hb dX1_bestUp_94 hl (by decide) rfl (fun ls hl => ?_)
                refine lv_iload hx hb dX1_bestUp_96 (lv_at hl 6 rfl) ?_
                refine lv_iconst (v := (-1)) hx hb dX1_bestUp_98 (by decide) ?_
                refine lv_icmp_eq (tgt := 123) hx hb dX1_bestUp_99 (by decide) (fun c130 => ?_) (fun c130 => ?_)
                · have hf := ite_t hf c130
                  refine lv_iload hx hb dX1_bestUp_123 (lv_at hl 9 rfl) ?_
                  refine lv_istore (lv' := [(4, .int a76), (12, .int v129), (11, .int v128), (0, .ref q0), (1, .int p0), (2, .int p1), (3, .int p2), (5, .int a74), (6, .int a75), (7, .int a76), (9, .int v85), (10, .int v87)]) hx hb dX1_bestUp_125 hl (by decide) rfl (fun ls hl => ?_)
                  refine lv_iload hx hb dX1_bestUp_127 (lv_at hl 2 rfl) ?_
                  refine lv_istore (lv' := [(5, .int v128), (4, .int a76), (12, .int v129), (11, .int v128), (0, .ref q0), (1, .int p0), (2, .int p1), (3, .int p2), (6, .int a75), (7, .int a76), (9, .int v85), (10, .int v87)]) hx hb dX1_bestUp_129 hl (by decide) rfl (fun ls hl => ?_)
                  refine lv_iload hx hb dX1_bestUp_131 (lv_at hl 2 rfl) ?_
                  refine lv_istore (lv' := [(6, .int v129), (5, .int v128), (4, .int a76), (12, .int v129), (11, .int v128), (0, .ref q0), (1, .int p0), (2, .int p1), (3, .int p2), (7, .int a76), (9, .int v85), (10, .int v87)]) hx hb dX1_bestUp_133 hl (by decide) rfl (fun ls hl => ?_)
                  obtain ⟨v131, ev131⟩ : ∃ y : Int32, y = a76 + (-1) := ⟨_, rfl⟩
                  have hf := bnd_all hf v131 ev131
                  refine lv_iinc (v := v131) (lv' := [(7, .int v131), (6, .int v129), (5, .int v128), (4, .int a76), (12, .int v129), (11, .int v128), (0, .ref q0), (1, .int p0), (2, .int p1), (3, .int p2), (9, .int v85), (10, .int v87)]) hx hb dX1_bestUp_135 hl (k := 9) rfl (by rw [ev131]; rfl) (by decide) rfl (fun ls hl => ?_)
                  refine lv_goto (tgt := 18) hx hb dX1_bestUp_138 (by decide) ?_
                  exact ih a76 v128 v129 v131 _ _ _ hP hD hS (lv_sub hl [3, 2, 1, 0, 6, 7, 8, 9] rfl) hf
                · have hf := ite_f hf c130
                  refine lv_iload hx hb dX1_bestUp_102 (lv_at hl 1 rfl) ?_
                  refine lv_iload hx hb dX1_bestUp_104 (lv_at hl 7 rfl) ?_
                  refine lv_icmp_lt (tgt := 123) hx hb dX1_bestUp_106 (by decide) (fun c132 => ?_) (fun c132 => ?_)
                  · have hf := ite_t hf c132
                    refine lv_iload hx hb dX1_bestUp_123 (lv_at hl 9 rfl) ?_
                    refine lv_istore (lv' := [(4, .int a76), (12, .int v129), (11, .int v128), (0, .ref q0), (1, .int p0), (2, .int p1), (3, .int p2), (5, .int a74), (6, .int a75), (7, .int a76), (9, .int v85), (10, .int v87)]) hx hb dX1_bestUp_125 hl (by decide) rfl (fun ls hl => ?_)
                    refine lv_iload hx hb dX1_bestUp_127 (lv_at hl 2 rfl) ?_
                    refine lv_istore (lv' := [(5, .int v128), (4, .int a76), (12, .int v129), (11, .int v128), (0, .ref q0), (1, .int p0), (2, .int p1), (3, .int p2), (6, .int a75), (7, .int a76), (9, .int v85), (10, .int v87)]) hx hb dX1_bestUp_129 hl (by decide) rfl (fun ls hl => ?_)
                    refine lv_iload hx hb dX1_bestUp_131 (lv_at hl 2 rfl) ?_
                    refine lv_istore (lv' := [(6, .int v129), (5, .int v128), (4, .int a76), (12, .int v129), (11, .int v128), (0, .ref q0), (1, .int p0), (2, .int p1), (3, .int p2), (7, .int a76), (9, .int v85), (10, .int v87)]) hx hb dX1_bestUp_133 hl (by decide) rfl (fun ls hl => ?_)
                    obtain ⟨v133, ev133⟩ : ∃ y : Int32, y = a76 + (-1) := ⟨_, rfl⟩
                    have hf := bnd_all hf v133 ev133
                    refine lv_iinc (v := v133) (lv' := [(7, .int v133), (6, .int v129), (5, .int v128), (4, .int a76), (12, .int v129), (11, .int v128), (0, .ref q0), (1, .int p0), (2, .int p1), (3, .int p2), (9, .int v85), (10, .int v87)]) hx hb dX1_bestUp_135 hl (k := 9) rfl (by rw [ev133]; rfl) (by decide) rfl (fun ls hl => ?_)
                    refine lv_goto (tgt := 18) hx hb dX1_bestUp_138 (by decide) ?_
                    exact ih a76 v128 v129 v133 _ _ _ hP hD hS (lv_sub hl [3, 2, 1, 0, 6, 7, 8, 9] rfl) hf
                  · have hf := ite_f hf c132
                    refine lv_iload hx hb dX1_bestUp_109 (lv_at hl 1 rfl) ?_
                    refine lv_iload hx hb dX1_bestUp_111 (lv_at hl 7 rfl) ?_
                    refine lv_icmp_ne (tgt := 135) hx hb dX1_bestUp_113 (by decide) (fun c134 => ?_) (fun c134 => ?_)
                    · have hf := ite_f hf c134
                      obtain ⟨v135, ev135⟩ : ∃ y : Int32, y = a76 + (-1) := ⟨_, rfl⟩
                      have hf := bnd_all hf v135 ev135
                      refine lv_iinc (v := v135) (lv' := [(7, .int v135), (12, .int v129), (11, .int v128), (0, .ref q0), (1, .int p0), (2, .int p1), (3, .int p2), (4, .int a73), (5, .int a74), (6, .int a75), (9, .int v85), (10, .int v87)]) hx hb dX1_bestUp_135 hl (k := 9) rfl (by rw [ev135]; rfl) (by decide) rfl (fun ls hl => ?_)
                      refine lv_goto (tgt := 18) hx hb dX1_bestUp_138 (by decide) ?_
                      exact ih a73 a74 a75 v135 _ _ _ hP hD hS (lv_sub hl [7, 8, 9, 0, 3, 4, 5, 6] rfl) hf
                    · have hf := ite_t hf c134
                      refine lv_iload hx hb dX1_bestUp_116 (lv_at hl 0 rfl) ?_
                      refine lv_iload hx hb dX1_bestUp_118 (lv_at hl 8 rfl) ?_
                      refine lv_icmp_ge (tgt := 135) hx hb dX1_bestUp_120 (by decide) (fun c136 => ?_) (fun c136 => ?_)
                      · have hf := ite_t hf c136
                        obtain ⟨v137, ev137⟩ : ∃ y : Int32, y = a76 + (-1) := ⟨_, rfl⟩
                        have hf := bnd_all hf v137 ev137
                        refine lv_iinc (v := v137) (lv' := [(7, .int v137), (12, .int v129), (11, .int v128), (0, .ref q0), (1, .int p0), (2, .int p1), (3, .int p2), (4, .int a73), (5, .int a74), (6, .int a75), (9, .int v85), (10, .int v87)]) hx hb dX1_bestUp_135 hl (k := 9) rfl (by rw [ev137]; rfl) (by decide) rfl (fun ls hl => ?_)
                        refine lv_goto (tgt := 18) hx hb dX1_bestUp_138 (by decide) ?_
                        exact ih a73 a74 a75 v137 _ _ _ hP hD hS (lv_sub hl [7, 8, 9, 0, 3, 4, 5, 6] rfl) hf
                      · have hf := ite_f hf c136
                        refine lv_iload hx hb dX1_bestUp_123 (lv_at hl 9 rfl) ?_
                        refine lv_istore (lv' := [(4, .int a76), (12, .int v129), (11, .int v128), (0, .ref q0), (1, .int p0), (2, .int p1), (3, .int p2), (5, .int a74), (6, .int a75), (7, .int a76), (9, .int v85), (10, .int v87)]) hx hb dX1_bestUp_125 hl (by decide) rfl (fun ls hl => ?_)
                        refine lv_iload hx hb dX1_bestUp_127 (lv_at hl 2 rfl) ?_
                        refine lv_istore (lv' := [(5, .int v128), (4, .int a76), (12, .int v129), (11, .int v128), (0, .ref q0), (1, .int p0), (2, .int p1), (3, .int p2), (6, .int a75), (7, .int a76), (9, .int v85), (10, .int v87)]) hx hb dX1_bestUp_129 hl (by decide) rfl (fun ls hl => ?_)
                        refine lv_iload hx hb dX1_bestUp_131 (lv_at hl 2 rfl) ?_
                        refine lv_istore (lv' := [(6, .int v129), (5, .int v128), (4, .int a76), (12, .int v129), (11, .int v128), (0, .ref q0), (1, .int p0), (2, .int p1), (3, .int p2), (7, .int a76), (9, .int v85), (10, .int v87)]) hx hb dX1_bestUp_133 hl (by decide) rfl (fun ls hl => ?_)
                        obtain ⟨v138, ev138⟩ : ∃ y : Int32, y = a76 + (-1) := ⟨_, rfl⟩
                        have hf := bnd_all hf v138 ev138
                        refine lv_iinc (v := v138) (lv' := [(7, .int v138), (6, .int v129), (5, .int v128), (4, .int a76), (12, .int v129), (11, .int v128), (0, .ref q0), (1, .int p0), (2, .int p1), (3, .int p2), (9, .int v85), (10, .int v87)]) hx hb dX1_bestUp_135 hl (k := 9) rfl (by rw [ev138]; rfl) (by decide) rfl (fun ls hl => ?_)
                        refine lv_goto (tgt := 18) hx hb dX1_bestUp_138 (by decide) ?_
                        exact ih a76 v128 v129 v138 _ _ _ hP hD hS (lv_sub hl [3, 2, 1, 0, 6, 7, 8, 9] rfl) hf
              refine lv_if_le (tgt := 85) hx hb dX1_bestUp_78 (by decide) (fun c139 => ?_) (fun c139 => ?_)
              · have hf := ite_t hf c139
                refine lv_iconst (v := 0) hx hb dX1_bestUp_85 (by decide) ?_
                exact hJ86 0 _ _ _ hP hD hS (lv_sub hl [0, 1, 2, 3, 4, 5, 6, 7, 8, 9] rfl) hf
              · have hf := ite_f hf c139
                refine lv_iconst (v := 1) hx hb dX1_bestUp_81 (by decide) ?_
                refine lv_goto (tgt := 86) hx hb dX1_bestUp_82 (by decide) ?_
                exact hJ86 1 _ _ _ hP hD hS (lv_sub hl [0, 1, 2, 3, 4, 5, 6, 7, 8, 9] rfl) hf
            refine lv_if_le (tgt := 75) hx hb dX1_bestUp_68 (by decide) (fun c140 => ?_) (fun c140 => ?_)
            · have hf := ite_t hf c140
              refine lv_iconst (v := 0) hx hb dX1_bestUp_75 (by decide) ?_
              exact hJ76 0 _ _ _ hP hD hS (lv_sub hl [7, 8, 9, 10, 3, 4, 5, 6, 1, 0] rfl) hf
            · have hf := ite_f hf c140
              refine lv_iconst (v := 1) hx hb dX1_bestUp_71 (by decide) ?_
              refine lv_goto (tgt := 76) hx hb dX1_bestUp_72 (by decide) ?_
              exact hJ76 1 _ _ _ hP hD hS (lv_sub hl [7, 8, 9, 10, 3, 4, 5, 6, 1, 0] rfl) hf
  refine L18 _ (fun a141 a142 a143 a144 H locs ls hP hD hS hl hf => ?_) 16 (-1) 0 0 (dSz (fAb F)) _ _ _ hP hD hS (lv_sub hl [3, 2, 1, 0, 4, 5, 6, 7] rfl) hf
  refine lv_iload hx hb dX1_bestUp_141 (lv_at hl 0 rfl) ?_
  obtain rfl := Option.some.inj hf
  exact W.iret (v := a141) hx hb hr (fun t ht hW => ⟨⟨_, (), rfl, rfl, by rw [ht]; exact hP, hD⟩, hS.F ht⟩) hS.2.2 dX1_bestUp_143
noncomputable def f_X1_setRod (F : FR) (p0 : Int32) (p1 : Int32) : Option (FR) := obd (f_X0_countAt (fAb F) p0) fun x1 => obd (f_X0_countAt (fBe F) p0) fun x2 => obd (f_X1_bestUp F p1 x1 x2) fun x3 => if x3 = (-1) then (some F) else (bnd (x3 - x1) fun (v5 : Int32) => bnd (5 * x3) fun (v6 : Int32) => bnd (p1 - v6) fun (v7 : Int32) => bnd (v7 - x2) fun (v8 : Int32) => if v5 = 0 then (if v8 = 0 then (some F) else (obd (f_X1_moveHand F p0) fun x18 => if v5 = 0 then (if v8 = 0 then (some x18) else (obd (f_X1_pushDeckB x18 p0 v8) fun x21 => some x21)) else (obd (f_X1_pushDeck x18 p0 v5) fun x22 => if v8 = 0 then (some x22) else (obd (f_X1_pushDeckB x22 p0 v8) fun x24 => some x24)))) else (obd (f_X1_moveHand F p0) fun x10 => if v5 = 0 then (if v8 = 0 then (some x10) else (obd (f_X1_pushDeckB x10 p0 v8) fun x13 => some x13)) else (obd (f_X1_pushDeck x10 p0 v5) fun x14 => if v8 = 0 then (some x14) else (obd (f_X1_pushDeckB x14 p0 v8) fun x16 => some x16))))
theorem pc_X1_setRod : yX1_setRod.cls = RX1 ∧ yX1_setRod.cls ≠ "java/lang/invoke/MethodHandle" ∧ yX1_setRod.cls ≠ "java/lang/invoke/VarHandle" ∧ (parseMethodDescriptor yX1_setRod.desc).map (fun d => d.parameters.length) = some 2 := by decide +kernel
abbrev rm_X1_setRod : Room := { frames := 2, cells := 0, slots := 0, locals := 53 }
set_option maxHeartbeats 4000000 in
set_option maxRecDepth 100000 in
theorem c_X1_setRod (l : Launch) (dC : Nat → ClassId) (dI : Nat → Nat → Nat) (cI cF cJ cD : ClassId) (q0 q1 q2 q3 q4 q5 q6 q7 q8 : Nat) (F : FR) (p0 : Int32) (p1 : Int32) (res : (FR)) (hf : f_X1_setRod F p0 p1 = some res) (sz : Nat) : Met l yX1_setRod (ws_ yX1_setRod cX1_setRod 8 none) rm_X1_setRod (sbPre (dC, dI) (TY cI cF cJ cD) (wFR cI cF cJ q0 q1 q2 q3 q4 q5 q6 q7 q8 F) E0 sz [.ref q0, .int p0, .int p1]) (va_Qv (fun (_ : Unit) => True) (sbEnd (dC, dI) (fun _ => wFR cI cF cJ q0 q1 q2 q3 q4 q5 q6 q7 q8 res) (va_A (wFR cI cF cJ q0 q1 q2 q3 q4 q5 q6 q7 q8 F) sz)) (va_A (wFR cI cF cJ q0 q1 q2 q3 q4 q5 q6 q7 q8 F) sz)) 0 0 (va_A (wFR cI cF cJ q0 q1 q2 q3 q4 q5 q6 q7 q8 F) sz) := by
  refine Met.ofW (cc := cX1_setRod) (maxL := 8) (ret := none) (by decide) rfl ?_
  intro p e s m args below meth c s₁ B hml hv
  obtain ⟨rfl, hsz, hP, hK, hD0, hE⟩ := hv
  have hx := B.exec
  have hb := B.bytes
  have hr := B.returns
  have hts0 := atoms_spec (ws := ws_ yX1_setRod cX1_setRod 8 none) B.pre
  have hts := fun (w : Cond) (h : w ∈ LW) => hts0 w (List.mem_cons_of_mem _ h)
  have hown : s.vm.findClass RX1 = some m.cls := findClass_of_methodNamed B.named
  have hlocks := B.notSynchronized
  subst hsz
  have hD := hD0.self (sz := s.heap.size)
  generalize hAe : va_A (wFR cI cF cJ q0 q1 q2 q3 q4 q5 q6 q7 q8 F) s.heap.size = A at hD ⊢
  have hA : ∀ q : Nat, s.heap.size ≤ q → A q := fun q h => by rw [← hAe]; exact Or.inr h
  have hS : va_S A s.heap s.heap [] := va_S.rf
  have hkc := Nat.zero_le rm_X1_setRod.cells
  have hks := Nat.zero_le rm_X1_setRod.slots
  have hl := lv_entry ([.ref q0, .int p0, .int p1]) (n := 8) (Nat.le_of_ble_eq_true rfl)
  rw [lg_entry_eq]
  generalize (lg_sl ([.ref q0, .int p0, .int p1]) ++ List.replicate (8 - (lg_sl ([.ref q0, .int p0, .int p1])).length) Slot.unset).toArray = ls at hl ⊢
  have hl : lv_has ls 8 [(0, .ref q0), (1, .int p0), (2, .int p1)] := hl
  rw [f_X1_setRod] at hf
  refine lv_aload_n hx hb dX1_setRod_0 rfl (lv_at hl 0 rfl) ?_
  refine va_get (D := (dC, dI)) (ci := 1) (v := .ref q1) (C := RX1) (T := TX1) (N := 13) hx hb hts iX1 hown hK hP 0 rfl rfl 2 (by decide) (hts _ q30) (fun _ h9 => h9) rfl dX1_setRod_1 ?_
  refine lv_iload_n hx hb dX1_setRod_4 rfl (lv_at hl 1 rfl) ?_
  obtain ⟨x1, hx1, hf⟩ := obd_e hf
  refine sb_Vi (As := [.int p0]) (rest := []) ⟨hx, hb, hml, hown, hts⟩ (fun sz => c_X0_countAt l dC dI cI cF cJ cD q1 q2 q3 q4 (fAb F) p0  x1 hx1 sz) (cwV 1 hts (g_V q49 q18 q19 q15 q9) rfl rfl rfl pc_X0_countAt ⟨Nat.le_of_ble_eq_true rfl, Nat.le_of_ble_eq_true rfl⟩) 0 0 rfl rfl hK hP hD hS hA [1, 2, 3, 4] [0, 5, 6, 7, 8] rfl rfl (by decide) (by decide) (by decide) (fun _ _ _ _ h => h) (fun _ _ _ => trivial) rfl rfl hl.1 (Nat.le_of_ble_eq_true rfl) dX1_setRod_5 ⟨hkc, hks⟩ (fun r9 u H locs hr9 hP hD hS => ?_)
  have hr9 := Eq.symm hr9
  subst hr9
  have hP : va_P (dC, dI) vwCl (wFR cI cF cJ q0 q1 q2 q3 q4 q5 q6 q7 q8 F) H := hP.sub [0, 5, 6, 7, 8, 1, 2, 3, 4] rfl
  have hD : va_D A (wFR cI cF cJ q0 q1 q2 q3 q4 q5 q6 q7 q8 F) := hD.sub [0, 5, 6, 7, 8, 1, 2, 3, 4] (by decide) rfl
  refine lv_istore_n (lv' := [(3, .int x1), (0, .ref q0), (1, .int p0), (2, .int p1)]) hx hb dX1_setRod_8 rfl hl (by decide) rfl (fun ls hl => ?_)
  refine lv_aload_n hx hb dX1_setRod_9 rfl (lv_at hl 1 rfl) ?_
  refine va_get (D := (dC, dI)) (ci := 1) (v := .ref q5) (C := RX1) (T := TX1) (N := 13) hx hb hts iX1 hown hK hP 0 rfl rfl 3 (by decide) (hts _ q31) (fun _ h9 => h9) rfl dX1_setRod_10 ?_
  refine lv_iload_n hx hb dX1_setRod_13 rfl (lv_at hl 2 rfl) ?_
  obtain ⟨x2, hx2, hf⟩ := obd_e hf
  refine sb_Vi (As := [.int p0]) (rest := []) ⟨hx, hb, hml, hown, hts⟩ (fun sz => c_X0_countAt l dC dI cI cF cJ cD q5 q6 q7 q8 (fBe F) p0  x2 hx2 sz) (cwV 1 hts (g_V q49 q18 q19 q15 q9) rfl rfl rfl pc_X0_countAt ⟨Nat.le_of_ble_eq_true rfl, Nat.le_of_ble_eq_true rfl⟩) 0 0 rfl rfl hK hP hD hS hA [5, 6, 7, 8] [0, 1, 2, 3, 4] rfl rfl (by decide) (by decide) (by decide) (fun _ _ _ _ h => h) (fun _ _ _ => trivial) rfl rfl hl.1 (Nat.le_of_ble_eq_true rfl) dX1_setRod_14 ⟨hkc, hks⟩ (fun r9 u H locs hr9 hP hD hS => ?_)
  have hr9 := Eq.symm hr9
  subst hr9
  have hP : va_P (dC, dI) vwCl (wFR cI cF cJ q0 q1 q2 q3 q4 q5 q6 q7 q8 F) H := hP
  have hD : va_D A (wFR cI cF cJ q0 q1 q2 q3 q4 q5 q6 q7 q8 F) := hD
  refine lv_istore (lv' := [(4, .int x2), (3, .int x1), (0, .ref q0), (1, .int p0), (2, .int p1)]) hx hb dX1_setRod_17 hl (by decide) rfl (fun ls hl => ?_)
  refine lv_aload_n hx hb dX1_setRod_19 rfl (lv_at hl 2 rfl) ?_
  refine lv_iload_n hx hb dX1_setRod_20 rfl (lv_at hl 4 rfl) ?_
  refine lv_iload_n hx hb dX1_setRod_21 rfl (lv_at hl 1 rfl) ?_
  refine lv_iload hx hb dX1_setRod_22 (lv_at hl 0 rfl) ?_
  obtain ⟨x3, hx3, hf⟩ := obd_e hf
  refine sb_Vi (As := [.int p1, .int x1, .int x2]) (rest := []) ⟨hx, hb, hml, hown, hts⟩ (fun sz => c_X1_bestUp l dC dI cI cF cJ cD q0 q1 q2 q3 q4 q5 q6 q7 q8 F p1 x1 x2  x3 hx3 sz) (cwV 3 hts (g_V q70 q71 q72 q56 q69) rfl rfl rfl pc_X1_bestUp ⟨Nat.le_of_ble_eq_true rfl, Nat.le_of_ble_eq_true rfl⟩) 0 1 rfl rfl hK hP hD hS hA [0, 1, 2, 3, 4, 5, 6, 7, 8] [] rfl rfl (by decide) (by decide) (by decide) (fun _ _ _ _ h => h) (fun _ _ _ => trivial) rfl rfl hl.1 (Nat.le_of_ble_eq_true rfl) dX1_setRod_24 ⟨hkc, hks⟩ (fun r9 u H locs hr9 hP hD hS => ?_)
  have hr9 := Eq.symm hr9
  subst hr9
  have hP : va_P (dC, dI) vwCl (wFR cI cF cJ q0 q1 q2 q3 q4 q5 q6 q7 q8 F) H := hP
  have hD : va_D A (wFR cI cF cJ q0 q1 q2 q3 q4 q5 q6 q7 q8 F) := hD
  refine lv_istore (lv' := [(5, .int x3), (4, .int x2), (3, .int x1), (0, .ref q0), (1, .int p0), (2, .int p1)]) hx hb dX1_setRod_27 hl (by decide) rfl (fun ls hl => ?_)
  refine lv_iload hx hb dX1_setRod_29 (lv_at hl 0 rfl) ?_
  refine lv_iconst (v := (-1)) hx hb dX1_setRod_31 (by decide) ?_
  refine lv_icmp_ne (tgt := 36) hx hb dX1_setRod_32 (by decide) (fun c4 => ?_) (fun c4 => ?_)
  · have hf := ite_f hf c4
    refine lv_iload hx hb dX1_setRod_36 (lv_at hl 0 rfl) ?_
    refine lv_iload_n hx hb dX1_setRod_38 rfl (lv_at hl 2 rfl) ?_
    refine lv_isub hx hb dX1_setRod_39 ?_
    refine lv_topi (fun v5 ev5 => ?_)
    have hf := bnd_all hf v5 ev5
    refine lv_istore (lv' := [(6, .int v5), (5, .int x3), (4, .int x2), (3, .int x1), (0, .ref q0), (1, .int p0), (2, .int p1)]) hx hb dX1_setRod_40 hl (by decide) rfl (fun ls hl => ?_)
    refine lv_iload_n hx hb dX1_setRod_42 rfl (lv_at hl 6 rfl) ?_
    refine lv_iconst (v := 5) hx hb dX1_setRod_43 (by decide) ?_
    refine lv_iload hx hb dX1_setRod_44 (lv_at hl 1 rfl) ?_
    refine lv_imul hx hb dX1_setRod_46 ?_
    refine lv_topi (fun v6 ev6 => ?_)
    have hf := bnd_all hf v6 ev6
    refine lv_isub hx hb dX1_setRod_47 ?_
    refine lv_topi (fun v7 ev7 => ?_)
    have hf := bnd_all hf v7 ev7
    refine lv_iload hx hb dX1_setRod_48 (lv_at hl 2 rfl) ?_
    refine lv_isub hx hb dX1_setRod_50 ?_
    refine lv_topi (fun v8 ev8 => ?_)
    have hf := bnd_all hf v8 ev8
    refine lv_istore (lv' := [(7, .int v8), (6, .int v5), (5, .int x3), (4, .int x2), (3, .int x1), (0, .ref q0), (1, .int p0), (2, .int p1)]) hx hb dX1_setRod_51 hl (by decide) rfl (fun ls hl => ?_)
    refine lv_iload hx hb dX1_setRod_53 (lv_at hl 1 rfl) ?_
    refine lv_if_ne (tgt := 64) hx hb dX1_setRod_55 (by decide) (fun c9 => ?_) (fun c9 => ?_)
    · have hf := ite_f hf c9
      refine lv_aload_n hx hb dX1_setRod_64 rfl (lv_at hl 5 rfl) ?_
      refine lv_iload_n hx hb dX1_setRod_65 rfl (lv_at hl 6 rfl) ?_
      obtain ⟨x10, hx10, hf⟩ := obd_e hf
      refine sb_Vv (As := [.int p0]) (rest := []) ⟨hx, hb, hml, hown, hts⟩ (fun sz => c_X1_moveHand l dC dI cI cF cJ cD q0 q1 q2 q3 q4 q5 q6 q7 q8 F p0  x10 hx10 sz) (cwV 1 hts (g_V q73 q74 q75 q56 q58) rfl rfl rfl pc_X1_moveHand ⟨Nat.le_of_ble_eq_true rfl, Nat.le_of_ble_eq_true rfl⟩) 0 1 rfl rfl hK hP hD hS hA [0, 1, 2, 3, 4, 5, 6, 7, 8] [] rfl rfl (by decide) (by decide) (by decide) (fun _ _ _ _ h => h) (fun _ _ _ => trivial) rfl rfl hl.1 (Nat.le_of_ble_eq_true rfl) dX1_setRod_66 ⟨hkc, hks⟩ (fun u H locs hr9 hP hD hS => ?_)
      have hP : va_P (dC, dI) vwCl (wFR cI cF cJ q0 q1 q2 q3 q4 q5 q6 q7 q8 x10) H := hP
      have hD : va_D A (wFR cI cF cJ q0 q1 q2 q3 q4 q5 q6 q7 q8 x10) := hD
      refine lv_iload hx hb dX1_setRod_69 (lv_at hl 1 rfl) ?_
      refine lv_if_eq (tgt := 85) hx hb dX1_setRod_71 (by decide) (fun c11 => ?_) (fun c11 => ?_)
      · have hf := ite_t hf c11
        refine lv_iload hx hb dX1_setRod_85 (lv_at hl 0 rfl) ?_
        refine lv_if_eq (tgt := 101) hx hb dX1_setRod_87 (by decide) (fun c12 => ?_) (fun c12 => ?_)
        · have hf := ite_t hf c12
          obtain rfl := Option.some.inj hf
          exact W.vret hx hb hr (fun t ht hW => ⟨⟨(), rfl, trivial, by rw [ht]; exact hP, hD⟩, hS.F ht⟩) hS.2.2 dX1_setRod_101
        · have hf := ite_f hf c12
          refine lv_aload_n hx hb dX1_setRod_90 rfl (lv_at hl 5 rfl) ?_
          refine lv_aload_n hx hb dX1_setRod_91 rfl (lv_at hl 5 rfl) ?_
          refine va_get (D := (dC, dI)) (ci := 1) (v := .ref q5) (C := RX1) (T := TX1) (N := 13) hx hb hts iX1 hown hK hP 0 rfl rfl 3 (by decide) (hts _ q31) (fun _ h9 => h9) rfl dX1_setRod_92 ?_
          refine lv_iload_n hx hb dX1_setRod_95 rfl (lv_at hl 6 rfl) ?_
          refine lv_iload hx hb dX1_setRod_96 (lv_at hl 0 rfl) ?_
          obtain ⟨x13, hx13, hf⟩ := obd_e hf
          refine sb_Vv (As := [.ref q5, .int p0, .int v8]) (rest := []) ⟨hx, hb, hml, hown, hts⟩ (fun sz => c_X1_pushDeckB l dC dI cI cF cJ cD q0 q1 q2 q3 q4 q5 q6 q7 q8 x10 p0 v8  x13 hx13 sz) (cwV 3 hts (g_V q76 q77 q78 q56 q64) rfl rfl rfl pc_X1_pushDeck ⟨Nat.le_of_ble_eq_true rfl, Nat.le_of_ble_eq_true rfl⟩) 0 1 rfl rfl hK hP hD hS hA [0, 1, 2, 3, 4, 5, 6, 7, 8] [] rfl rfl (by decide) (by decide) (by decide) (fun _ _ _ _ h => h) (fun _ _ _ => trivial) rfl rfl hl.1 (Nat.le_of_ble_eq_true rfl) dX1_setRod_98 ⟨hkc, hks⟩ (fun u H locs hr9 hP hD hS => ?_)
          have hP : va_P (dC, dI) vwCl (wFR cI cF cJ q0 q1 q2 q3 q4 q5 q6 q7 q8 x13) H := hP
          have hD : va_D A (wFR cI cF cJ q0 q1 q2 q3 q4 q5 q6 q7 q8 x13) := hD
          obtain rfl := Option.some.inj hf
          exact W.vret hx hb hr (fun t ht hW => ⟨⟨(), rfl, trivial, by rw [ht]; exact hP, hD⟩, hS.F ht⟩) hS.2.2 dX1_setRod_101
      · have hf := ite_f hf c11
        refine lv_aload_n hx hb dX1_setRod_74 rfl (lv_at hl 5 rfl) ?_
        refine lv_aload_n hx hb dX1_setRod_75 rfl (lv_at hl 5 rfl) ?_
        refine va_get (D := (dC, dI)) (ci := 1) (v := .ref q1) (C := RX1) (T := TX1) (N := 13) hx hb hts iX1 hown hK hP 0 rfl rfl 2 (by decide) (hts _ q30) (fun _ h9 => h9) rfl dX1_setRod_76 ?_
        refine lv_iload_n hx hb dX1_setRod_79 rfl (lv_at hl 6 rfl) ?_
        refine lv_iload hx hb dX1_setRod_80 (lv_at hl 1 rfl) ?_
        obtain ⟨x14, hx14, hf⟩ := obd_e hf
        refine sb_Vv (As := [.ref q1, .int p0, .int v5]) (rest := []) ⟨hx, hb, hml, hown, hts⟩ (fun sz => c_X1_pushDeck l dC dI cI cF cJ cD q0 q1 q2 q3 q4 q5 q6 q7 q8 x10 p0 v5  x14 hx14 sz) (cwV 3 hts (g_V q76 q77 q78 q56 q64) rfl rfl rfl pc_X1_pushDeck ⟨Nat.le_of_ble_eq_true rfl, Nat.le_of_ble_eq_true rfl⟩) 0 1 rfl rfl hK hP hD hS hA [0, 1, 2, 3, 4, 5, 6, 7, 8] [] rfl rfl (by decide) (by decide) (by decide) (fun _ _ _ _ h => h) (fun _ _ _ => trivial) rfl rfl hl.1 (Nat.le_of_ble_eq_true rfl) dX1_setRod_82 ⟨hkc, hks⟩ (fun u H locs hr9 hP hD hS => ?_)
        have hP : va_P (dC, dI) vwCl (wFR cI cF cJ q0 q1 q2 q3 q4 q5 q6 q7 q8 x14) H := hP
        have hD : va_D A (wFR cI cF cJ q0 q1 q2 q3 q4 q5 q6 q7 q8 x14) := hD
        refine lv_iload hx hb dX1_setRod_85 (lv_at hl 0 rfl) ?_
        refine lv_if_eq (tgt := 101) hx hb dX1_setRod_87 (by decide) (fun c15 => ?_) (fun c15 => ?_)
        · have hf := ite_t hf c15
          obtain rfl := Option.some.inj hf
          exact W.vret hx hb hr (fun t ht hW => ⟨⟨(), rfl, trivial, by rw [ht]; exact hP, hD⟩, hS.F ht⟩) hS.2.2 dX1_setRod_101
        · have hf := ite_f hf c15
          refine lv_aload_n hx hb dX1_setRod_90 rfl (lv_at hl 5 rfl) ?_
          refine lv_aload_n hx hb dX1_setRod_91 rfl (lv_at hl 5 rfl) ?_
          refine va_get (D := (dC, dI)) (ci := 1) (v := .ref q5) (C := RX1) (T := TX1) (N := 13) hx hb hts iX1 hown hK hP 0 rfl rfl 3 (by decide) (hts _ q31) (fun _ h9 => h9) rfl dX1_setRod_92 ?_
          refine lv_iload_n hx hb dX1_setRod_95 rfl (lv_at hl 6 rfl) ?_
          refine lv_iload hx hb dX1_setRod_96 (lv_at hl 0 rfl) ?_
          obtain ⟨x16, hx16, hf⟩ := obd_e hf
          refine sb_Vv (As := [.ref q5, .int p0, .int v8]) (rest := []) ⟨hx, hb, hml, hown, hts⟩ (fun sz => c_X1_pushDeckB l dC dI cI cF cJ cD q0 q1 q2 q3 q4 q5 q6 q7 q8 x14 p0 v8  x16 hx16 sz) (cwV 3 hts (g_V q76 q77 q78 q56 q64) rfl rfl rfl pc_X1_pushDeck ⟨Nat.le_of_ble_eq_true rfl, Nat.le_of_ble_eq_true rfl⟩) 0 1 rfl rfl hK hP hD hS hA [0, 1, 2, 3, 4, 5, 6, 7, 8] [] rfl rfl (by decide) (by decide) (by decide) (fun _ _ _ _ h => h) (fun _ _ _ => trivial) rfl rfl hl.1 (Nat.le_of_ble_eq_true rfl) dX1_setRod_98 ⟨hkc, hks⟩ (fun u H locs hr9 hP hD hS => ?_)
          have hP : va_P (dC, dI) vwCl (wFR cI cF cJ q0 q1 q2 q3 q4 q5 q6 q7 q8 x16) H := hP
          have hD : va_D A (wFR cI cF cJ q0 q1 q2 q3 q4 q5 q6 q7 q8 x16) := hD
          obtain rfl := Option.some.inj hf
          exact W.vret hx hb hr (fun t ht hW => ⟨⟨(), rfl, trivial, by rw [ht]; exact hP, hD⟩, hS.F ht⟩) hS.2.2 dX1_setRod_101
    · have hf := ite_t hf c9
      refine lv_iload hx hb dX1_setRod_58 (lv_at hl 0 rfl) ?_
      refine lv_if_ne (tgt := 64) hx hb dX1_setRod_60 (by decide) (fun c17 => ?_) (fun c17 => ?_)
      · have hf := ite_f hf c17
        refine lv_aload_n hx hb dX1_setRod_64 rfl (lv_at hl 5 rfl) ?_
        refine lv_iload_n hx hb dX1_setRod_65 rfl (lv_at hl 6 rfl) ?_
        obtain ⟨x18, hx18, hf⟩ := obd_e hf
        refine sb_Vv (As := [.int p0]) (rest := []) ⟨hx, hb, hml, hown, hts⟩ (fun sz => c_X1_moveHand l dC dI cI cF cJ cD q0 q1 q2 q3 q4 q5 q6 q7 q8 F p0  x18 hx18 sz) (cwV 1 hts (g_V q73 q74 q75 q56 q58) rfl rfl rfl pc_X1_moveHand ⟨Nat.le_of_ble_eq_true rfl, Nat.le_of_ble_eq_true rfl⟩) 0 1 rfl rfl hK hP hD hS hA [0, 1, 2, 3, 4, 5, 6, 7, 8] [] rfl rfl (by decide) (by decide) (by decide) (fun _ _ _ _ h => h) (fun _ _ _ => trivial) rfl rfl hl.1 (Nat.le_of_ble_eq_true rfl) dX1_setRod_66 ⟨hkc, hks⟩ (fun u H locs hr9 hP hD hS => ?_)
        have hP : va_P (dC, dI) vwCl (wFR cI cF cJ q0 q1 q2 q3 q4 q5 q6 q7 q8 x18) H := hP
        have hD : va_D A (wFR cI cF cJ q0 q1 q2 q3 q4 q5 q6 q7 q8 x18) := hD
        refine lv_iload hx hb dX1_setRod_69 (lv_at hl 1 rfl) ?_
        refine lv_if_eq (tgt := 85) hx hb dX1_setRod_71 (by decide) (fun c19 => ?_) (fun c19 => ?_)
        · have hf := ite_t hf c19
          refine lv_iload hx hb dX1_setRod_85 (lv_at hl 0 rfl) ?_
          refine lv_if_eq (tgt := 101) hx hb dX1_setRod_87 (by decide) (fun c20 => ?_) (fun c20 => ?_)
          · have hf := ite_t hf c20
            obtain rfl := Option.some.inj hf
            exact W.vret hx hb hr (fun t ht hW => ⟨⟨(), rfl, trivial, by rw [ht]; exact hP, hD⟩, hS.F ht⟩) hS.2.2 dX1_setRod_101
          · have hf := ite_f hf c20
            refine lv_aload_n hx hb dX1_setRod_90 rfl (lv_at hl 5 rfl) ?_
            refine lv_aload_n hx hb dX1_setRod_91 rfl (lv_at hl 5 rfl) ?_
            refine va_get (D := (dC, dI)) (ci := 1) (v := .ref q5) (C := RX1) (T := TX1) (N := 13) hx hb hts iX1 hown hK hP 0 rfl rfl 3 (by decide) (hts _ q31) (fun _ h9 => h9) rfl dX1_setRod_92 ?_
            refine lv_iload_n hx hb dX1_setRod_95 rfl (lv_at hl 6 rfl) ?_
            refine lv_iload hx hb dX1_setRod_96 (lv_at hl 0 rfl) ?_
            obtain ⟨x21, hx21, hf⟩ := obd_e hf
            refine sb_Vv (As := [.ref q5, .int p0, .int v8]) (rest := []) ⟨hx, hb, hml, hown, hts⟩ (fun sz => c_X1_pushDeckB l dC dI cI cF cJ cD q0 q1 q2 q3 q4 q5 q6 q7 q8 x18 p0 v8  x21 hx21 sz) (cwV 3 hts (g_V q76 q77 q78 q56 q64) rfl rfl rfl pc_X1_pushDeck ⟨Nat.le_of_ble_eq_true rfl, Nat.le_of_ble_eq_true rfl⟩) 0 1 rfl rfl hK hP hD hS hA [0, 1, 2, 3, 4, 5, 6, 7, 8] [] rfl rfl (by decide) (by decide) (by decide) (fun _ _ _ _ h => h) (fun _ _ _ => trivial) rfl rfl hl.1 (Nat.le_of_ble_eq_true rfl) dX1_setRod_98 ⟨hkc, hks⟩ (fun u H locs hr9 hP hD hS => ?_)
            have hP : va_P (dC, dI) vwCl (wFR cI cF cJ q0 q1 q2 q3 q4 q5 q6 q7 q8 x21) H := hP
            have hD : va_D A (wFR cI cF cJ q0 q1 q2 q3 q4 q5 q6 q7 q8 x21) := hD
            obtain rfl := Option.some.inj hf
            exact W.vret hx hb hr (fun t ht hW => ⟨⟨(), rfl, trivial, by rw [ht]; exact hP, hD⟩, hS.F ht⟩) hS.2.2 dX1_setRod_101
        · have hf := ite_f hf c19
          refine lv_aload_n hx hb dX1_setRod_74 rfl (lv_at hl 5 rfl) ?_
          refine lv_aload_n hx hb dX1_setRod_75 rfl (lv_at hl 5 rfl) ?_
          refine va_get (D := (dC, dI)) (ci := 1) (v := .ref q1) (C := RX1) (T := TX1) (N := 13) hx hb hts iX1 hown hK hP 0 rfl rfl 2 (by decide) (hts _ q30) (fun _ h9 => h9) rfl dX1_setRod_76 ?_
          refine lv_iload_n hx hb dX1_setRod_79 rfl (lv_at hl 6 rfl) ?_
          refine lv_iload hx hb dX1_setRod_80 (lv_at hl 1 rfl) ?_
          obtain ⟨x22, hx22, hf⟩ := obd_e hf
          refine sb_Vv (As := [.ref q1, .int p0, .int v5]) (rest := []) ⟨hx, hb, hml, hown, hts⟩ (fun sz => c_X1_pushDeck l dC dI cI cF cJ cD q0 q1 q2 q3 q4 q5 q6 q7 q8 x18 p0 v5  x22 hx22 sz) (cwV 3 hts (g_V q76 q77 q78 q56 q64) rfl rfl rfl pc_X1_pushDeck ⟨Nat.le_of_ble_eq_true rfl, Nat.le_of_ble_eq_true rfl⟩) 0 1 rfl rfl hK hP hD hS hA [0, 1, 2, 3, 4, 5, 6, 7, 8] [] rfl rfl (by decide) (by decide) (by decide) (fun _ _ _ _ h => h) (fun _ _ _ => trivial) rfl rfl hl.1 (Nat.le_of_ble_eq_true rfl) dX1_setRod_82 ⟨hkc, hks⟩ (fun u H locs hr9 hP hD hS => ?_)
          have hP : va_P (dC, dI) vwCl (wFR cI cF cJ q0 q1 q2 q3 q4 q5 q6 q7 q8 x22) H := hP
          have hD : va_D A (wFR cI cF cJ q0 q1 q2 q3 q4 q5 q6 q7 q8 x22) := hD
          refine lv_iload hx hb dX1_setRod_85 (lv_at hl 0 rfl) ?_
          refine lv_if_eq (tgt := 101) hx hb dX1_setRod_87 (by decide) (fun c23 => ?_) (fun c23 => ?_)
          · have hf := ite_t hf c23
            obtain rfl := Option.some.inj hf
            exact W.vret hx hb hr (fun t ht hW => ⟨⟨(), rfl, trivial, by rw [ht]; exact hP, hD⟩, hS.F ht⟩) hS.2.2 dX1_setRod_101
          · have hf := ite_f hf c23
            refine lv_aload_n hx hb dX1_setRod_90 rfl (lv_at hl 5 rfl) ?_
            refine lv_aload_n hx hb dX1_setRod_91 rfl (lv_at hl 5 rfl) ?_
            refine va_get (D := (dC, dI)) (ci := 1) (v := .ref q5) (C := RX1) (T := TX1) (N := 13) hx hb hts iX1 hown hK hP 0 rfl rfl 3 (by decide) (hts _ q31) (fun _ h9 => h9) rfl dX1_setRod_92 ?_
            refine lv_iload_n hx hb dX1_setRod_95 rfl (lv_at hl 6 rfl) ?_
            refine lv_iload hx hb dX1_setRod_96 (lv_at hl 0 rfl) ?_
            obtain ⟨x24, hx24, hf⟩ := obd_e hf
            refine sb_Vv (As := [.ref q5, .int p0, .int v8]) (rest := []) ⟨hx, hb, hml, hown, hts⟩ (fun sz => c_X1_pushDeckB l dC dI cI cF cJ cD q0 q1 q2 q3 q4 q5 q6 q7 q8 x22 p0 v8  x24 hx24 sz) (cwV 3 hts (g_V q76 q77 q78 q56 q64) rfl rfl rfl pc_X1_pushDeck ⟨Nat.le_of_ble_eq_true rfl, Nat.le_of_ble_eq_true rfl⟩) 0 1 rfl rfl hK hP hD hS hA [0, 1, 2, 3, 4, 5, 6, 7, 8] [] rfl rfl (by decide) (by decide) (by decide) (fun _ _ _ _ h => h) (fun _ _ _ => trivial) rfl rfl hl.1 (Nat.le_of_ble_eq_true rfl) dX1_setRod_98 ⟨hkc, hks⟩ (fun u H locs hr9 hP hD hS => ?_)
            have hP : va_P (dC, dI) vwCl (wFR cI cF cJ q0 q1 q2 q3 q4 q5 q6 q7 q8 x24) H := hP
            have hD : va_D A (wFR cI cF cJ q0 q1 q2 q3 q4 q5 q6 q7 q8 x24) := hD
            obtain rfl := Option.some.inj hf
            exact W.vret hx hb hr (fun t ht hW => ⟨⟨(), rfl, trivial, by rw [ht]; exact hP, hD⟩, hS.F ht⟩) hS.2.2 dX1_setRod_101
      · have hf := ite_t hf c17
        obtain rfl := Option.some.inj hf
        exact W.vret hx hb hr (fun t ht hW => ⟨⟨(), rfl, trivial, by rw [ht]; exact hP, hD⟩, hS.F ht⟩) hS.2.2 dX1_setRod_63
  · have hf := ite_t hf c4
    obtain rfl := Option.some.inj hf
    exact W.vret hx hb hr (fun t ht hW => ⟨⟨(), rfl, trivial, by rw [ht]; exact hP, hD⟩, hS.F ht⟩) hS.2.2 dX1_setRod_35
noncomputable def l_X1_digitAt_5 (c2 : Int32) (k : Int64 → Int32 → Option (Int32)) : Nat → Int64 → Int32 → Option (Int32)
  | 0, _, _ => none
  | n + 1, a1, a2 => if c2 ≤ a2 then (k a1 a2) else (bnd (a1 / 10) fun (v5 : Int64) => bnd (a2 + 1) fun (v6 : Int32) => l_X1_digitAt_5 c2 k n v5 v6)
noncomputable def f_X1_digitAt (p0 : Int64) (p1 : Int32) : Option (Int32) := l_X1_digitAt_5 p1 (fun (a15 : Int64) (a16 : Int32) => bnd (a15 - a15 / 10 * 10) fun (v18 : Int64) => bnd (v18.toInt32) fun (v19 : Int32) => some v19) 16 p0 0
theorem ps_X1_digitAt : yX1_digitAt.cls ≠ "java/lang/invoke/MethodHandle" ∧ yX1_digitAt.cls ≠ "java/lang/invoke/VarHandle" ∧ (parseMethodDescriptor yX1_digitAt.desc).map (fun d => d.parameters.length) = some 2 := by decide +kernel
abbrev rm_X1_digitAt : Room := { frames := 1, cells := 0, slots := 0, locals := 21 }
set_option maxHeartbeats 4000000 in
set_option maxRecDepth 100000 in
theorem c_X1_digitAt (l : Launch) (dC : Nat → ClassId) (dI : Nat → Nat → Nat) (cI cF cJ cD : ClassId) (p0 : Int64) (p1 : Int32) (res : (Int32)) (hf : f_X1_digitAt p0 p1 = some res) (sz : Nat) : Met l yX1_digitAt (ws_ yX1_digitAt cX1_digitAt 6 (some .int)) rm_X1_digitAt (sbPre (dC, dI) (TY cI cF cJ cD) (([] : va_W)) E0 sz [.long p0, .int p1]) (va_Qi (fun (r : Int32) (_ : Unit) => r = res) (sbEnd (dC, dI) (fun _ => ([] : va_W)) (va_A (([] : va_W)) sz)) (va_A (([] : va_W)) sz)) 0 0 (va_A (([] : va_W)) sz) := by
  refine Met.ofW (cc := cX1_digitAt) (maxL := 6) (ret := (some .int)) (by decide) rfl ?_
  intro p e s m args below meth c s₁ B hml hv
  obtain ⟨rfl, hsz, hP, hK, hD0, hE⟩ := hv
  have hx := B.exec
  have hb := B.bytes
  have hr := B.returns
  have hts0 := atoms_spec (ws := ws_ yX1_digitAt cX1_digitAt 6 (some .int)) B.pre
  have hts := fun (w : Cond) (h : w ∈ LW) => hts0 w (List.mem_cons_of_mem _ h)
  have hown : s.vm.findClass RX1 = some m.cls := findClass_of_methodNamed B.named
  have hlocks := B.notSynchronized
  subst hsz
  have hD := hD0.self (sz := s.heap.size)
  generalize hAe : va_A (([] : va_W)) s.heap.size = A at hD ⊢
  have hA : ∀ q : Nat, s.heap.size ≤ q → A q := fun q h => by rw [← hAe]; exact Or.inr h
  have hS : va_S A s.heap s.heap [] := va_S.rf
  have hkc := Nat.zero_le rm_X1_digitAt.cells
  have hks := Nat.zero_le rm_X1_digitAt.slots
  have hl := lv_entry ([.long p0, .int p1]) (n := 6) (Nat.le_of_ble_eq_true rfl)
  rw [lg_entry_eq]
  generalize (lg_sl ([.long p0, .int p1]) ++ List.replicate (6 - (lg_sl ([.long p0, .int p1])).length) Slot.unset).toArray = ls at hl ⊢
  have hl : lv_has ls 6 [(0, .long p0), (2, .int p1)] := hl
  rw [f_X1_digitAt] at hf
  refine lv_lload_n hx hb dX1_digitAt_0 rfl (lv_at hl 0 rfl) ?_
  refine lv_lstore_n (lv' := [(3, .long p0), (0, .long p0), (2, .int p1)]) hx hb dX1_digitAt_1 rfl hl (by decide) rfl (fun ls hl => ?_)
  refine lv_iconst (v := 0) hx hb dX1_digitAt_2 (by decide) ?_
  refine lv_istore (lv' := [(5, .int 0), (3, .long p0), (0, .long p0), (2, .int p1)]) hx hb dX1_digitAt_3 hl (by decide) rfl (fun ls hl => ?_)
  have L5 : ∀ (k : Int64 → Int32 → Option (Int32)), (∀ (a7 : Int64) (a8 : Int32) (H : Heap) (locs : List Loc) (ls : Array Slot), va_P (dC, dI) vwCl (([] : va_W)) H → va_D A (([] : va_W)) → va_S A s.heap H locs → lv_has ls 6 [(3, .long a7)] → k a7 a8 = some res → W p l e (headSpec (ws_ yX1_digitAt cX1_digitAt 6 (some .int)) rm_X1_digitAt).room s m ([.long p0, .int p1].toArray) below meth c H locs 0 0 (MQ below (va_Qi (fun (r : Int32) (_ : Unit) => r = res) (sbEnd (dC, dI) (fun _ => ([] : va_W)) (A)) (A)) ([.long p0, .int p1].toArray) s 0 0 A) (F0 m 23 ls [])) → ∀ (n : Nat) (a7 : Int64) (a8 : Int32) (H : Heap) (locs : List Loc) (ls : Array Slot), va_P (dC, dI) vwCl (([] : va_W)) H → va_D A (([] : va_W)) → va_S A s.heap H locs → lv_has ls 6 [(3, .long a7), (5, .int a8), (2, .int p1)] → l_X1_digitAt_5 p1 k n a7 a8 = some res → W p l e (headSpec (ws_ yX1_digitAt cX1_digitAt 6 (some .int)) rm_X1_digitAt).room s m ([.long p0, .int p1].toArray) below meth c H locs 0 0 (MQ below (va_Qi (fun (r : Int32) (_ : Unit) => r = res) (sbEnd (dC, dI) (fun _ => ([] : va_W)) (A)) (A)) ([.long p0, .int p1].toArray) s 0 0 A) (F0 m 5 ls []) := by
    intro k hk n
    induction n with
    | zero =>
      intro a9 a10 H locs ls hP hD hS hl hf
      rw [l_X1_digitAt_5] at hf
      cases hf
    | succ n ih =>
      intro a9 a10 H locs ls hP hD hS hl hf
      rw [l_X1_digitAt_5] at hf
      refine lv_iload hx hb dX1_digitAt_5 (lv_at hl 1 rfl) ?_
      refine lv_iload_n hx hb dX1_digitAt_7 rfl (lv_at hl 2 rfl) ?_
      refine lv_icmp_ge (tgt := 23) hx hb dX1_digitAt_8 (by decide) (fun c11 => ?_) (fun c11 => ?_)
      · have hf := ite_t hf c11
        exact hk a9 a10 _ _ _ hP hD hS (lv_sub hl [0] rfl) hf
      · have hf := ite_f hf c11
        refine lv_lload_n hx hb dX1_digitAt_11 rfl (lv_at hl 0 rfl) ?_
        refine lv_ldc2 hx hb hown (hts _ q47) dX1_digitAt_12 ?_
        refine lv_ldiv hx hb dX1_digitAt_15 (by decide) ?_
        refine lv_topl (fun v13 ev13 => ?_)
        have hf := bnd_all hf v13 ev13
        refine lv_lstore_n (lv' := [(3, .long v13), (5, .int a10), (2, .int p1)]) hx hb dX1_digitAt_16 rfl hl (by decide) rfl (fun ls hl => ?_)
        obtain ⟨v14, ev14⟩ : ∃ y : Int32, y = a10 + 1 := ⟨_, rfl⟩
        have hf := bnd_all hf v14 ev14
        refine lv_iinc (v := v14) (lv' := [(5, .int v14), (3, .long v13), (2, .int p1)]) hx hb dX1_digitAt_17 hl (k := 1) rfl (by rw [ev14]; rfl) (by decide) rfl (fun ls hl => ?_)
        refine lv_goto (tgt := 5) hx hb dX1_digitAt_20 (by decide) ?_
        exact ih v13 v14 _ _ _ hP hD hS (lv_sub hl [1, 0, 2] rfl) hf
  refine L5 _ (fun a15 a16 H locs ls hP hD hS hl hf => ?_) 16 p0 0 _ _ _ hP hD hS (lv_sub hl [1, 0, 3] rfl) hf
  refine lv_lload_n hx hb dX1_digitAt_23 rfl (lv_at hl 0 rfl) ?_
  refine lv_ldc2 hx hb hown (hts _ q47) dX1_digitAt_24 ?_
  refine lv_lrem hx hb dX1_digitAt_27 (by decide) ?_
  refine lv_topl (fun v18 ev18 => ?_)
  have hf := bnd_all hf v18 ev18
  refine lv_l2i hx hb dX1_digitAt_28 rfl ?_
  refine lv_topi (fun v19 ev19 => ?_)
  have hf := bnd_all hf v19 ev19
  obtain rfl := Option.some.inj hf
  exact W.iret (v := v19) hx hb hr (fun t ht hW => ⟨⟨_, (), rfl, rfl, by rw [ht]; exact hP, hD⟩, hS.F ht⟩) hS.2.2 dX1_digitAt_29
noncomputable def l_X1_setRods_7 (c1 : Int64) (k : Int32 → FR → Option (FR)) : Nat → Int32 → FR → Option (FR)
  | 0, _, _ => none
  | n + 1, a2, F3 => if a2 < 0 then (k a2 F3) else (obd (f_X1_digitAt c1 a2) fun x5 => obd (f_X1_setRod F3 a2 x5) fun x6 => bnd (a2 + (-1)) fun (v7 : Int32) => l_X1_setRods_7 c1 k n v7 x6)
noncomputable def f_X1_setRods (F : FR) (p0 : Int64) : Option (FR) := bnd ((fRd F) - 1) fun (v1 : Int32) => l_X1_setRods_7 p0 (fun (a16 : Int32) (F17 : FR) => some F17) 16 v1 F
theorem pc_X1_setRods : yX1_setRods.cls = RX1 ∧ yX1_setRods.cls ≠ "java/lang/invoke/MethodHandle" ∧ yX1_setRods.cls ≠ "java/lang/invoke/VarHandle" ∧ (parseMethodDescriptor yX1_setRods.desc).map (fun d => d.parameters.length) = some 1 := by decide +kernel
abbrev rm_X1_setRods : Room := { frames := 3, cells := 0, slots := 0, locals := 80 }
set_option maxHeartbeats 4000000 in
set_option maxRecDepth 100000 in
theorem c_X1_setRods (l : Launch) (dC : Nat → ClassId) (dI : Nat → Nat → Nat) (cI cF cJ cD : ClassId) (q0 q1 q2 q3 q4 q5 q6 q7 q8 : Nat) (F : FR) (p0 : Int64) (res : (FR)) (hf : f_X1_setRods F p0 = some res) (sz : Nat) : Met l yX1_setRods (ws_ yX1_setRods cX1_setRods 4 none) rm_X1_setRods (sbPre (dC, dI) (TY cI cF cJ cD) (wFR cI cF cJ q0 q1 q2 q3 q4 q5 q6 q7 q8 F) E0 sz [.ref q0, .long p0]) (va_Qv (fun (_ : Unit) => True) (sbEnd (dC, dI) (fun _ => wFR cI cF cJ q0 q1 q2 q3 q4 q5 q6 q7 q8 res) (va_A (wFR cI cF cJ q0 q1 q2 q3 q4 q5 q6 q7 q8 F) sz)) (va_A (wFR cI cF cJ q0 q1 q2 q3 q4 q5 q6 q7 q8 F) sz)) 0 0 (va_A (wFR cI cF cJ q0 q1 q2 q3 q4 q5 q6 q7 q8 F) sz) := by
  refine Met.ofW (cc := cX1_setRods) (maxL := 4) (ret := none) (by decide) rfl ?_
  intro p e s m args below meth c s₁ B hml hv
  obtain ⟨rfl, hsz, hP, hK, hD0, hE⟩ := hv
  have hx := B.exec
  have hb := B.bytes
  have hr := B.returns
  have hts0 := atoms_spec (ws := ws_ yX1_setRods cX1_setRods 4 none) B.pre
  have hts := fun (w : Cond) (h : w ∈ LW) => hts0 w (List.mem_cons_of_mem _ h)
  have hown : s.vm.findClass RX1 = some m.cls := findClass_of_methodNamed B.named
  have hlocks := B.notSynchronized
  subst hsz
  have hD := hD0.self (sz := s.heap.size)
  generalize hAe : va_A (wFR cI cF cJ q0 q1 q2 q3 q4 q5 q6 q7 q8 F) s.heap.size = A at hD ⊢
  have hA : ∀ q : Nat, s.heap.size ≤ q → A q := fun q h => by rw [← hAe]; exact Or.inr h
  have hS : va_S A s.heap s.heap [] := va_S.rf
  have hkc := Nat.zero_le rm_X1_setRods.cells
  have hks := Nat.zero_le rm_X1_setRods.slots
  have hl := lv_entry ([.ref q0, .long p0]) (n := 4) (Nat.le_of_ble_eq_true rfl)
  rw [lg_entry_eq]
  generalize (lg_sl ([.ref q0, .long p0]) ++ List.replicate (4 - (lg_sl ([.ref q0, .long p0])).length) Slot.unset).toArray = ls at hl ⊢
  have hl : lv_has ls 4 [(0, .ref q0), (1, .long p0)] := hl
  rw [f_X1_setRods] at hf
  refine lv_aload_n hx hb dX1_setRods_0 rfl (lv_at hl 0 rfl) ?_
  refine va_get (D := (dC, dI)) (ci := 1) (v := .int (fRd F)) (C := RX1) (T := TX1) (N := 13) hx hb hts iX1 hown hK hP 0 rfl rfl 1 (by decide) (hts _ q27) (fun _ h9 => h9) rfl dX1_setRods_1 ?_
  refine lv_iconst (v := 1) hx hb dX1_setRods_4 (by decide) ?_
  refine lv_isub hx hb dX1_setRods_5 ?_
  refine lv_topi (fun v1 ev1 => ?_)
  have hf := bnd_all hf v1 ev1
  refine lv_istore_n (lv' := [(3, .int v1), (0, .ref q0), (1, .long p0)]) hx hb dX1_setRods_6 rfl hl (by decide) rfl (fun ls hl => ?_)
  have L7 : ∀ (k : Int32 → FR → Option (FR)), (∀ (a8 : Int32) (F9 : FR) (H : Heap) (locs : List Loc) (ls : Array Slot), va_P (dC, dI) vwCl (wFR cI cF cJ q0 q1 q2 q3 q4 q5 q6 q7 q8 F9) H → va_D A (wFR cI cF cJ q0 q1 q2 q3 q4 q5 q6 q7 q8 F9) → va_S A s.heap H locs → lv_has ls 4 [] → k a8 F9 = some res → W p l e (headSpec (ws_ yX1_setRods cX1_setRods 4 none) rm_X1_setRods).room s m ([.ref q0, .long p0].toArray) below meth c H locs 0 0 (MQ below (va_Qv (fun (_ : Unit) => True) (sbEnd (dC, dI) (fun _ => wFR cI cF cJ q0 q1 q2 q3 q4 q5 q6 q7 q8 res) (A)) (A)) ([.ref q0, .long p0].toArray) s 0 0 A) (F0 m 27 ls [])) → ∀ (n : Nat) (a8 : Int32) (F9 : FR) (H : Heap) (locs : List Loc) (ls : Array Slot), va_P (dC, dI) vwCl (wFR cI cF cJ q0 q1 q2 q3 q4 q5 q6 q7 q8 F9) H → va_D A (wFR cI cF cJ q0 q1 q2 q3 q4 q5 q6 q7 q8 F9) → va_S A s.heap H locs → lv_has ls 4 [(3, .int a8), (0, .ref q0), (1, .long p0)] → l_X1_setRods_7 p0 k n a8 F9 = some res → W p l e (headSpec (ws_ yX1_setRods cX1_setRods 4 none) rm_X1_setRods).room s m ([.ref q0, .long p0].toArray) below meth c H locs 0 0 (MQ below (va_Qv (fun (_ : Unit) => True) (sbEnd (dC, dI) (fun _ => wFR cI cF cJ q0 q1 q2 q3 q4 q5 q6 q7 q8 res) (A)) (A)) ([.ref q0, .long p0].toArray) s 0 0 A) (F0 m 7 ls []) := by
    intro k hk n
    induction n with
    | zero =>
      intro a10 F11 H locs ls hP hD hS hl hf
      rw [l_X1_setRods_7] at hf
      cases hf
    | succ n ih =>
      intro a10 F11 H locs ls hP hD hS hl hf
      rw [l_X1_setRods_7] at hf
      refine lv_iload_n hx hb dX1_setRods_7 rfl (lv_at hl 0 rfl) ?_
      refine lv_if_lt (tgt := 27) hx hb dX1_setRods_8 (by decide) (fun c12 => ?_) (fun c12 => ?_)
      · have hf := ite_t hf c12
        exact hk a10 F11 _ _ _ hP hD hS (lv_sub hl [] rfl) hf
      · have hf := ite_f hf c12
        refine lv_aload_n hx hb dX1_setRods_11 rfl (lv_at hl 1 rfl) ?_
        refine lv_iload_n hx hb dX1_setRods_12 rfl (lv_at hl 0 rfl) ?_
        refine lv_lload_n hx hb dX1_setRods_13 rfl (lv_at hl 2 rfl) ?_
        refine lv_iload_n hx hb dX1_setRods_14 rfl (lv_at hl 0 rfl) ?_
        obtain ⟨x13, hx13, hf⟩ := obd_e hf
        refine sb_Si (As := [.long p0, .int a10]) (rest := [.int a10, .ref q0]) ⟨hx, hb, hml, hown, hts⟩ (fun sz => c_X1_digitAt l dC dI cI cF cJ cD  p0 a10  x13 hx13 sz) (va_cwS 2 hts (g_S q81 q82 q56 q80) rfl rfl rfl ps_X1_digitAt ⟨Nat.le_of_ble_eq_true rfl, Nat.le_of_ble_eq_true rfl⟩)  hK hP hD hS hA [] [0, 1, 2, 3, 4, 5, 6, 7, 8] rfl rfl (by decide) (by decide) (by decide) (fun _ _ _ _ h => h) (fun _ _ _ => trivial) rfl rfl hl.1 (Nat.le_of_ble_eq_true rfl) dX1_setRods_15 ⟨hkc, hks⟩ (fun r9 u H locs hr9 hP hD hS => ?_)
        have hr9 := Eq.symm hr9
        subst hr9
        have hP : va_P (dC, dI) vwCl (wFR cI cF cJ q0 q1 q2 q3 q4 q5 q6 q7 q8 F11) H := hP
        have hD : va_D A (wFR cI cF cJ q0 q1 q2 q3 q4 q5 q6 q7 q8 F11) := hD
        obtain ⟨x14, hx14, hf⟩ := obd_e hf
        refine sb_Vv (As := [.int a10, .int x13]) (rest := []) ⟨hx, hb, hml, hown, hts⟩ (fun sz => c_X1_setRod l dC dI cI cF cJ cD q0 q1 q2 q3 q4 q5 q6 q7 q8 F11 a10 x13  x14 hx14 sz) (cwV 2 hts (g_V q83 q84 q85 q56 q79) rfl rfl rfl pc_X1_setRod ⟨Nat.le_of_ble_eq_true rfl, Nat.le_of_ble_eq_true rfl⟩) 0 1 rfl rfl hK hP hD hS hA [0, 1, 2, 3, 4, 5, 6, 7, 8] [] rfl rfl (by decide) (by decide) (by decide) (fun _ _ _ _ h => h) (fun _ _ _ => trivial) rfl rfl hl.1 (Nat.le_of_ble_eq_true rfl) dX1_setRods_18 ⟨hkc, hks⟩ (fun u H locs hr9 hP hD hS => ?_)
        have hP : va_P (dC, dI) vwCl (wFR cI cF cJ q0 q1 q2 q3 q4 q5 q6 q7 q8 x14) H := hP
        have hD : va_D A (wFR cI cF cJ q0 q1 q2 q3 q4 q5 q6 q7 q8 x14) := hD
        obtain ⟨v15, ev15⟩ : ∃ y : Int32, y = a10 + (-1) := ⟨_, rfl⟩
        have hf := bnd_all hf v15 ev15
        refine lv_iinc (v := v15) (lv' := [(3, .int v15), (0, .ref q0), (1, .long p0)]) hx hb dX1_setRods_21 hl (k := 0) rfl (by rw [ev15]; rfl) (by decide) rfl (fun ls hl => ?_)
        refine lv_goto (tgt := 7) hx hb dX1_setRods_24 (by decide) ?_
        exact ih v15 x14 _ _ _ hP hD hS (lv_sub hl [0, 1, 2] rfl) hf
  refine L7 _ (fun a16 F17 H locs ls hP hD hS hl hf => ?_) 16 v1 F _ _ _ hP hD hS (lv_sub hl [0, 1, 2] rfl) hf
  obtain rfl := Option.some.inj hf
  exact W.vret hx hb hr (fun t ht hW => ⟨⟨(), rfl, trivial, by rw [ht]; exact hP, hD⟩, hS.F ht⟩) hS.2.2 dX1_setRods_27
noncomputable def l_X1_bring_5 (k : Int32 → Int32 → FR → Option (FR)) : Nat → Int32 → Int32 → FR → Option (FR)
  | 0, _, _, _ => none
  | n + 1, a1, a2, F3 => if (fRd F3) ≤ a2 then (k a1 a2 F3) else (if a1 ≤ 0 then (k a1 a2 F3) else (obd (f_X1_valueAt F3 a2) fun x6 => bnd (x6 + a1) fun (v7 : Int32) => if (9 : Int32) < v7 then (bnd (v7 - 10) fun (v9 : Int32) => obd (f_X1_setRod F3 a2 v9) fun x10 => bnd ((fCa x10) + 1) fun (v11 : Int32) => bnd (a2 + 1) fun (v12 : Int32) => l_X1_bring_5 k n 1 v12 (sfCa x10 v11)) else (obd (f_X1_setRod F3 a2 v7) fun x13 => bnd (a2 + 1) fun (v14 : Int32) => l_X1_bring_5 k n 0 v14 x13)))
noncomputable def f_X1_bring (F : FR) (p0 : Int32) (p1 : Int32) : Option (FR) := l_X1_bring_5 (fun (a32 : Int32) (a33 : Int32) (F34 : FR) => bnd ((fSp F34) + a32) fun (v35 : Int32) => some (sfSp F34 v35)) 16 p1 p0 F
theorem pc_X1_bring : yX1_bring.cls = RX1 ∧ yX1_bring.cls ≠ "java/lang/invoke/MethodHandle" ∧ yX1_bring.cls ≠ "java/lang/invoke/VarHandle" ∧ (parseMethodDescriptor yX1_bring.desc).map (fun d => d.parameters.length) = some 2 := by decide +kernel
abbrev rm_X1_bring : Room := { frames := 3, cells := 0, slots := 0, locals := 80 }
set_option maxHeartbeats 4000000 in
set_option maxRecDepth 100000 in
theorem c_X1_bring (l : Launch) (dC : Nat → ClassId) (dI : Nat → Nat → Nat) (cI cF cJ cD : ClassId) (q0 q1 q2 q3 q4 q5 q6 q7 q8 : Nat) (F : FR) (p0 : Int32) (p1 : Int32) (res : (FR)) (hf : f_X1_bring F p0 p1 = some res) (sz : Nat) : Met l yX1_bring (ws_ yX1_bring cX1_bring 6 none) rm_X1_bring (sbPre (dC, dI) (TY cI cF cJ cD) (wFR cI cF cJ q0 q1 q2 q3 q4 q5 q6 q7 q8 F) E0 sz [.ref q0, .int p0, .int p1]) (va_Qv (fun (_ : Unit) => True) (sbEnd (dC, dI) (fun _ => wFR cI cF cJ q0 q1 q2 q3 q4 q5 q6 q7 q8 res) (va_A (wFR cI cF cJ q0 q1 q2 q3 q4 q5 q6 q7 q8 F) sz)) (va_A (wFR cI cF cJ q0 q1 q2 q3 q4 q5 q6 q7 q8 F) sz)) 0 0 (va_A (wFR cI cF cJ q0 q1 q2 q3 q4 q5 q6 q7 q8 F) sz) := by
  refine Met.ofW (cc := cX1_bring) (maxL := 6) (ret := none) (by decide) rfl ?_
  intro p e s m args below meth c s₁ B hml hv
  obtain ⟨rfl, hsz, hP, hK, hD0, hE⟩ := hv
  have hx := B.exec
  have hb := B.bytes
  have hr := B.returns
  have hts0 := atoms_spec (ws := ws_ yX1_bring cX1_bring 6 none) B.pre
  have hts := fun (w : Cond) (h : w ∈ LW) => hts0 w (List.mem_cons_of_mem _ h)
  have hown : s.vm.findClass RX1 = some m.cls := findClass_of_methodNamed B.named
  have hlocks := B.notSynchronized
  subst hsz
  have hD := hD0.self (sz := s.heap.size)
  generalize hAe : va_A (wFR cI cF cJ q0 q1 q2 q3 q4 q5 q6 q7 q8 F) s.heap.size = A at hD ⊢
  have hA : ∀ q : Nat, s.heap.size ≤ q → A q := fun q h => by rw [← hAe]; exact Or.inr h
  have hS : va_S A s.heap s.heap [] := va_S.rf
  have hkc := Nat.zero_le rm_X1_bring.cells
  have hks := Nat.zero_le rm_X1_bring.slots
  have hl := lv_entry ([.ref q0, .int p0, .int p1]) (n := 6) (Nat.le_of_ble_eq_true rfl)
  rw [lg_entry_eq]
  generalize (lg_sl ([.ref q0, .int p0, .int p1]) ++ List.replicate (6 - (lg_sl ([.ref q0, .int p0, .int p1])).length) Slot.unset).toArray = ls at hl ⊢
  have hl : lv_has ls 6 [(0, .ref q0), (1, .int p0), (2, .int p1)] := hl
  rw [f_X1_bring] at hf
  refine lv_iload_n hx hb dX1_bring_0 rfl (lv_at hl 2 rfl) ?_
  refine lv_istore_n (lv' := [(3, .int p1), (0, .ref q0), (1, .int p0), (2, .int p1)]) hx hb dX1_bring_1 rfl hl (by decide) rfl (fun ls hl => ?_)
  refine lv_iload_n hx hb dX1_bring_2 rfl (lv_at hl 2 rfl) ?_
  refine lv_istore (lv' := [(4, .int p0), (3, .int p1), (0, .ref q0), (1, .int p0), (2, .int p1)]) hx hb dX1_bring_3 hl (by decide) rfl (fun ls hl => ?_)
  have L5 : ∀ (k : Int32 → Int32 → FR → Option (FR)), (∀ (a15 : Int32) (a16 : Int32) (F17 : FR) (H : Heap) (locs : List Loc) (ls : Array Slot), va_P (dC, dI) vwCl (wFR cI cF cJ q0 q1 q2 q3 q4 q5 q6 q7 q8 F17) H → va_D A (wFR cI cF cJ q0 q1 q2 q3 q4 q5 q6 q7 q8 F17) → va_S A s.heap H locs → lv_has ls 6 [(3, .int a15), (0, .ref q0)] → k a15 a16 F17 = some res → W p l e (headSpec (ws_ yX1_bring cX1_bring 6 none) rm_X1_bring).room s m ([.ref q0, .int p0, .int p1].toArray) below meth c H locs 0 0 (MQ below (va_Qv (fun (_ : Unit) => True) (sbEnd (dC, dI) (fun _ => wFR cI cF cJ q0 q1 q2 q3 q4 q5 q6 q7 q8 res) (A)) (A)) ([.ref q0, .int p0, .int p1].toArray) s 0 0 A) (F0 m 77 ls [])) → ∀ (n : Nat) (a15 : Int32) (a16 : Int32) (F17 : FR) (H : Heap) (locs : List Loc) (ls : Array Slot), va_P (dC, dI) vwCl (wFR cI cF cJ q0 q1 q2 q3 q4 q5 q6 q7 q8 F17) H → va_D A (wFR cI cF cJ q0 q1 q2 q3 q4 q5 q6 q7 q8 F17) → va_S A s.heap H locs → lv_has ls 6 [(3, .int a15), (4, .int a16), (0, .ref q0)] → l_X1_bring_5  k n a15 a16 F17 = some res → W p l e (headSpec (ws_ yX1_bring cX1_bring 6 none) rm_X1_bring).room s m ([.ref q0, .int p0, .int p1].toArray) below meth c H locs 0 0 (MQ below (va_Qv (fun (_ : Unit) => True) (sbEnd (dC, dI) (fun _ => wFR cI cF cJ q0 q1 q2 q3 q4 q5 q6 q7 q8 res) (A)) (A)) ([.ref q0, .int p0, .int p1].toArray) s 0 0 A) (F0 m 5 ls []) := by
    intro k hk n
    induction n with
    | zero =>
      intro a18 a19 F20 H locs ls hP hD hS hl hf
      rw [l_X1_bring_5] at hf
      cases hf
    | succ n ih =>
      intro a18 a19 F20 H locs ls hP hD hS hl hf
      rw [l_X1_bring_5] at hf
      refine lv_iload hx hb dX1_bring_5 (lv_at hl 1 rfl) ?_
      refine lv_aload_n hx hb dX1_bring_7 rfl (lv_at hl 2 rfl) ?_
      refine va_get (D := (dC, dI)) (ci := 1) (v := .int (fRd F20)) (C := RX1) (T := TX1) (N := 13) hx hb hts iX1 hown hK hP 0 rfl rfl 1 (by decide) (hts _ q27) (fun _ h9 => h9) rfl dX1_bring_8 ?_
      refine lv_icmp_ge (tgt := 77) hx hb dX1_bring_11 (by decide) (fun c21 => ?_) (fun c21 => ?_)
      · have hf := ite_t hf c21
        exact hk a18 a19 F20 _ _ _ hP hD hS (lv_sub hl [0, 2] rfl) hf
      · have hf := ite_f hf c21
        refine lv_iload_n hx hb dX1_bring_14 rfl (lv_at hl 0 rfl) ?_
        refine lv_if_le (tgt := 77) hx hb dX1_bring_15 (by decide) (fun c22 => ?_) (fun c22 => ?_)
        · have hf := ite_t hf c22
          exact hk a18 a19 F20 _ _ _ hP hD hS (lv_sub hl [0, 2] rfl) hf
        · have hf := ite_f hf c22
          refine lv_aload_n hx hb dX1_bring_18 rfl (lv_at hl 2 rfl) ?_
          refine lv_iload hx hb dX1_bring_19 (lv_at hl 1 rfl) ?_
          obtain ⟨x23, hx23, hf⟩ := obd_e hf
          refine sb_Vi (As := [.int a19]) (rest := []) ⟨hx, hb, hml, hown, hts⟩ (fun sz => c_X1_valueAt l dC dI cI cF cJ cD q0 q1 q2 q3 q4 q5 q6 q7 q8 F20 a19  x23 hx23 sz) (cwV 1 hts (g_V q53 q54 q55 q56 q48) rfl rfl rfl pc_X1_valueAt ⟨Nat.le_of_ble_eq_true rfl, Nat.le_of_ble_eq_true rfl⟩) 0 1 rfl rfl hK hP hD hS hA [0, 1, 2, 3, 4, 5, 6, 7, 8] [] rfl rfl (by decide) (by decide) (by decide) (fun _ _ _ _ h => h) (fun _ _ _ => trivial) rfl rfl hl.1 (Nat.le_of_ble_eq_true rfl) dX1_bring_21 ⟨hkc, hks⟩ (fun r9 u H locs hr9 hP hD hS => ?_)
          have hr9 := Eq.symm hr9
          subst hr9
          have hP : va_P (dC, dI) vwCl (wFR cI cF cJ q0 q1 q2 q3 q4 q5 q6 q7 q8 F20) H := hP
          have hD : va_D A (wFR cI cF cJ q0 q1 q2 q3 q4 q5 q6 q7 q8 F20) := hD
          refine lv_iload_n hx hb dX1_bring_24 rfl (lv_at hl 0 rfl) ?_
          refine lv_iadd hx hb dX1_bring_25 ?_
          refine lv_topi (fun v24 ev24 => ?_)
          have hf := bnd_all hf v24 ev24
          refine lv_istore (lv' := [(5, .int v24), (3, .int a18), (4, .int a19), (0, .ref q0)]) hx hb dX1_bring_26 hl (by decide) rfl (fun ls hl => ?_)
          refine lv_iload hx hb dX1_bring_28 (lv_at hl 0 rfl) ?_
          refine lv_bipush (v := 9) hx hb dX1_bring_30 (by decide) ?_
          refine lv_icmp_gt (tgt := 48) hx hb dX1_bring_32 (by decide) (fun c25 => ?_) (fun c25 => ?_)
          · have hf := ite_t hf c25
            refine lv_aload_n hx hb dX1_bring_48 rfl (lv_at hl 3 rfl) ?_
            refine lv_iload hx hb dX1_bring_49 (lv_at hl 2 rfl) ?_
            refine lv_iload hx hb dX1_bring_51 (lv_at hl 0 rfl) ?_
            refine lv_bipush (v := 10) hx hb dX1_bring_53 (by decide) ?_
            refine lv_isub hx hb dX1_bring_55 ?_
            refine lv_topi (fun v26 ev26 => ?_)
            have hf := bnd_all hf v26 ev26
            obtain ⟨x27, hx27, hf⟩ := obd_e hf
            refine sb_Vv (As := [.int a19, .int v26]) (rest := []) ⟨hx, hb, hml, hown, hts⟩ (fun sz => c_X1_setRod l dC dI cI cF cJ cD q0 q1 q2 q3 q4 q5 q6 q7 q8 F20 a19 v26  x27 hx27 sz) (cwV 2 hts (g_V q83 q84 q85 q56 q79) rfl rfl rfl pc_X1_setRod ⟨Nat.le_of_ble_eq_true rfl, Nat.le_of_ble_eq_true rfl⟩) 0 1 rfl rfl hK hP hD hS hA [0, 1, 2, 3, 4, 5, 6, 7, 8] [] rfl rfl (by decide) (by decide) (by decide) (fun _ _ _ _ h => h) (fun _ _ _ => trivial) rfl rfl hl.1 (Nat.le_of_ble_eq_true rfl) dX1_bring_56 ⟨hkc, hks⟩ (fun u H locs hr9 hP hD hS => ?_)
            have hP : va_P (dC, dI) vwCl (wFR cI cF cJ q0 q1 q2 q3 q4 q5 q6 q7 q8 x27) H := hP
            have hD : va_D A (wFR cI cF cJ q0 q1 q2 q3 q4 q5 q6 q7 q8 x27) := hD
            refine lv_aload_n hx hb dX1_bring_59 rfl (lv_at hl 3 rfl) ?_
            refine lv_dup hx hb dX1_bring_60 rfl ?_
            refine va_get (D := (dC, dI)) (ci := 1) (v := .int (fCa x27)) (C := RX1) (T := TX1) (N := 13) hx hb hts iX1 hown hK hP 0 rfl rfl 8 (by decide) (hts _ q38) (fun _ h9 => h9) rfl dX1_bring_61 ?_
            refine lv_iconst (v := 1) hx hb dX1_bring_64 (by decide) ?_
            refine lv_iadd hx hb dX1_bring_65 ?_
            refine lv_topi (fun v28 ev28 => ?_)
            have hf := bnd_all hf v28 ev28
            refine va_put (D := (dC, dI)) (ci := 1) (v := .int v28) (ty := .int) (C := RX1) (T := TX1) (N := 13) hx hb hts iX1 tyX1 tyX1_ok nmX1 hown hK hP hD hS 0 rfl rfl 8 (by decide) (hts _ q38) (fun _ h9 => h9) rfl (by decide +kernel) rfl rfl (Nat.le_of_ble_eq_true rfl) dX1_bring_66 (fun H locs hP hD hS => ?_)
            have hP : va_P (dC, dI) vwCl (wFR cI cF cJ q0 q1 q2 q3 q4 q5 q6 q7 q8 (sfCa x27 v28)) H := hP
            have hD : va_D A (wFR cI cF cJ q0 q1 q2 q3 q4 q5 q6 q7 q8 (sfCa x27 v28)) := hD
            refine lv_iconst (v := 1) hx hb dX1_bring_69 (by decide) ?_
            refine lv_istore_n (lv' := [(3, .int 1), (5, .int v24), (4, .int a19), (0, .ref q0)]) hx hb dX1_bring_70 rfl hl (by decide) rfl (fun ls hl => ?_)
            obtain ⟨v29, ev29⟩ : ∃ y : Int32, y = a19 + 1 := ⟨_, rfl⟩
            have hf := bnd_all hf v29 ev29
            refine lv_iinc (v := v29) (lv' := [(4, .int v29), (3, .int 1), (5, .int v24), (0, .ref q0)]) hx hb dX1_bring_71 hl (k := 2) rfl (by rw [ev29]; rfl) (by decide) rfl (fun ls hl => ?_)
            refine lv_goto (tgt := 5) hx hb dX1_bring_74 (by decide) ?_
            exact ih 1 v29 (sfCa x27 v28) _ _ _ hP hD hS (lv_sub hl [1, 0, 3] rfl) hf
          · have hf := ite_f hf c25
            refine lv_aload_n hx hb dX1_bring_35 rfl (lv_at hl 3 rfl) ?_
            refine lv_iload hx hb dX1_bring_36 (lv_at hl 2 rfl) ?_
            refine lv_iload hx hb dX1_bring_38 (lv_at hl 0 rfl) ?_
            obtain ⟨x30, hx30, hf⟩ := obd_e hf
            refine sb_Vv (As := [.int a19, .int v24]) (rest := []) ⟨hx, hb, hml, hown, hts⟩ (fun sz => c_X1_setRod l dC dI cI cF cJ cD q0 q1 q2 q3 q4 q5 q6 q7 q8 F20 a19 v24  x30 hx30 sz) (cwV 2 hts (g_V q83 q84 q85 q56 q79) rfl rfl rfl pc_X1_setRod ⟨Nat.le_of_ble_eq_true rfl, Nat.le_of_ble_eq_true rfl⟩) 0 1 rfl rfl hK hP hD hS hA [0, 1, 2, 3, 4, 5, 6, 7, 8] [] rfl rfl (by decide) (by decide) (by decide) (fun _ _ _ _ h => h) (fun _ _ _ => trivial) rfl rfl hl.1 (Nat.le_of_ble_eq_true rfl) dX1_bring_40 ⟨hkc, hks⟩ (fun u H locs hr9 hP hD hS => ?_)
            have hP : va_P (dC, dI) vwCl (wFR cI cF cJ q0 q1 q2 q3 q4 q5 q6 q7 q8 x30) H := hP
            have hD : va_D A (wFR cI cF cJ q0 q1 q2 q3 q4 q5 q6 q7 q8 x30) := hD
            refine lv_iconst (v := 0) hx hb dX1_bring_43 (by decide) ?_
            refine lv_istore_n (lv' := [(3, .int 0), (5, .int v24), (4, .int a19), (0, .ref q0)]) hx hb dX1_bring_44 rfl hl (by decide) rfl (fun ls hl => ?_)
            refine lv_goto (tgt := 71) hx hb dX1_bring_45 (by decide) ?_
            obtain ⟨v31, ev31⟩ : ∃ y : Int32, y = a19 + 1 := ⟨_, rfl⟩
            have hf := bnd_all hf v31 ev31
            refine lv_iinc (v := v31) (lv' := [(4, .int v31), (3, .int 0), (5, .int v24), (0, .ref q0)]) hx hb dX1_bring_71 hl (k := 2) rfl (by rw [ev31]; rfl) (by decide) rfl (fun ls hl => ?_)
            refine lv_goto (tgt := 5) hx hb dX1_bring_74 (by decide) ?_
            exact ih 0 v31 x30 _ _ _ hP hD hS (lv_sub hl [1, 0, 3] rfl) hf
  refine L5 _ (fun a32 a33 F34 H locs ls hP hD hS hl hf => ?_) 16 p1 p0 F _ _ _ hP hD hS (lv_sub hl [1, 0, 2] rfl) hf
  refine lv_aload_n hx hb dX1_bring_77 rfl (lv_at hl 1 rfl) ?_
  refine lv_dup hx hb dX1_bring_78 rfl ?_
  refine va_get (D := (dC, dI)) (ci := 1) (v := .int (fSp F34)) (C := RX1) (T := TX1) (N := 13) hx hb hts iX1 hown hK hP 0 rfl rfl 10 (by decide) (hts _ q40) (fun _ h9 => h9) rfl dX1_bring_79 ?_
  refine lv_iload_n hx hb dX1_bring_82 rfl (lv_at hl 0 rfl) ?_
  refine lv_iadd hx hb dX1_bring_83 ?_
  refine lv_topi (fun v35 ev35 => ?_)
  have hf := bnd_all hf v35 ev35
  refine va_put (D := (dC, dI)) (ci := 1) (v := .int v35) (ty := .int) (C := RX1) (T := TX1) (N := 13) hx hb hts iX1 tyX1 tyX1_ok nmX1 hown hK hP hD hS 0 rfl rfl 10 (by decide) (hts _ q40) (fun _ h9 => h9) rfl (by decide +kernel) rfl rfl (Nat.le_of_ble_eq_true rfl) dX1_bring_84 (fun H locs hP hD hS => ?_)
  have hP : va_P (dC, dI) vwCl (wFR cI cF cJ q0 q1 q2 q3 q4 q5 q6 q7 q8 (sfSp F34 v35)) H := hP
  have hD : va_D A (wFR cI cF cJ q0 q1 q2 q3 q4 q5 q6 q7 q8 (sfSp F34 v35)) := hD
  obtain rfl := Option.some.inj hf
  exact W.vret hx hb hr (fun t ht hW => ⟨⟨(), rfl, trivial, by rw [ht]; exact hP, hD⟩, hS.F ht⟩) hS.2.2 dX1_bring_87
noncomputable def l_X1_bringNumber_7 (c1 : Int64) (k : Int32 → FR → Option (FR)) : Nat → Int32 → FR → Option (FR)
  | 0, _, _ => none
  | n + 1, a2, F3 => if a2 < 0 then (k a2 F3) else (obd (f_X1_digitAt c1 a2) fun x5 => obd (f_X1_bring F3 a2 x5) fun x6 => bnd (a2 + (-1)) fun (v7 : Int32) => l_X1_bringNumber_7 c1 k n v7 x6)
noncomputable def f_X1_bringNumber (F : FR) (p0 : Int64) : Option (FR) := bnd ((fRd F) - 1) fun (v1 : Int32) => l_X1_bringNumber_7 p0 (fun (a16 : Int32) (F17 : FR) => some F17) 16 v1 F
theorem pc_X1_bringNumber : yX1_bringNumber.cls = RX1 ∧ yX1_bringNumber.cls ≠ "java/lang/invoke/MethodHandle" ∧ yX1_bringNumber.cls ≠ "java/lang/invoke/VarHandle" ∧ (parseMethodDescriptor yX1_bringNumber.desc).map (fun d => d.parameters.length) = some 1 := by decide +kernel
abbrev rm_X1_bringNumber : Room := { frames := 4, cells := 0, slots := 0, locals := 105 }
set_option maxHeartbeats 4000000 in
set_option maxRecDepth 100000 in
theorem c_X1_bringNumber (l : Launch) (dC : Nat → ClassId) (dI : Nat → Nat → Nat) (cI cF cJ cD : ClassId) (q0 q1 q2 q3 q4 q5 q6 q7 q8 : Nat) (F : FR) (p0 : Int64) (res : (FR)) (hf : f_X1_bringNumber F p0 = some res) (sz : Nat) : Met l yX1_bringNumber (ws_ yX1_bringNumber cX1_bringNumber 4 none) rm_X1_bringNumber (sbPre (dC, dI) (TY cI cF cJ cD) (wFR cI cF cJ q0 q1 q2 q3 q4 q5 q6 q7 q8 F) E0 sz [.ref q0, .long p0]) (va_Qv (fun (_ : Unit) => True) (sbEnd (dC, dI) (fun _ => wFR cI cF cJ q0 q1 q2 q3 q4 q5 q6 q7 q8 res) (va_A (wFR cI cF cJ q0 q1 q2 q3 q4 q5 q6 q7 q8 F) sz)) (va_A (wFR cI cF cJ q0 q1 q2 q3 q4 q5 q6 q7 q8 F) sz)) 0 0 (va_A (wFR cI cF cJ q0 q1 q2 q3 q4 q5 q6 q7 q8 F) sz) := by
  refine Met.ofW (cc := cX1_bringNumber) (maxL := 4) (ret := none) (by decide) rfl ?_
  intro p e s m args below meth c s₁ B hml hv
  obtain ⟨rfl, hsz, hP, hK, hD0, hE⟩ := hv
  have hx := B.exec
  have hb := B.bytes
  have hr := B.returns
  have hts0 := atoms_spec (ws := ws_ yX1_bringNumber cX1_bringNumber 4 none) B.pre
  have hts := fun (w : Cond) (h : w ∈ LW) => hts0 w (List.mem_cons_of_mem _ h)
  have hown : s.vm.findClass RX1 = some m.cls := findClass_of_methodNamed B.named
  have hlocks := B.notSynchronized
  subst hsz
  have hD := hD0.self (sz := s.heap.size)
  generalize hAe : va_A (wFR cI cF cJ q0 q1 q2 q3 q4 q5 q6 q7 q8 F) s.heap.size = A at hD ⊢
  have hA : ∀ q : Nat, s.heap.size ≤ q → A q := fun q h => by rw [← hAe]; exact Or.inr h
  have hS : va_S A s.heap s.heap [] := va_S.rf
  have hkc := Nat.zero_le rm_X1_bringNumber.cells
  have hks := Nat.zero_le rm_X1_bringNumber.slots
  have hl := lv_entry ([.ref q0, .long p0]) (n := 4) (Nat.le_of_ble_eq_true rfl)
  rw [lg_entry_eq]
  generalize (lg_sl ([.ref q0, .long p0]) ++ List.replicate (4 - (lg_sl ([.ref q0, .long p0])).length) Slot.unset).toArray = ls at hl ⊢
  have hl : lv_has ls 4 [(0, .ref q0), (1, .long p0)] := hl
  rw [f_X1_bringNumber] at hf
  refine lv_aload_n hx hb dX1_bringNumber_0 rfl (lv_at hl 0 rfl) ?_
  refine va_get (D := (dC, dI)) (ci := 1) (v := .int (fRd F)) (C := RX1) (T := TX1) (N := 13) hx hb hts iX1 hown hK hP 0 rfl rfl 1 (by decide) (hts _ q27) (fun _ h9 => h9) rfl dX1_bringNumber_1 ?_
  refine lv_iconst (v := 1) hx hb dX1_bringNumber_4 (by decide) ?_
  refine lv_isub hx hb dX1_bringNumber_5 ?_
  refine lv_topi (fun v1 ev1 => ?_)
  have hf := bnd_all hf v1 ev1
  refine lv_istore_n (lv' := [(3, .int v1), (0, .ref q0), (1, .long p0)]) hx hb dX1_bringNumber_6 rfl hl (by decide) rfl (fun ls hl => ?_)
  have L7 : ∀ (k : Int32 → FR → Option (FR)), (∀ (a8 : Int32) (F9 : FR) (H : Heap) (locs : List Loc) (ls : Array Slot), va_P (dC, dI) vwCl (wFR cI cF cJ q0 q1 q2 q3 q4 q5 q6 q7 q8 F9) H → va_D A (wFR cI cF cJ q0 q1 q2 q3 q4 q5 q6 q7 q8 F9) → va_S A s.heap H locs → lv_has ls 4 [] → k a8 F9 = some res → W p l e (headSpec (ws_ yX1_bringNumber cX1_bringNumber 4 none) rm_X1_bringNumber).room s m ([.ref q0, .long p0].toArray) below meth c H locs 0 0 (MQ below (va_Qv (fun (_ : Unit) => True) (sbEnd (dC, dI) (fun _ => wFR cI cF cJ q0 q1 q2 q3 q4 q5 q6 q7 q8 res) (A)) (A)) ([.ref q0, .long p0].toArray) s 0 0 A) (F0 m 27 ls [])) → ∀ (n : Nat) (a8 : Int32) (F9 : FR) (H : Heap) (locs : List Loc) (ls : Array Slot), va_P (dC, dI) vwCl (wFR cI cF cJ q0 q1 q2 q3 q4 q5 q6 q7 q8 F9) H → va_D A (wFR cI cF cJ q0 q1 q2 q3 q4 q5 q6 q7 q8 F9) → va_S A s.heap H locs → lv_has ls 4 [(3, .int a8), (0, .ref q0), (1, .long p0)] → l_X1_bringNumber_7 p0 k n a8 F9 = some res → W p l e (headSpec (ws_ yX1_bringNumber cX1_bringNumber 4 none) rm_X1_bringNumber).room s m ([.ref q0, .long p0].toArray) below meth c H locs 0 0 (MQ below (va_Qv (fun (_ : Unit) => True) (sbEnd (dC, dI) (fun _ => wFR cI cF cJ q0 q1 q2 q3 q4 q5 q6 q7 q8 res) (A)) (A)) ([.ref q0, .long p0].toArray) s 0 0 A) (F0 m 7 ls []) := by
    intro k hk n
    induction n with
    | zero =>
      intro a10 F11 H locs ls hP hD hS hl hf
      rw [l_X1_bringNumber_7] at hf
      cases hf
    | succ n ih =>
      intro a10 F11 H locs ls hP hD hS hl hf
      rw [l_X1_bringNumber_7] at hf
      refine lv_iload_n hx hb dX1_bringNumber_7 rfl (lv_at hl 0 rfl) ?_
      refine lv_if_lt (tgt := 27) hx hb dX1_bringNumber_8 (by decide) (fun c12 => ?_) (fun c12 => ?_)
      · have hf := ite_t hf c12
        exact hk a10 F11 _ _ _ hP hD hS (lv_sub hl [] rfl) hf
      · have hf := ite_f hf c12
        refine lv_aload_n hx hb dX1_bringNumber_11 rfl (lv_at hl 1 rfl) ?_
        refine lv_iload_n hx hb dX1_bringNumber_12 rfl (lv_at hl 0 rfl) ?_
        refine lv_lload_n hx hb dX1_bringNumber_13 rfl (lv_at hl 2 rfl) ?_
        refine lv_iload_n hx hb dX1_bringNumber_14 rfl (lv_at hl 0 rfl) ?_
        obtain ⟨x13, hx13, hf⟩ := obd_e hf
        refine sb_Si (As := [.long p0, .int a10]) (rest := [.int a10, .ref q0]) ⟨hx, hb, hml, hown, hts⟩ (fun sz => c_X1_digitAt l dC dI cI cF cJ cD  p0 a10  x13 hx13 sz) (va_cwS 2 hts (g_S q81 q82 q56 q80) rfl rfl rfl ps_X1_digitAt ⟨Nat.le_of_ble_eq_true rfl, Nat.le_of_ble_eq_true rfl⟩)  hK hP hD hS hA [] [0, 1, 2, 3, 4, 5, 6, 7, 8] rfl rfl (by decide) (by decide) (by decide) (fun _ _ _ _ h => h) (fun _ _ _ => trivial) rfl rfl hl.1 (Nat.le_of_ble_eq_true rfl) dX1_bringNumber_15 ⟨hkc, hks⟩ (fun r9 u H locs hr9 hP hD hS => ?_)
        have hr9 := Eq.symm hr9
        subst hr9
        have hP : va_P (dC, dI) vwCl (wFR cI cF cJ q0 q1 q2 q3 q4 q5 q6 q7 q8 F11) H := hP
        have hD : va_D A (wFR cI cF cJ q0 q1 q2 q3 q4 q5 q6 q7 q8 F11) := hD
        obtain ⟨x14, hx14, hf⟩ := obd_e hf
        refine sb_Vv (As := [.int a10, .int x13]) (rest := []) ⟨hx, hb, hml, hown, hts⟩ (fun sz => c_X1_bring l dC dI cI cF cJ cD q0 q1 q2 q3 q4 q5 q6 q7 q8 F11 a10 x13  x14 hx14 sz) (cwV 2 hts (g_V q88 q89 q90 q56 q87) rfl rfl rfl pc_X1_bring ⟨Nat.le_of_ble_eq_true rfl, Nat.le_of_ble_eq_true rfl⟩) 0 1 rfl rfl hK hP hD hS hA [0, 1, 2, 3, 4, 5, 6, 7, 8] [] rfl rfl (by decide) (by decide) (by decide) (fun _ _ _ _ h => h) (fun _ _ _ => trivial) rfl rfl hl.1 (Nat.le_of_ble_eq_true rfl) dX1_bringNumber_18 ⟨hkc, hks⟩ (fun u H locs hr9 hP hD hS => ?_)
        have hP : va_P (dC, dI) vwCl (wFR cI cF cJ q0 q1 q2 q3 q4 q5 q6 q7 q8 x14) H := hP
        have hD : va_D A (wFR cI cF cJ q0 q1 q2 q3 q4 q5 q6 q7 q8 x14) := hD
        obtain ⟨v15, ev15⟩ : ∃ y : Int32, y = a10 + (-1) := ⟨_, rfl⟩
        have hf := bnd_all hf v15 ev15
        refine lv_iinc (v := v15) (lv' := [(3, .int v15), (0, .ref q0), (1, .long p0)]) hx hb dX1_bringNumber_21 hl (k := 0) rfl (by rw [ev15]; rfl) (by decide) rfl (fun ls hl => ?_)
        refine lv_goto (tgt := 7) hx hb dX1_bringNumber_24 (by decide) ?_
        exact ih v15 x14 _ _ _ hP hD hS (lv_sub hl [0, 1, 2] rfl) hf
  refine L7 _ (fun a16 F17 H locs ls hP hD hS hl hf => ?_) 16 v1 F _ _ _ hP hD hS (lv_sub hl [0, 1, 2] rfl) hf
  obtain rfl := Option.some.inj hf
  exact W.vret hx hb hr (fun t ht hW => ⟨⟨(), rfl, trivial, by rw [ht]; exact hP, hD⟩, hS.F ht⟩) hS.2.2 dX1_bringNumber_27
