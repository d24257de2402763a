-- laid by wip/p30/acts.py
noncomputable def l_acts (L : Nat) (xs : Nat → Int32) (Hb : HB) (lr1 lr2 : Nat) : Nat → Int32 → TD → FR → KO → TD → FR → KO → Option (TD × FR × TD × FR)
  | 0, _, _, _, _, _, _, _ => none
  | n + 1, i, T1, F1, K1, T2, F2, K2 => if (5 : Int32) ≤ i then some (T1, F1, T2, F2) else gd (gdec ((tNu T1) = 0)) <| obd (f_X3_act L xs lr1 T1 Hb F1 K1) fun x => if x.1 = 0 then none else gd (gdec ((tNu T2) = 1)) <| obd (f_X3_act L xs lr2 T2 Hb F2 K2) fun y => if y.1 = 0 then none else l_acts L xs Hb lr1 lr2 n (i + 1) x.2.1 x.2.2.1 x.2.2.2 y.2.1 y.2.2.1 y.2.2.2
set_option maxHeartbeats 8000000 in
set_option maxRecDepth 100000 in
theorem w_acts_loop {p : Program} {l : Launch} {e : Env} {s : State} {m : MethodId} {args : Array Value} {below : List Frame} {meth : Method} {c : Code} {Q : State → Prop} {A : Nat → Prop} {dC : Nat → ClassId} {dI : Nat → Nat → Nat} {cI cF cJ cD : ClassId} {b L : Nat} {xs : Nat → Int32} {tA tB : Nat} (hx : p.tables.exec = Jvm.exec) (hb : c.code = cL_law) (hml : c.maxLocals = 19) (hts : ∀ w ∈ LW, w.before args s = true) (hown : s.vm.findClass RL = some m.cls) (hK : va_K (dC, dI) vwCl (TY cI cF cJ cD) s) (hA : ∀ q : Nat, s.heap.size ≤ q → A q) (hE : EX b L xs tA tB A s) {ot oh ou od ow oa ob os o2 u2 d2 w2 a2 b2 s2 fa tr q0 q1 q2 q3 q4 q5 q6 q7 q8 r0 r1 r2 r3 r4 r5 r6 r7 r8 t1 t2 t3 t4 t5 t6 t7 t8 : Nat} {rw : Nat → Option Nat} (hr0 : rw (Int32.toNatClampNeg 0) = some q0) (hr1 : rw (Int32.toNatClampNeg 1) = some r0) {Hb : HB} {Tr : FR} {lr1 lr2 : Nat} {pt : Int32} {res : TD × FR × TD × FR} {CT ST : Nat} (hCT : CT ≤ 600000) (hST : ST ≤ 7000000)
    (kk : ∀ (ok k2 : Nat) (rs1 rs2 : RS) (H : Heap) (locs : List Loc) (ls : Array Slot), va_P (dC, dI) vwCl (((wTD cI cF cJ ot oh b ou od ow oa ob ok os res.1 ++ (wHB cI cF cJ oh fa tr rw Hb ++ (wFR cI cF cJ q0 q1 q2 q3 q4 q5 q6 q7 q8 res.2.1 ++ ([kOut cJ ok rs1])))) ++ (kRows cI lr1 rs1)) ++ (((wTD cI cF cJ o2 oh b u2 d2 w2 a2 b2 k2 s2 res.2.2.1 ++ (wFR cI cF cJ r0 r1 r2 r3 r4 r5 r6 r7 r8 res.2.2.2 ++ [kOut cJ k2 rs2])) ++ kRows cI lr2 rs2) ++ wFR cI cF cJ tr t1 t2 t3 t4 t5 t6 t7 t8 Tr)) H → va_D A (((wTD cI cF cJ ot oh b ou od ow oa ob ok os res.1 ++ (wHB cI cF cJ oh fa tr rw Hb ++ (wFR cI cF cJ q0 q1 q2 q3 q4 q5 q6 q7 q8 res.2.1 ++ ([kOut cJ ok rs1])))) ++ (kRows cI lr1 rs1)) ++ (((wTD cI cF cJ o2 oh b u2 d2 w2 a2 b2 k2 s2 res.2.2.1 ++ (wFR cI cF cJ r0 r1 r2 r3 r4 r5 r6 r7 r8 res.2.2.2 ++ [kOut cJ k2 rs2])) ++ kRows cI lr2 rs2) ++ wFR cI cF cJ tr t1 t2 t3 t4 t5 t6 t7 t8 Tr)) → va_S A s.heap H locs → lv_has ls 19 [(0, .ref b), (1, .int pt), (2, .ref oh), (3, .ref ot), (4, .ref o2)] → W p l e room_1 s m args below meth c H locs CT ST Q (F0 m 101 ls [])) :
    ∀ (n : Nat) (i : Int32) (T1 : TD) (F1 : FR) (K1 : KO) (T2 : TD) (F2 : FR) (K2 : KO) (ok k2 : Nat) (rs1 rs2 : RS) (H : Heap) (locs : List Loc) (ls : Array Slot) (cc ss : Nat), rs1.map Prod.snd = K1 → rs2.map Prod.snd = K2 → cc + n * 36 ≤ CT → ss + n * 378 ≤ ST → va_P (dC, dI) vwCl (((wTD cI cF cJ ot oh b ou od ow oa ob ok os T1 ++ (wHB cI cF cJ oh fa tr rw Hb ++ (wFR cI cF cJ q0 q1 q2 q3 q4 q5 q6 q7 q8 F1 ++ ([kOut cJ ok rs1])))) ++ (kRows cI lr1 rs1)) ++ (((wTD cI cF cJ o2 oh b u2 d2 w2 a2 b2 k2 s2 T2 ++ (wFR cI cF cJ r0 r1 r2 r3 r4 r5 r6 r7 r8 F2 ++ [kOut cJ k2 rs2])) ++ kRows cI lr2 rs2) ++ wFR cI cF cJ tr t1 t2 t3 t4 t5 t6 t7 t8 Tr)) H → va_D A (((wTD cI cF cJ ot oh b ou od ow oa ob ok os T1 ++ (wHB cI cF cJ oh fa tr rw Hb ++ (wFR cI cF cJ q0 q1 q2 q3 q4 q5 q6 q7 q8 F1 ++ ([kOut cJ ok rs1])))) ++ (kRows cI lr1 rs1)) ++ (((wTD cI cF cJ o2 oh b u2 d2 w2 a2 b2 k2 s2 T2 ++ (wFR cI cF cJ r0 r1 r2 r3 r4 r5 r6 r7 r8 F2 ++ [kOut cJ k2 rs2])) ++ kRows cI lr2 rs2) ++ wFR cI cF cJ tr t1 t2 t3 t4 t5 t6 t7 t8 Tr)) → va_S A s.heap H locs → lv_has ls 19 [(5, .int i), (0, .ref b), (1, .int pt), (2, .ref oh), (3, .ref ot), (4, .ref o2)] → l_acts L xs Hb lr1 lr2 n i T1 F1 K1 T2 F2 K2 = some res → W p l e room_1 s m args below meth c H locs cc ss Q (F0 m 72 ls []) := by
  intro n
  induction n with
  | zero =>
    intro i T1 F1 K1 T2 F2 K2 ok k2 rs1 rs2 H locs ls cc ss hrs1 hrs2 hcc hss hP hD hS hl hf
    rw [l_acts] at hf
    cases hf
  | succ n ih =>
    intro i T1 F1 K1 T2 F2 K2 ok k2 rs1 rs2 H locs ls cc ss hrs1 hrs2 hcc hss hP hD hS hl hf
    rw [l_acts] at hf
    refine lv_iload hx hb dL_law_72 (lv_at hl 0 rfl) ?_
    refine lv_iconst (v := 5) hx hb dL_law_74 (by decide) ?_
    refine lv_icmp_ge (tgt := 101) hx hb dL_law_75 (by decide) (fun c5 => ?_) (fun c5 => ?_)
    · have hf := ite_t hf c5
      obtain rfl := Option.some.inj hf
      refine W.widen (k := CT) (n := ST) (by omega) (by omega) ?_
      exact kk ok k2 rs1 rs2 _ _ _ hP hD hS (lv_sub hl [1, 2, 3, 4, 5] rfl)
    · have hf := ite_f hf c5
      obtain ⟨g1, hf⟩ := gd_e hf
      obtain ⟨x, hxx, hf⟩ := obd_e hf
      refine lv_aload_n hx hb dL_law_78 rfl (lv_at hl 4 rfl) ?_
      refine sbZ_Vi (As := []) (rest := []) ⟨hx, hb, hml, hown, hts⟩ (fun sz => c_X3_act l dC dI cI cF cJ cD b L xs tA tB lr1 ot oh ou od ow oa ob ok os fa tr q0 q1 q2 q3 q4 q5 q6 q7 q8 rw rs1 T1 Hb F1 K1 (row0 (gdec_e g1) hr0) hrs1 x hxx sz) (cwV 0 hts (g_V q536 q537 q538 q352 q503) rfl rfl rfl pc_X3_act ⟨Nat.le_of_ble_eq_true rfl, Nat.le_of_ble_eq_true rfl⟩) 0 3 rfl rfl hK hP hD hS hA EX_blind (fun U hU hW => EX_pass hE hS (va_free hD.left hS hA (List.range _) (va_whole _)) hU hW) rfl rfl hl.1 (Nat.le_of_ble_eq_true rfl) dL_law_79 ⟨Nat.le_trans (show cc + 18 ≤ 600000 by omega) (Nat.le_of_ble_eq_true rfl), Nat.le_trans (show ss + 189 ≤ 7000000 by omega) (Nat.le_of_ble_eq_true rfl)⟩ (fun r9 u H locs hr9 hP hD hS => ?_)
      obtain ⟨hr9, hrs1⟩ := hr9
      obtain ⟨ok, rs1⟩ := u
      have hr9 := Eq.symm hr9
      subst hr9
      refine W.widen (k := cc + 18) (n := ss + 189) (Nat.le_refl _) (Nat.le_refl _) ?_
      refine lv_if_eq (tgt := 93) hx hb dL_law_82 (by decide) (fun c1 => ?_) (fun c1 => ?_)
      · have hf := ite_t hf c1
        cases hf
      · have hf := ite_f hf c1
        obtain ⟨g2, hf⟩ := gd_e hf
        obtain ⟨y, hxy, hf⟩ := obd_e hf
        obtain ⟨hP, hD⟩ := sb_perm (w := ((wTD cI cF cJ o2 oh b u2 d2 w2 a2 b2 k2 s2 T2 ++ (wHB cI cF cJ oh fa tr rw Hb ++ (wFR cI cF cJ r0 r1 r2 r3 r4 r5 r6 r7 r8 F2 ++ ([kOut cJ k2 rs2])))) ++ (kRows cI lr2 rs2)) ++ (((wTD cI cF cJ ot oh b ou od ow oa ob ok os x.2.1 ++ (wFR cI cF cJ q0 q1 q2 q3 q4 q5 q6 q7 q8 x.2.2.1 ++ [kOut cJ ok rs1])) ++ kRows cI lr1 rs1) ++ wFR cI cF cJ tr t1 t2 t3 t4 t5 t6 t7 t8 Tr)) rearr hP hD
        refine lv_aload hx hb dL_law_85 (lv_at hl 5 rfl) ?_
        refine sbZ_Vi (As := []) (rest := []) ⟨hx, hb, hml, hown, hts⟩ (fun sz => c_X3_act l dC dI cI cF cJ cD b L xs tA tB lr2 o2 oh u2 d2 w2 a2 b2 k2 s2 fa tr r0 r1 r2 r3 r4 r5 r6 r7 r8 rw rs2 T2 Hb F2 K2 (row1 (gdec_e g2) hr1) hrs2 y hxy sz) (cwV 0 hts (g_V q536 q537 q538 q352 q503) rfl rfl rfl pc_X3_act ⟨Nat.le_of_ble_eq_true rfl, Nat.le_of_ble_eq_true rfl⟩) 0 3 rfl rfl hK hP hD hS hA EX_blind (fun U hU hW => EX_pass hE hS (va_free hD.left hS hA (List.range _) (va_whole _)) hU hW) rfl rfl hl.1 (Nat.le_of_ble_eq_true rfl) dL_law_87 ⟨Nat.le_trans (show (cc + 18) + 18 ≤ 600000 by omega) (Nat.le_of_ble_eq_true rfl), Nat.le_trans (show (ss + 189) + 189 ≤ 7000000 by omega) (Nat.le_of_ble_eq_true rfl)⟩ (fun r9 u H locs hr9 hP hD hS => ?_)
        obtain ⟨hr9, hrs2⟩ := hr9
        obtain ⟨k2, rs2⟩ := u
        have hr9 := Eq.symm hr9
        subst hr9
        refine W.widen (k := cc + 36) (n := ss + 378) (by omega) (by omega) ?_
        refine lv_if_ne (tgt := 95) hx hb dL_law_90 (by decide) (fun c2 => ?_) (fun c2 => ?_)
        · have hf := ite_f hf c2
          obtain ⟨hP, hD⟩ := sb_perm (w := ((wTD cI cF cJ ot oh b ou od ow oa ob ok os x.2.1 ++ (wHB cI cF cJ oh fa tr rw Hb ++ (wFR cI cF cJ q0 q1 q2 q3 q4 q5 q6 q7 q8 x.2.2.1 ++ ([kOut cJ ok rs1])))) ++ (kRows cI lr1 rs1)) ++ (((wTD cI cF cJ o2 oh b u2 d2 w2 a2 b2 k2 s2 y.2.1 ++ (wFR cI cF cJ r0 r1 r2 r3 r4 r5 r6 r7 r8 y.2.2.1 ++ [kOut cJ k2 rs2])) ++ kRows cI lr2 rs2) ++ wFR cI cF cJ tr t1 t2 t3 t4 t5 t6 t7 t8 Tr)) rearr hP hD
          refine lv_iinc (v := i + 1) (lv' := [(5, .int (i + 1)), (0, .ref b), (1, .int pt), (2, .ref oh), (3, .ref ot), (4, .ref o2)]) hx hb dL_law_95 hl (k := 0) rfl rfl (by decide) rfl (fun ls hl => ?_)
          refine lv_goto (tgt := 72) hx hb dL_law_98 (by decide) ?_
          exact ih _ _ _ _ _ _ _ _ _ _ _ _ _ _ _ _ hrs1 hrs2 (by omega) (by omega) hP hD hS (lv_sub hl [0, 1, 2, 3, 4, 5] rfl) hf
        · have hf := ite_t hf c2
          cases hf
noncomputable def f_acts (L : Nat) (xs : Nat → Int32) (lr1 lr2 : Nat) (Hb : HB) (T1 : TD) (F : FR) (T2 : TD) (F2 : FR) : Option (TD × FR × TD × FR) := l_acts L xs Hb lr1 lr2 6 0 T1 F [] T2 F2 []
set_option maxHeartbeats 8000000 in
set_option maxRecDepth 100000 in
theorem w_acts {p : Program} {l : Launch} {e : Env} {s : State} {m : MethodId} {args : Array Value} {below : List Frame} {meth : Method} {c : Code} {Q : State → Prop} {A : Nat → Prop} {dC : Nat → ClassId} {dI : Nat → Nat → Nat} {cI cF cJ cD : ClassId} {b L : Nat} {xs : Nat → Int32} {tA tB : Nat} (hx : p.tables.exec = Jvm.exec) (hb : c.code = cL_law) (hml : c.maxLocals = 19) (hts : ∀ w ∈ LW, w.before args s = true) (hown : s.vm.findClass RL = some m.cls) (hK : va_K (dC, dI) vwCl (TY cI cF cJ cD) s) (hA : ∀ q : Nat, s.heap.size ≤ q → A q) (hE : EX b L xs tA tB A s) {ok k2 : Nat} {ot oh ou od ow oa ob os o2 u2 d2 w2 a2 b2 s2 fa tr q0 q1 q2 q3 q4 q5 q6 q7 q8 r0 r1 r2 r3 r4 r5 r6 r7 r8 t1 t2 t3 t4 t5 t6 t7 t8 : Nat} {rw : Nat → Option Nat} (hr0 : rw (Int32.toNatClampNeg 0) = some q0) (hr1 : rw (Int32.toNatClampNeg 1) = some r0) {Hb : HB} {Tr : FR} {lr1 lr2 : Nat} {pt : Int32} {T1 T2 : TD} {F F2 : FR} {res : TD × FR × TD × FR} (hf : f_acts L xs lr1 lr2 Hb T1 F T2 F2 = some res) {H : Heap} {locs : List Loc} {ls : Array Slot} {cc ss : Nat} (hcc : cc + 216 ≤ 600000) (hss : ss + 2268 ≤ 7000000) (hP : va_P (dC, dI) vwCl (wTD cI cF cJ ot oh b ou od ow oa ob ok os T1 ++ (wTD cI cF cJ o2 oh b u2 d2 w2 a2 b2 k2 s2 T2 ++ (wHB cI cF cJ oh fa tr rw Hb ++ (wFR cI cF cJ q0 q1 q2 q3 q4 q5 q6 q7 q8 F ++ (wFR cI cF cJ r0 r1 r2 r3 r4 r5 r6 r7 r8 F2 ++ (wFR cI cF cJ tr t1 t2 t3 t4 t5 t6 t7 t8 Tr ++ ([kOut cJ ok ([] : RS)] ++ ([kOut cJ k2 ([] : RS)])))))))) H) (hD : va_D A (wTD cI cF cJ ot oh b ou od ow oa ob ok os T1 ++ (wTD cI cF cJ o2 oh b u2 d2 w2 a2 b2 k2 s2 T2 ++ (wHB cI cF cJ oh fa tr rw Hb ++ (wFR cI cF cJ q0 q1 q2 q3 q4 q5 q6 q7 q8 F ++ (wFR cI cF cJ r0 r1 r2 r3 r4 r5 r6 r7 r8 F2 ++ (wFR cI cF cJ tr t1 t2 t3 t4 t5 t6 t7 t8 Tr ++ ([kOut cJ ok ([] : RS)] ++ ([kOut cJ k2 ([] : RS)]))))))))) (hS : va_S A s.heap H locs) (hl : lv_has ls 19 [(0, .ref b), (1, .int pt), (2, .ref oh), (3, .ref ot), (4, .ref o2)])
    (kk : ∀ (ok : Nat) (H : Heap) (locs : List Loc) (ls : Array Slot), va_P (dC, dI) vwCl (wTD cI cF cJ ot oh b ou od ow oa ob ok os res.1 ++ (wHB cI cF cJ oh fa tr rw Hb ++ (wFR cI cF cJ q0 q1 q2 q3 q4 q5 q6 q7 q8 res.2.1 ++ (wFR cI cF cJ r0 r1 r2 r3 r4 r5 r6 r7 r8 res.2.2.2 ++ (wFR cI cF cJ tr t1 t2 t3 t4 t5 t6 t7 t8 Tr))))) H → va_D A (wTD cI cF cJ ot oh b ou od ow oa ob ok os res.1 ++ (wHB cI cF cJ oh fa tr rw Hb ++ (wFR cI cF cJ q0 q1 q2 q3 q4 q5 q6 q7 q8 res.2.1 ++ (wFR cI cF cJ r0 r1 r2 r3 r4 r5 r6 r7 r8 res.2.2.2 ++ (wFR cI cF cJ tr t1 t2 t3 t4 t5 t6 t7 t8 Tr))))) → va_S A s.heap H locs → lv_has ls 19 [(0, .ref b), (1, .int pt), (2, .ref oh), (3, .ref ot), (5, .int 0)] → W p l e room_1 s m args below meth c H locs (cc + 216) (ss + 2268) Q (F0 m 104 ls [])) : W p l e room_1 s m args below meth c H locs cc ss Q (F0 m 69 ls []) := by
  obtain ⟨hP, hD⟩ := sb_perm (w := ((wTD cI cF cJ ot oh b ou od ow oa ob ok os T1 ++ (wHB cI cF cJ oh fa tr rw Hb ++ (wFR cI cF cJ q0 q1 q2 q3 q4 q5 q6 q7 q8 F ++ ([kOut cJ ok ([] : RS)])))) ++ (kRows cI lr1 ([] : RS))) ++ (((wTD cI cF cJ o2 oh b u2 d2 w2 a2 b2 k2 s2 T2 ++ (wFR cI cF cJ r0 r1 r2 r3 r4 r5 r6 r7 r8 F2 ++ [kOut cJ k2 ([] : RS)])) ++ kRows cI lr2 ([] : RS)) ++ wFR cI cF cJ tr t1 t2 t3 t4 t5 t6 t7 t8 Tr)) rearr1 hP hD
  refine lv_iconst (v := 0) hx hb dL_law_69 (by decide) ?_
  refine lv_istore (lv' := [(5, .int 0), (0, .ref b), (1, .int pt), (2, .ref oh), (3, .ref ot), (4, .ref o2)]) hx hb dL_law_70 hl (by decide) rfl (fun ls hl => ?_)
  refine w_acts_loop hx hb hml hts hown hK hA hE hr0 hr1 (res := res) (CT := cc + 216) (ST := ss + 2268) hcc hss (fun ok k2 rs1 rs2 H locs ls hP hD hS hl => ?_) 6 0 T1 F [] T2 F2 [] ok k2 [] [] H locs ls cc ss rfl rfl (by omega) (by omega) hP hD hS (lv_sub hl [0, 1, 2, 3, 4, 5] rfl) hf
  obtain ⟨hP, hD⟩ := sb_perm (w := (wTD cI cF cJ ot oh b ou od ow oa ob ok os res.1 ++ (wHB cI cF cJ oh fa tr rw Hb ++ (wFR cI cF cJ q0 q1 q2 q3 q4 q5 q6 q7 q8 res.2.1 ++ (wFR cI cF cJ r0 r1 r2 r3 r4 r5 r6 r7 r8 res.2.2.2 ++ wFR cI cF cJ tr t1 t2 t3 t4 t5 t6 t7 t8 Tr)))) ++ (wTD cI cF cJ o2 oh b u2 d2 w2 a2 b2 k2 s2 res.2.2.1 ++ ([kOut cJ ok rs1] ++ ([kOut cJ k2 rs2] ++ (kRows cI lr1 rs1 ++ kRows cI lr2 rs2))))) rearr0 hP hD
  refine lv_iconst (v := 0) hx hb dL_law_101 (by decide) ?_
  refine lv_istore (lv' := [(5, .int 0), (0, .ref b), (1, .int pt), (2, .ref oh), (3, .ref ot), (4, .ref o2)]) hx hb dL_law_102 hl (by decide) rfl (fun ls hl => ?_)
  exact kk ok H locs ls hP.left hD.left hS (lv_sub hl [1, 2, 3, 4, 0] rfl)
