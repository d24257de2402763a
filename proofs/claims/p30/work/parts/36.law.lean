-- laid by wip/p30/lawtop.py
noncomputable def l_k (L : Nat) (xs : Nat → Int32) (Hb : HB) (pt : Int32) : Nat → Int32 → TD → FR → FR → FR → Option Unit
  | 0, _, _, _, _, _ => none
  | n + 1, i, T, F, F2, Tr => if (4 : Int32) ≤ i then some () else obd (f_C1 L xs T Hb F F2 Tr) fun x => obd (f_C2 L xs x.1 x.2.2.1 x.2.2.2.1 Hb F F2 x.2.2.2.2) fun y => obd (f_C3 L xs x.1 x.2.2.1 x.2.2.2.1 Hb y.1 F2 y.2) fun z => obd (f_C4 L xs pt i x.2.1 x.2.2.2.1 Hb y.1 z.1 z.2) fun u => l_k L xs Hb pt n (i + 1) u.1 u.2.1 u.2.2.1 u.2.2.2
noncomputable def lrO (T : TD) : Nat := Int32.toNatClampNeg (2 * (nI (tN T)))
noncomputable def l_t (L : Nat) (xs : Nat → Int32) : Nat → Int32 → Option Unit
  | 0, _ => none
  | n + 1, i => if (3 : Int32) ≤ i then some () else obd (f_A1 L xs i) fun x => obd (f_acts L xs (lrO x.1) (lrO x.2.1) x.2.2.1 x.1 x.2.2.2.1 x.2.1 x.2.2.2.2.1) fun y => obd (l_k L xs x.2.2.1 i 5 0 y.1 y.2.1 y.2.2.2 x.2.2.2.2.2) fun _ => l_t L xs n (i + 1)
noncomputable def f_law (L : Nat) (xs : Nat → Int32) : Option Unit := l_t L xs 4 0
set_option maxHeartbeats 8000000 in
set_option maxRecDepth 100000 in
theorem w_k {p : Program} {l : Launch} {e : Env} {s : State} {m : MethodId} {args : Array Value} {below : List Frame} {meth : Method} {c : Code} {Q : State → Prop} {A : Nat → Prop} {dC : Nat → ClassId} {dI : Nat → Nat → Nat} {cI cF cJ cD : ClassId} {b L : Nat} {xs : Nat → Int32} {tA tB : Nat} (hx : p.tables.exec = Jvm.exec) (hb : c.code = cL_law) (hml : c.maxLocals = 19) (hts : ∀ w ∈ LW, w.before args s = true) (hown : s.vm.findClass RL = some m.cls) (hK : va_K (dC, dI) vwCl (TY cI cF cJ cD) s) (hA : ∀ q : Nat, s.heap.size ≤ q → A q) (hE : EX b L xs tA tB A s) {ot oh ou od ow oa ob ok os fa tr q0 q1 q2 q3 q4 q5 q6 q7 q8 r0 r1 r2 r3 r4 r5 r6 r7 r8 t1 t2 t3 t4 t5 t6 t7 t8 : Nat} {rw : Nat → Option Nat} {Hb : HB} {pt : Int32} (hq0 : f_X2_frameAt rw 0 = some (some q0)) (hq1 : f_X2_frameAt rw 1 = some (some r0)) (hr0 : rw (Int32.toNatClampNeg 0) = some q0) (hr1 : rw (Int32.toNatClampNeg 1) = some r0) (hr2 : rw (Int32.toNatClampNeg 2) = none) (hr3 : rw (Int32.toNatClampNeg 3) = none) {CT ST : Nat} (hCT : CT ≤ 600000) (hST : ST ≤ 7000000)
    (kk : ∀ (H : Heap) (locs : List Loc) (ls : Array Slot), va_S A s.heap H locs → lv_has ls 19 [(0, .ref b), (1, .int pt)] → W p l e room_1 s m args below meth c H locs CT ST Q (F0 m 579 ls [])) :
    ∀ (n : Nat) (i : Int32) (T : TD) (F F2 Tr : FR) (H : Heap) (locs : List Loc) (ls : Array Slot) (cc ss : Nat), cc + n * 5 ≤ CT → ss + n * 18 ≤ ST → (hFc Hb) = 2 → va_P (dC, dI) vwCl (wTD cI cF cJ ot oh b ou od ow oa ob ok os T ++ (wHB cI cF cJ oh fa tr rw Hb ++ (wFR cI cF cJ q0 q1 q2 q3 q4 q5 q6 q7 q8 F ++ (wFR cI cF cJ r0 r1 r2 r3 r4 r5 r6 r7 r8 F2 ++ (wFR cI cF cJ tr t1 t2 t3 t4 t5 t6 t7 t8 Tr))))) H → va_D A (wTD cI cF cJ ot oh b ou od ow oa ob ok os T ++ (wHB cI cF cJ oh fa tr rw Hb ++ (wFR cI cF cJ q0 q1 q2 q3 q4 q5 q6 q7 q8 F ++ (wFR cI cF cJ r0 r1 r2 r3 r4 r5 r6 r7 r8 F2 ++ (wFR cI cF cJ tr t1 t2 t3 t4 t5 t6 t7 t8 Tr))))) → va_S A s.heap H locs → lv_has ls 19 [(0, .ref b), (1, .int pt), (2, .ref oh), (3, .ref ot), (5, .int i)] → l_k L xs Hb pt n i T F F2 Tr = some () → W p l e room_1 s m args below meth c H locs cc ss Q (F0 m 104 ls []) := by
  intro n
  induction n with
  | zero =>
    intro i T F F2 Tr H locs ls cc ss hcc hss hfc hP hD hS hl hf
    rw [l_k] at hf
    cases hf
  | succ n ih =>
    intro i T F F2 Tr H locs ls cc ss hcc hss hfc hP hD hS hl hf
    rw [l_k] at hf
    refine lv_iload hx hb dL_law_104 (lv_at hl 4 rfl) ?_
    refine lv_iconst (v := 4) hx hb dL_law_106 (by decide) ?_
    refine lv_icmp_ge (tgt := 579) hx hb dL_law_107 (by decide) (fun c5 => ?_) (fun c5 => ?_)
    · refine W.widen (k := CT) (n := ST) (by omega) (by omega) ?_
      exact kk _ _ _ hS (lv_sub hl [0, 1] rfl)
    · have hf := ite_f hf c5
      obtain ⟨x, hx1, hf⟩ := obd_e hf
      obtain ⟨y, hy1, hf⟩ := obd_e hf
      obtain ⟨z, hz1, hf⟩ := obd_e hf
      obtain ⟨u, hu1, hf⟩ := obd_e hf
      refine w_C1 (pt := pt) (pk := i) hx hb hml hts hown hK hA hE hq0 hq1 hr0 hr1 hr2 hr3 hfc hx1 (by omega) (by omega) hP hD hS hl (fun qa H locs ls hP hD hS hl => ?_)
      refine w_C2 (pt := pt) (pk := i) (pp := x.2.1) hx hb hml hts hown hK hA hE hq0 hq1 hr0 hr1 hr2 hr3 hfc hy1 (by omega) (by omega) hP hD hS hl (fun H locs ls hP hD hS hl => ?_)
      refine w_C3 (pt := pt) (pk := i) (pp := x.2.1) hx hb hml hts hown hK hA hE hq0 hq1 hr0 hr1 hr2 hr3 hfc hz1 (by omega) (by omega) hP hD hS hl (fun H locs ls hP hD hS hl => ?_)
      refine w_C4 (pt := pt) (pk := i) (pn := x.1) (tk := x.2.2.1) hx hb hml hts hown hK hA hE hq0 hq1 hr0 hr1 hr2 hr3 hfc hu1 (by omega) (by omega) hP hD hS hl (fun H locs ls hP hD hS hl => ?_)
      refine lv_iinc (v := i + 1) (lv' := [(5, .int (i + 1)), (0, .ref b), (1, .int pt), (2, .ref oh), (3, .ref ot)]) hx hb dL_law_573 hl (k := 4) rfl rfl (by decide) rfl (fun ls hl => ?_)
      refine lv_goto (tgt := 104) hx hb dL_law_576 (by decide) ?_
      exact ih _ _ _ _ _ _ _ _ _ _ (by omega) (by omega) hfc hP hD hS (lv_sub hl [1, 2, 3, 4, 0] rfl) hf
theorem f_A1_fc {L : Nat} {xs : Nat → Int32} {i : Int32} {x : TD × TD × HB × FR × FR × FR} (h : f_A1 L xs i = some x) : (hFc x.2.2.1) = 2 := by
  rw [f_A1] at h
  obtain ⟨a, -, h⟩ := obd_e h
  have h := bnd_all h _ rfl
  have h := bnd_all h _ rfl
  obtain ⟨a1, -, h⟩ := obd_e h
  have h := bnd_all h _ rfl
  have h := bnd_all h _ rfl
  obtain ⟨a2, -, h⟩ := obd_e h
  obtain ⟨a3, -, h⟩ := obd_e h
  split at h
  · cases h
  obtain ⟨a4, -, h⟩ := obd_e h
  split at h
  · cases h
  obtain ⟨-, h⟩ := gd_e h
  obtain ⟨-, h⟩ := gd_e h
  obtain ⟨-, h⟩ := gd_e h
  obtain ⟨-, h⟩ := gd_e h
  obtain ⟨g, h⟩ := gd_e h
  obtain rfl := Option.some.inj h
  exact gdec_e g
set_option maxHeartbeats 8000000 in
set_option maxRecDepth 100000 in
theorem w_t {p : Program} {l : Launch} {e : Env} {s : State} {m : MethodId} {args : Array Value} {below : List Frame} {meth : Method} {c : Code} {Q : State → Prop} {A : Nat → Prop} {dC : Nat → ClassId} {dI : Nat → Nat → Nat} {cI cF cJ cD : ClassId} {b L : Nat} {xs : Nat → Int32} {tA tB : Nat} (hx : p.tables.exec = Jvm.exec) (hb : c.code = cL_law) (hml : c.maxLocals = 19) (hts : ∀ w ∈ LW, w.before args s = true) (hown : s.vm.findClass RL = some m.cls) (hK : va_K (dC, dI) vwCl (TY cI cF cJ cD) s) (hA : ∀ q : Nat, s.heap.size ≤ q → A q) (hE : EX b L xs tA tB A s) {CT ST : Nat} (hCT : CT ≤ 600000) (hST : ST ≤ 7000000)
    (kk : ∀ (H : Heap) (locs : List Loc) (ls : Array Slot), va_S A s.heap H locs → W p l e room_1 s m args below meth c H locs CT ST Q (F0 m 585 ls [])) :
    ∀ (n : Nat) (i : Int32) (H : Heap) (locs : List Loc) (ls : Array Slot) (cc ss : Nat), cc + n * 286 ≤ CT → ss + n * 3203 ≤ ST → va_S A s.heap H locs → lv_has ls 19 [(0, .ref b), (1, .int i)] → l_t L xs n i = some () → W p l e room_1 s m args below meth c H locs cc ss Q (F0 m 2 ls []) := by
  intro n
  induction n with
  | zero =>
    intro i H locs ls cc ss hcc hss hS hl hf
    rw [l_t] at hf
    cases hf
  | succ n ih =>
    intro i H locs ls cc ss hcc hss hS hl hf
    rw [l_t] at hf
    refine lv_iload_n hx hb dL_law_2 rfl (lv_at hl 1 rfl) ?_
    refine lv_iconst (v := 3) hx hb dL_law_3 (by decide) ?_
    refine lv_icmp_ge (tgt := 585) hx hb dL_law_4 (by decide) (fun c5 => ?_) (fun c5 => ?_)
    · refine W.widen (k := CT) (n := ST) (by omega) (by omega) ?_
      exact kk _ _ _ hS
    · have hf := ite_f hf c5
      obtain ⟨x, hx1, hf⟩ := obd_e hf
      obtain ⟨y, hy1, hf⟩ := obd_e hf
      obtain ⟨z, hz1, hf⟩ := obd_e hf
      have hfc : (hFc x.2.2.1) = 2 := f_A1_fc hx1
      refine w_A1 (pt := i) hx hb hml hts hown hK hA hE hx1 (by omega) (by omega) (fun k q h => by cases h) ⟨fun i j p q h => (by cases h), fun k q h => (by cases h)⟩ hS hl (fun ot oh ou od ow oa ob ok os o2 u2 d2 w2 a2 b2 k2 s2 fa tr q0 q1 q2 q3 q4 q5 q6 q7 q8 r0 r1 r2 r3 r4 r5 r6 r7 r8 t1 t2 t3 t4 t5 t6 t7 t8 rw hr0 hr1 hr2 hr3 H locs ls hP hD hS hl => ?_)
      refine w_acts hx hb hml hts hown hK hA hE hr0 hr1 hy1 (by omega) (by omega) hP hD hS hl (fun ok H locs ls hP hD hS hl => ?_)
      refine w_k (pt := i) hx hb hml hts hown hK hA hE (row0 rfl hr0) (row1 rfl hr1) hr0 hr1 hr2 hr3 (CT := cc + 286) (ST := ss + 3203) (by omega) (by omega) (fun H locs ls hS hl => ?_) 5 0 y.1 y.2.1 y.2.2.2 x.2.2.2.2.2 H locs ls (cc + 45 + 216) (ss + 845 + 2268) (by omega) (by omega) hfc hP hD hS hl hz1
      refine lv_iinc (v := i + 1) (lv' := [(1, .int (i + 1)), (0, .ref b)]) hx hb dL_law_579 hl (k := 1) rfl rfl (by decide) rfl (fun ls hl => ?_)
      refine lv_goto (tgt := 2) hx hb dL_law_582 (by decide) ?_
      exact ih _ _ _ _ _ _ (by omega) (by omega) hS (lv_sub hl [1, 0] rfl) hf
set_option maxHeartbeats 8000000 in
set_option maxRecDepth 100000 in
theorem w_law {p : Program} {l : Launch} {e : Env} {s : State} {m : MethodId} {args : Array Value} {below : List Frame} {meth : Method} {c : Code} {Q : State → Prop} {A : Nat → Prop} {dC : Nat → ClassId} {dI : Nat → Nat → Nat} {cI cF cJ cD : ClassId} {b L : Nat} {xs : Nat → Int32} {tA tB : Nat} (hx : p.tables.exec = Jvm.exec) (hb : c.code = cL_law) (hml : c.maxLocals = 19) (hts : ∀ w ∈ LW, w.before args s = true) (hown : s.vm.findClass RL = some m.cls) (hK : va_K (dC, dI) vwCl (TY cI cF cJ cD) s) (hA : ∀ q : Nat, s.heap.size ≤ q → A q) (hE : EX b L xs tA tB A s) (hf : f_law L xs = some ()) {ls : Array Slot} (hl : lv_has ls 19 [(0, .ref b)])
    (kk : ∀ (H : Heap) (locs : List Loc) (ls : Array Slot), va_S A s.heap H locs → W p l e room_1 s m args below meth c H locs 600000 7000000 Q (F0 m 586 ls [.int 1])) : W p l e room_1 s m args below meth c s.heap [] 0 0 Q (F0 m 0 ls []) := by
  refine lv_iconst (v := 0) hx hb dL_law_0 (by decide) ?_
  refine lv_istore_n (lv' := [(1, .int 0), (0, .ref b)]) hx hb dL_law_1 rfl hl (by decide) rfl (fun ls hl => ?_)
  refine w_t hx hb hml hts hown hK hA hE (CT := 600000) (ST := 7000000) (Nat.le_refl _) (Nat.le_refl _) (fun H locs ls hS => ?_) 4 0 s.heap [] ls 0 0 (by omega) (by omega) va_S.rf (lv_sub hl [1, 0] rfl) hf
  refine lv_iconst (v := 1) hx hb dL_law_585 (by decide) ?_
  exact kk _ _ _ hS
