-- the pure level, 26: asking, adding
theorem cl1 : Int32.toNatClampNeg 1 = 1 := by decide
/-- by how much the time grows when N is added -/
def dT (k n N : Nat) (a : AS) : Int := (aT (aAdds k n N n a) : Int) - (aT a : Int)
def C1ok (k1 n1 k2 n2 e : Nat) (a b : AS) (T : TD) (r : Option (Int32 × Int32 × (Nat → UInt64) × TD × FR)) : Prop :=
  ∃ N rd e' tk Tr, r = some (nI N, nI rd, tk, stDr T (nI e'), Tr) ∧ N < 100 ∧ rd < n1 ∧ e' ≤ e + 10 ∧ D16 (dT k1 n1 N a) (tk 0) ∧ D16 (dT k2 n2 N b) (tk 1)
theorem quicker_s {k1 n1 k2 n2 m N : Nat} {a b : AS} {F G : FR} {Hb : HB} (h : rep k1 n1 a F) (hw : wf k1 n1 m a) (g : rep k2 n2 b G) (gw : wf k2 n2 m b) (hm : m + 8000 < 2 ^ 21) (hN : N < 100) (Tr : FR) :
    ∃ Tr', f_X2_quicker Hb F G Tr (nI N) = some (nI (quick (dT k1 n1 N a) (dT k2 n2 N b)), Tr') := by
  have p1 : 10 ^ 2 ≤ 10 ^ n1 := Nat.pow_le_pow_right (by decide) hw.2.1
  have p2 : 10 ^ 2 ≤ 10 ^ n2 := Nat.pow_le_pow_right (by decide) gw.2.1
  obtain ⟨T1, e1⟩ := quickTo_s (Hb := Hb) h hw g gw hm (N := N) (by omega) Tr
  rw [f_X2_quicker, show f_X2_foundFrame Hb 0 = some () from rfl, obd_s, show f_X2_foundFrame Hb 1 = some () from rfl, obd_s, if_pos (show (0 : Int32) ≤ nI N from nI_le (a := 0) (Nat.zero_le _) (by omega)), bnd_k, nI_l (by omega), hasRodsFor_s h hw.2.2.1 (by omega), obd_s, if_pos (show N < 10 ^ n1 by omega), if_neg (by decide), bnd_k, hasRodsFor_s g gw.2.2.1 (by omega), obd_s, if_pos (show N < 10 ^ n2 by omega), if_neg (by decide), e1, obd_s]
  exact ⟨T1, rfl⟩
theorem vf0 {x y : UInt64} : vf_upd (vf_upd (fun _ => (0 : UInt64)) 0 x) 1 y 0 = x := rfl
theorem vf1 {x y : UInt64} : vf_upd (vf_upd (fun _ => (0 : UInt64)) 0 x) 1 y 1 = y := rfl
theorem quick_tail {d1 d2 : Int} {z0 z1 : UInt64} {β : Type} {R : Option β} (h0 : D16 d1 z0) (h1 : D16 d2 z1) {P : Option β → Prop} (hR : P R) :
    P (gd (gin (nI (quick d1 d2)) 2) <| bnd ((vf_upd (vf_upd (fun _ => 0) 0 z0) 1 z1) (Int32.toNatClampNeg (nI (quick d1 d2)))) fun (v18 : UInt64) => bnd (1 - nI (quick d1 d2)) fun (v19 : Int32) => gd (gin v19 2) <| bnd ((vf_upd (vf_upd (fun _ => 0) 0 z0) 1 z1) (Int32.toNatClampNeg v19)) fun (v21 : UInt64) => bnd (Op.cmpValue (FP.dcmp v18 v21) CmpOp.l) fun (v22 : Int32) => if (0 : Int32) < v22 then (none) else (gd (gin 0 2) <| bnd ((vf_upd (vf_upd (fun _ => 0) 0 z0) 1 z1) 0) fun (v25 : UInt64) => gd (gin 1 2) <| bnd ((vf_upd (vf_upd (fun _ => 0) 0 z0) 1 z1) 1) fun (v27 : UInt64) => bnd (Op.cmpValue (FP.dcmp v25 v27) CmpOp.l) fun (v28 : Int32) => if v28 = 0 then (if nI (quick d1 d2) = 0 then R else none) else R)) := by
  unfold quick
  by_cases c : d1 ≤ d2
  · rw [if_pos c, show gin (nI 0) 2 = true by decide, gd_t, bnd_k, bnd_k, show gin (1 - nI 0) 2 = true by decide, gd_t, bnd_k, show Int32.toNatClampNeg (nI 0) = 0 by decide, show Int32.toNatClampNeg (1 - nI 0) = 1 by decide, vf0, vf1, show gin 0 2 = true by decide, gd_t, show gin 1 2 = true by decide, bnd_k, bnd_k, gd_t, bnd_k, bnd_k]
    rcases cmp_l (op := CmpOp.l) h0 h1 with ⟨c2, e⟩ | ⟨c2, e⟩ | ⟨c2, e⟩
    · rw [e, if_neg (by decide), if_neg (by decide)]
      exact hR
    · rw [e, if_neg (by decide), if_pos rfl, if_pos (by decide)]
      exact hR
    · omega
  · rw [if_neg c, show gin (nI 1) 2 = true by decide, gd_t, bnd_k, bnd_k, show gin (1 - nI 1) 2 = true by decide, gd_t, bnd_k, show Int32.toNatClampNeg (nI 1) = 1 by decide, show Int32.toNatClampNeg (1 - nI 1) = 0 by decide, vf0, vf1, show gin 0 2 = true by decide, gd_t, show gin 1 2 = true by decide, bnd_k, bnd_k, gd_t, bnd_k, bnd_k]
    rcases cmp_l (op := CmpOp.l) h1 h0 with ⟨c2, e⟩ | ⟨c2, e⟩ | ⟨c2, e⟩
    · rcases cmp_l (op := CmpOp.l) h0 h1 with ⟨c3, e3⟩ | ⟨c3, e3⟩ | ⟨c3, e3⟩
      · omega
      · omega
      · rw [e, e3, if_neg (by decide), if_neg (by decide)]
        exact hR
    · omega
    · omega
theorem C1_s {L k1 n1 k2 n2 m e : Nat} {xs : Nat → Int32} {a b : AS} {F G : FR} {T : TD} {Hb : HB} (hL : L ≤ 260) (h : rep k1 n1 a F) (hw : wf k1 n1 m a) (g : rep k2 n2 b G) (gw : wf k2 n2 m b) (hm : m + 8000 < 2 ^ 21) (hF : hFc Hb = 2) (hN : tN T = n1) (hd : tDr T = nI e) (he : e + 100 < 2 ^ 20) (Tr : FR) : C1ok k1 n1 k2 n2 e a b T (f_C1 L xs T Hb F G Tr) := by
  have hn := hw.2.2.1
  have hn2 := hw.2.1
  obtain ⟨v, hv⟩ := digest_s (Hb := Hb) h hw g gw hm hF
  obtain ⟨q, hq3, eq⟩ := draw_s (L := L) (xs := xs) hL hd (by omega) (p := 3) (by decide) (by decide)
  have eq : f_X3_draw L xs T 3 = some (nI q, stDr T (nI (e + 1))) := eq
  rw [f_C1, eq, obd_s]
  refine jn_Q (P := C1ok k1 n1 k2 n2 e a b T) (Q := fun J => ∀ N e', N < 100 → e' ≤ e + 2 → C1ok k1 n1 k2 n2 e a b T (J (nI N) (stDr T (nI e')) Tr)) ?_ ?_
  · intro N e' hN1 he'
    have p1 : 10 ^ 2 ≤ 10 ^ n1 := Nat.pow_le_pow_right (by decide) hw.2.1
    have p2 : 10 ^ 2 ≤ 10 ^ n2 := Nat.pow_le_pow_right (by decide) gw.2.1
    obtain ⟨T1, e1⟩ := hv Tr
    obtain ⟨T2, e2⟩ := quicker_s (Hb := Hb) h hw g gw hm hN1 T1
    obtain ⟨z0, T3, e3, d0⟩ := wouldTake_s (Hb := Hb) (p0 := 0) h hw hm (N := N) (by omega) T2
    obtain ⟨z1, T4, e4, d1⟩ := wouldTake_s (Hb := Hb) (p0 := 1) g gw hm (N := N) (by omega) T3
    obtain ⟨rd, hrd, e5⟩ := draw_s (L := L) (xs := xs) hL (T := stDr T (nI e')) (e := e') rfl (by omega) (p := n1) (by omega) (by omega)
    have e5 : f_X3_draw L xs (stDr T (nI e')) (nI n1) = some (nI rd, stDr T (nI (e' + 1))) := e5
    obtain ⟨T5, e6⟩ := hardest_s (Hb := Hb) (p0 := 0) h hw hm hrd T4
    obtain ⟨T6, e7⟩ := hv T5
    obtain ⟨o1, o2, -⟩ := hardN_ok (PB k1 n1 rd a) 8
    dsimp only
    rw [e1, obd_s, e2, obd_s, e3, obd_s, show gin 0 2 = true by decide, gd_t, e4, obd_s, show gin 1 2 = true by decide, gd_t, show tN (stDr T (nI e')) = n1 from hN, e5, obd_s, e6, obd_s, e7, obd_s, bnd_k, if_pos ((lg_cmp_eq _ _).mpr rfl)]
    dsimp only
    rw [z5_0, cl1]
    have hR : C1ok k1 n1 k2 n2 e a b T (if nI (hardN (PB k1 n1 rd a) 8) < 1 then none else if nI (hardN (PB k1 n1 rd a) 8) ≤ 9 then some (nI N, nI rd, vf_upd (vf_upd (fun _ => 0) 0 z0) 1 z1, stDr T (nI (e' + 1)), T6) else none) := by
      rw [if_neg (show ¬ nI (hardN (PB k1 n1 rd a) 8) < 1 from nI_nlt (b := 1) (by omega) (by omega)), if_pos (show nI (hardN (PB k1 n1 rd a) 8) ≤ (9 : Int32) from nI_le (b := 9) (by omega) (by decide))]
      exact ⟨N, rd, e' + 1, _, T6, rfl, hN1, hrd, by omega, d0, d1⟩
    have := quick_tail d0 d1 hR
    rw [show gin 0 2 = true by decide, show gin 1 2 = true by decide] at this
    simp only [gd_t] at this
    exact this
  · intro J hJ
    refine ite_P (fun _ => ?_) (fun _ => ?_)
    · obtain ⟨r, hr, er⟩ := draw_s (L := L) (xs := xs) hL (T := stDr T (nI (e + 1))) (e := e + 1) rfl (by omega) (p := 100) (by decide) (by decide)
      have er : f_X3_draw L xs (stDr T (nI (e + 1))) 100 = some (nI r, stDr T (nI (e + 1 + 1))) := er
      rw [er, obd_s]
      exact hJ r (e + 1 + 1) hr (by omega)
    · obtain ⟨r, hr, er⟩ := draw_s (L := L) (xs := xs) hL (T := stDr T (nI (e + 1))) (e := e + 1) rfl (by omega) (p := 10) (by decide) (by decide)
      have er : f_X3_draw L xs (stDr T (nI (e + 1))) 10 = some (nI r, stDr T (nI (e + 1 + 1))) := er
      rw [er, obd_s]
      exact hJ r (e + 1 + 1) (by omega) (by omega)
theorem seconds_s {k n m : Nat} {a : AS} {F : FR} {Hb : HB} {p0 : Int32} (h : rep k n a F) (hw : wf k n m a) (hm : m < 2 ^ 21) : ∃ z, f_X2_seconds Hb F p0 = some z ∧ D16 (aT a : Int) z := by
  have ht := hw.2.2.2.2.2.2
  have d1 := F16_f2d h.2.2.2.2.2.1 (by omega)
  rw [f_X2_seconds, show f_X2_foundFrame Hb p0 = some () from rfl, obd_s, D16_nn d1, gd_t, bnd_k]
  exact ⟨_, rfl, d1⟩
theorem of_s {F : FR} {Hb : HB} {p0 : Int32} : f_X2_ofFrame Hb F p0 2 = some (fPu F) ∧ f_X2_ofFrame Hb F p0 3 = some (fBd F) ∧ f_X2_ofFrame Hb F p0 4 = some (fCa F) ∧ f_X2_ofFrame Hb F p0 6 = some (fSp F) := ⟨rfl, rfl, rfl, rfl⟩
theorem u40 {a b c d : Int32} : upd (upd (upd (upd (fun _ => (0 : Int32)) 0 a) 1 b) 2 c) 3 d 0 = a := rfl
theorem u41 {a b c d : Int32} : upd (upd (upd (upd (fun _ => (0 : Int32)) 0 a) 1 b) 2 c) 3 d 1 = b := rfl
theorem u42 {a b c d : Int32} : upd (upd (upd (upd (fun _ => (0 : Int32)) 0 a) 1 b) 2 c) 3 d 2 = c := rfl
theorem u43 {a b c d : Int32} : upd (upd (upd (upd (fun _ => (0 : Int32)) 0 a) 1 b) 2 c) 3 d 3 = d := rfl
theorem C2_s {L k n m N : Nat} {xs : Nat → Int32} {a : AS} {F G : FR} {T : TD} {Hb : HB} {tk : Nat → UInt64} (h : rep k n a F) (hw : wf k n m a) (hm : m + 8000 < 2 ^ 21) (hN : N < 100) (ht : D16 (dT k n N a) (tk 0)) (hq : ringOk (kpt F)) (Tr : FR) :
    ∃ F' Tr', f_C2 L xs (nI N) tk T Hb F G Tr = some (F', Tr') ∧ rep k n (aAdds k n N n a) F' ∧ ringOk (kpt F') := by
  have p1 : 10 ^ 2 ≤ 10 ^ n := Nat.pow_le_pow_right (by decide) hw.2.1
  have hT1 := hw.2.2.2.2.2.2
  have w2 := adds_wf (N := N) hw
  have hT2 := w2.2.2.2.2.2.2
  obtain ⟨z, e0, d0⟩ := seconds_s (Hb := Hb) (p0 := 0) h hw (by omega)
  obtain ⟨T1, e1⟩ := would_s (Hb := Hb) (p0 := 0) h hw hm (N := N) (w := 0) (by omega) (by decide) Tr
  obtain ⟨T2, e2⟩ := would_s (Hb := Hb) (p0 := 0) h hw hm (N := N) (w := 1) (by omega) (by decide) T1
  obtain ⟨T3, e3⟩ := would_s (Hb := Hb) (p0 := 0) h hw hm (N := N) (w := 2) (by omega) (by decide) T2
  obtain ⟨T4, e4⟩ := would_s (Hb := Hb) (p0 := 0) h hw hm (N := N) (w := 3) (by omega) (by decide) T3
  have e1 : f_X2_would Hb F Tr 0 (nI N) 0 = some (nI (aP (aAdds k n N n a)) - nI (aP a), T1) := e1
  have e2 : f_X2_would Hb F T1 0 (nI N) 1 = some (nI (aB (aAdds k n N n a)) - nI (aB a), T2) := e2
  have e3 : f_X2_would Hb F T2 0 (nI N) 2 = some (nI (aC (aAdds k n N n a)) - nI (aC a), T3) := e3
  have e4 : f_X2_would Hb F T3 0 (nI N) 3 = some (nI (aS (aAdds k n N n a)) - nI (aS a), T4) := e4
  obtain ⟨F1, f1, r1, q1⟩ := keepBeads_s h hq
  obtain ⟨F2, f2, r2, k2⟩ := addX_s (Hb := Hb) (p0 := 0) h hw hm (N := N) (by omega) f1 r1
  obtain ⟨y, e5, d5⟩ := seconds_s (Hb := Hb) (p0 := 0) r2 w2 (by omega)
  obtain ⟨o1, o2, o3, o4⟩ := of_s (F := F) (Hb := Hb) (p0 := 0)
  obtain ⟨s1, s2, s3, s4⟩ := of_s (F := F2) (Hb := Hb) (p0 := 0)
  have ds := D16_add d0 ht (by unfold dT; omega)
  have dc : Op.cmpValue (FP.dcmp y (FP.dadd z (tk 0))) CmpOp.l = 0 := by
    rcases cmp_l (op := CmpOp.l) d5 ds with ⟨c, e⟩ | ⟨c, e⟩ | ⟨c, e⟩
    · unfold dT at c; omega
    · exact e
    · unfold dT at c; omega
  have h' := h
  obtain ⟨-, -, -, -, -, -, h7, h8, h9, -, h11⟩ := h'
  have r' := r2
  obtain ⟨-, -, -, -, -, -, g7, g8, g9, -, g11⟩ := r'
  rw [f_C2, e0, obd_s, e1, obd_s, show gin 0 4 = true by decide, gd_t, e2, obd_s, show gin 1 4 = true by decide, gd_t, e3, obd_s, show gin 2 4 = true by decide, gd_t, e4, obd_s, show gin 3 4 = true by decide, gd_t, o1, obd_s, gd_t, o2, obd_s, gd_t, o3, obd_s, gd_t, o4, obd_s, gd_t, f2, obd_s, gd_t, bnd_k]
  dsimp only
  rw [z5_0, cl1, cl2, cl3, u40, if_pos rfl, e5, obd_s, show gin 0 2 = true by decide, gd_t, bnd_k, D16_nn ds, gd_t, bnd_k, bnd_k, dc, if_pos rfl]
  rw [s1, obd_s, gd_t, bnd_k, u40, gd_t, bnd_k, bnd_k, h7, nI_subI, g7, if_pos rfl]
  rw [s2, obd_s, gd_t, bnd_k, u41, gd_t, bnd_k, u41, bnd_k, h8, nI_subI, g8, if_pos rfl]
  rw [s3, obd_s, gd_t, bnd_k, u42, gd_t, bnd_k, u42, bnd_k, h9, nI_subI, g9, if_pos rfl]
  rw [s4, obd_s, gd_t, bnd_k, u43, gd_t, bnd_k, u43, bnd_k, h11, nI_subI, g11, if_pos rfl]
  exact ⟨F2, T4, rfl, r2, by rw [k2]; exact q1⟩
