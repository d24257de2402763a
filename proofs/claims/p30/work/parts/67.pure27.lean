-- the pure level, 27: the other frame adds; the hardest digit holds
theorem C3_s {L k n m N : Nat} {xs : Nat → Int32} {a : AS} {F G : FR} {T : TD} {Hb : HB} {tk : Nat → UInt64} (h : rep k n a F) (hw : wf k n m a) (hm : m + 8000 < 2 ^ 21) (hN : N < 100) (ht : D16 (dT k n N a) (tk 1)) (hq : ringOk (kpt F)) (Tr : FR) :
    ∃ F' Tr', f_C3 L xs (nI N) tk T Hb G F Tr = some (F', Tr') ∧ rep k n (aAdds k n N n a) F' ∧ ringOk (kpt F') := by
  have p1 : 10 ^ 2 ≤ 10 ^ n := Nat.pow_le_pow_right (by decide) hw.2.1
  have hT1 := hw.2.2.2.2.2.2
  have w2 := adds_wf (N := N) hw
  have hT2 := w2.2.2.2.2.2.2
  obtain ⟨z, e0, d0⟩ := seconds_s (Hb := Hb) (p0 := 1) h hw (by omega)
  obtain ⟨T1, e1⟩ := would_s (Hb := Hb) (p0 := 1) h hw hm (N := N) (w := 0) (by omega) (by decide) Tr
  obtain ⟨T2, e2⟩ := would_s (Hb := Hb) (p0 := 1) h hw hm (N := N) (w := 1) (by omega) (by decide) T1
  obtain ⟨T3, e3⟩ := would_s (Hb := Hb) (p0 := 1) h hw hm (N := N) (w := 2) (by omega) (by decide) T2
  obtain ⟨T4, e4⟩ := would_s (Hb := Hb) (p0 := 1) h hw hm (N := N) (w := 3) (by omega) (by decide) T3
  have e1 : f_X2_would Hb F Tr 1 (nI N) 0 = some (nI (aP (aAdds k n N n a)) - nI (aP a), T1) := e1
  have e2 : f_X2_would Hb F T1 1 (nI N) 1 = some (nI (aB (aAdds k n N n a)) - nI (aB a), T2) := e2
  have e3 : f_X2_would Hb F T2 1 (nI N) 2 = some (nI (aC (aAdds k n N n a)) - nI (aC a), T3) := e3
  have e4 : f_X2_would Hb F T3 1 (nI N) 3 = some (nI (aS (aAdds k n N n a)) - nI (aS a), T4) := e4
  obtain ⟨F1, f1, r1, q1⟩ := keepBeads_s h hq
  obtain ⟨F2, f2, r2, k2⟩ := addX_s (Hb := Hb) (p0 := 1) h hw hm (N := N) (by omega) f1 r1
  obtain ⟨y, e5, d5⟩ := seconds_s (Hb := Hb) (p0 := 1) r2 w2 (by omega)
  obtain ⟨o1, o2, o3, o4⟩ := of_s (F := F) (Hb := Hb) (p0 := 1)
  obtain ⟨s1, s2, s3, s4⟩ := of_s (F := F2) (Hb := Hb) (p0 := 1)
  have ds := D16_add d0 ht (by unfold dT; omega)
  have dc : Op.cmpValue (FP.dcmp y (FP.dadd z (tk 1))) CmpOp.l = 0 := by
    rcases cmp_l (op := CmpOp.l) d5 ds with ⟨c, e⟩ | ⟨c, e⟩ | ⟨c, e⟩
    · unfold dT at c; omega
    · exact e
    · unfold dT at c; omega
  have h' := h
  obtain ⟨-, -, -, -, -, -, h7, h8, h9, -, h11⟩ := h'
  have r' := r2
  obtain ⟨-, -, -, -, -, -, g7, g8, g9, -, g11⟩ := r'
  rw [f_C3, e0, obd_s, e1, obd_s, show gin 0 4 = true by decide, gd_t, e2, obd_s, show gin 1 4 = true by decide, gd_t, e3, obd_s, show gin 2 4 = true by decide, gd_t, e4, obd_s, show gin 3 4 = true by decide, gd_t, o1, obd_s, gd_t, o2, obd_s, gd_t, o3, obd_s, gd_t, o4, obd_s, gd_t, f2, obd_s, gd_t, bnd_k]
  dsimp only
  rw [z5_0, cl1, cl2, cl3, u40, if_pos rfl, e5, obd_s, show gin 1 2 = true by decide, gd_t, bnd_k, D16_nn ds, gd_t, bnd_k, bnd_k, dc, if_pos rfl]
  rw [s1, obd_s, gd_t, bnd_k, u40, gd_t, bnd_k, bnd_k, h7, nI_subI, g7, if_pos rfl]
  rw [s2, obd_s, gd_t, bnd_k, u41, gd_t, bnd_k, u41, bnd_k, h8, nI_subI, g8, if_pos rfl]
  rw [s3, obd_s, gd_t, bnd_k, u42, gd_t, bnd_k, u42, bnd_k, h9, nI_subI, g9, if_pos rfl]
  rw [s4, obd_s, gd_t, bnd_k, u43, gd_t, bnd_k, u43, bnd_k, h11, nI_subI, g11, if_pos rfl]
  exact ⟨F2, T4, rfl, r2, by rw [k2]; exact q1⟩
theorem unit_l {c1 c5 : Int32} {R0 : TD} {R1 : HB} {R2 R3 R4 : FR} {L r : Nat} {xs : Nat → Int32} (hr : r < 8) (kk : Int32 → Int32 → Option (TD × FR × FR × FR)) : ∀ (j i g : Nat), i + j = r → j < g → l_C4_469 c1 c5 (nI r) R0 R1 R2 R3 R4 L xs kk g (nI (10 ^ i)) (nI i) = kk (nI (10 ^ r)) (nI r) := by
  intro j
  induction j with
  | zero =>
    intro i g hi hg
    obtain ⟨g, rfl⟩ : ∃ g', g = g' + 1 := ⟨g - 1, by omega⟩
    obtain rfl : i = r := by omega
    rw [l_C4_469, if_pos (nI_le (Nat.le_refl _) (by omega))]
  | succ j ih =>
    intro i g hi hg
    obtain ⟨g, rfl⟩ : ∃ g', g = g' + 1 := ⟨g - 1, by omega⟩
    rw [l_C4_469, if_neg (nI_ge (by omega) (by omega)), bnd_k, bnd_k, nI_1, show nI (10 ^ i) * 10 = nI (10 ^ (i + 1)) from by rw [Nat.pow_succ]; exact nI_mul _ 10]
    exact ih (i + 1) g (by omega) (by omega)
theorem wouldD_s {k n m r c : Nat} {a : AS} {F : FR} {Hb : HB} (h : rep k n a F) (hw : wf k n m a) (hm : m + 8000 < 2 ^ 21) (hr : r < n) (hc : c ≤ 9) (Tr : FR) :
    ∃ Tr', f_X2_would Hb F Tr 0 (nI c * nI (10 ^ r)) 0 = some (nI (PB k n r a c - aP a), Tr') := by
  have h1 : c * 10 ^ r < 10 ^ n := by
    have h3 : c * 10 ^ r < 10 * 10 ^ r := Nat.mul_lt_mul_of_pos_right (by omega) (Nat.pow_pos (by decide))
    have h4 : 10 ^ (r + 1) ≤ 10 ^ n := Nat.pow_le_pow_right (by decide) (by omega)
    rw [Nat.pow_succ] at h4
    omega
  obtain ⟨T1, e⟩ := would_s (Hb := Hb) (p0 := 0) h hw hm (N := c * 10 ^ r) (w := 0) h1 (by decide) Tr
  have e : f_X2_would Hb F Tr 0 (nI (c * 10 ^ r)) 0 = some (nI (aP (aAdds k n (c * 10 ^ r) n a)) - nI (aP a), T1) := e
  rw [adds_one hr hc] at e
  rw [nI_mul, e, show nI (aP (aBring k (n - r) r c a)) - nI (aP a) = nI (PB k n r a c - aP a) from nI_subN (mo_bring (k := k) (n - r) r c a).1]
  exact ⟨T1, rfl⟩
theorem most_l {L k n m r : Nat} {xs : Nat → Int32} {a : AS} {F G : FR} {Hb : HB} {c1 c5 : Int32} {R0 : TD} (h : rep k n a F) (hw : wf k n m a) (hm : m + 8000 < 2 ^ 21) (hr : r < n) (kk : Int32 → FR → Option (TD × FR × FR × FR)) : ∀ (j i g : Nat) (Tr : FR), i + j = 10 → 1 ≤ i → j < g →
    ∃ Tr', l_C4_514 c1 c5 (nI (hardN (PB k n r a) 8)) (nI (10 ^ r)) (nI (PB k n r a (hardN (PB k n r a) 8) - aP a)) R0 Hb F G L xs kk g (nI i) Tr = kk 10 Tr' := by
  have hn := hw.2.2.1
  obtain ⟨o1, o2, o3⟩ := hardN_ok (PB k n r a) 8
  have hP : ∀ c, c ≤ 9 → aP a ≤ PB k n r a c ∧ PB k n r a c - aP a < 2 ^ 21 := fun c hc => by
    have h1 := mo_bring (k := k) (n - r) r c a
    have h2 := bring_wf (i := r) (more := c) hw hc
    exact ⟨h1.1, (pushes_s h1 h2 (by omega)).2⟩
  intro j
  induction j with
  | zero =>
    intro i g Tr hi h1 hg
    obtain ⟨g, rfl⟩ : ∃ g', g = g' + 1 := ⟨g - 1, by omega⟩
    obtain rfl : i = 10 := by omega
    rw [l_C4_514, if_pos (by decide)]
    exact ⟨Tr, rfl⟩
  | succ j ih =>
    intro i g Tr hi h1 hg
    obtain ⟨g, rfl⟩ : ∃ g', g = g' + 1 := ⟨g - 1, by omega⟩
    obtain ⟨T1, e⟩ := wouldD_s (Hb := Hb) h hw hm hr (c := i) (by omega) Tr
    have hi9 := hP i (by omega)
    have hh9 := hP (hardN (PB k n r a) 8) (by omega)
    obtain ⟨s1, s2⟩ := o3 i h1 (by omega)
    rw [l_C4_514, if_neg (show ¬ (10 : Int32) ≤ nI i from nI_ge (b := 10) (by omega) (by decide)), bnd_k, e, obd_s, if_neg (nI_nlt (by omega) (by omega)), bnd_k, nI_1]
    dsimp only
    by_cases c : nI (PB k n r a i - aP a) = nI (PB k n r a (hardN (PB k n r a) 8) - aP a)
    · have c2 := (nI_eq (by omega) (by omega)).mp c
      rw [if_pos c, if_pos (nI_le (show hardN (PB k n r a) 8 ≤ i by
        refine Nat.le_of_not_lt fun z => ?_
        have := s2 z
        omega) (by omega))]
      exact ih (i + 1) g T1 (by omega) (by omega) (by omega)
    · rw [if_neg c]
      exact ih (i + 1) g T1 (by omega) (by omega) (by omega)
theorem C4_s {L k n m r : Nat} {xs : Nat → Int32} {a : AS} {F G : FR} {T T' : TD} {F' G' : FR} {Hb : HB} {pt pk : Int32} (h : rep k n a F) (hw : wf k n m a) (hm : m + 8000 < 2 ^ 21) (hr : r < n) (ht : f_L_isTogether L xs T Hb F G = some (1, T', F', G')) (Tr : FR) :
    ∃ Tr', f_C4 L xs pt pk (nI r) T Hb F G Tr = some (T', F', G', Tr') := by
  have hn := hw.2.2.1
  obtain ⟨o1, o2, o3⟩ := hardN_ok (PB k n r a) 8
  obtain ⟨T1, e1⟩ := hardest_s (Hb := Hb) (p0 := 0) h hw hm hr Tr
  obtain ⟨T2, e2⟩ := wouldD_s (Hb := Hb) h hw hm hr (c := hardN (PB k n r a) 8) (by omega) T1
  have ku : ∀ kk, l_C4_469 pt pk (nI r) T Hb F G Tr L xs kk 16 1 0 = kk (nI (10 ^ r)) (nI r) := fun kk => by
    have := unit_l (c1 := pt) (c5 := pk) (R0 := T) (R1 := Hb) (R2 := F) (R3 := G) (R4 := Tr) (L := L) (xs := xs) (r := r) (by omega) kk r 0 16 (by omega) (by omega)
    rw [Nat.pow_zero, nI_0] at this
    exact this
  obtain ⟨T3, e3⟩ : ∃ T3, ∀ kk, ∃ T4, l_C4_514 pt pk (nI (hardN (PB k n r a) 8)) (nI (10 ^ r)) (nI (PB k n r a (hardN (PB k n r a) 8) - aP a)) T Hb F G L xs kk 16 1 T2 = kk 10 T4 := ⟨T2, fun kk => most_l (c1 := pt) (c5 := pk) (R0 := T) (G := G) (L := L) (xs := xs) (Hb := Hb) h hw hm hr kk 9 1 16 T2 (by decide) (by decide) (by decide)⟩
  rw [f_C4, ku, e1, obd_s, bnd_k, e2, obd_s]
  obtain ⟨T4, e4⟩ := e3 (fun (a40 : Int32) (F41 : FR) => obd (f_L_isTogether L xs T Hb F G) fun x42 => if x42.1 = 0 then (none) else (some (x42.2.1, x42.2.2.1, x42.2.2.2, F41)))
  refine ⟨T4, Eq.trans e4 ?_⟩
  rw [ht, obd_s, if_neg (by show ¬ (1 : Int32) = 0; decide)]
