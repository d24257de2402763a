-- the pure level, 13: a number that fits; the hall's add
theorem fits_l {k n : Nat} {a : AS} {c1 : Int64} {F : FR} (h : rep k n a F) (hn : n ≤ 8) (K : Int64 → Int32 → Option Int32) : ∀ (j i g : Nat), i + j = n → j < g → l_X1_hasRodsFor_5 c1 F K g (lN (10 ^ i)) (nI i) = K (lN (10 ^ n)) (nI n) := by
  intro j
  induction j with
  | zero =>
    intro i g hi hg
    obtain ⟨g, rfl⟩ : ∃ g', g = g' + 1 := ⟨g - 1, by omega⟩
    obtain rfl : i = n := by omega
    rw [l_X1_hasRodsFor_5, h.2.1, if_pos (nI_le (Nat.le_refl _) (by omega))]
  | succ j ih =>
    intro i g hi hg
    obtain ⟨g, rfl⟩ : ∃ g', g = g' + 1 := ⟨g - 1, by omega⟩
    rw [l_X1_hasRodsFor_5, h.2.1, if_neg (nI_ge (by omega) (by omega)), bnd_k, bnd_k, nI_1, show lN (10 ^ i) * 10 = lN (10 ^ (i + 1)) from by rw [Nat.pow_succ]; exact lN_mul _ 10]
    exact ih (i + 1) g (by omega) (by omega)
theorem pow8 {n : Nat} (hn : n ≤ 8) : 10 ^ n ≤ 100000000 := Nat.le_trans (Nat.pow_le_pow_right (by decide) hn) (by decide)
theorem hasRodsFor_s {k n N : Nat} {a : AS} {F : FR} (h : rep k n a F) (hn : n ≤ 8) (hN : N < 2 ^ 62) : f_X1_hasRodsFor F (lN N) = some (if N < 10 ^ n then 1 else 0) := by
  have hp := pow8 hn
  rw [f_X1_hasRodsFor]
  have e := fits_l (c1 := lN N) h hn (fun (a13 : Int64) (a14 : Int32) => bnd (lg_cmp (lN N) (0 : Int64)) fun (v15 : Int32) => if v15 < 0 then (some 0) else (bnd (lg_cmp (lN N) a13) fun (v17 : Int32) => if (0 : Int32) ≤ v17 then (some 0) else (some 1))) n 0 16 (by omega) (by omega)
  rw [Nat.pow_zero, nI_0] at e
  refine Eq.trans e ?_
  rw [bnd_k, if_neg (fun z => by
    have := (lg_cmp_lt _ _).mp z
    exact Nat.not_lt_zero N ((pk_lLT (a := N) (b := 0) (by omega) (by decide)).mp this)), bnd_k]
  by_cases c : N < 10 ^ n
  · rw [if_neg (fun z => by
      have := (pk_lLE (by omega) (by omega)).mp ((lg_cmp_ge _ _).mp z)
      omega), if_pos c]
  · rw [if_pos ((lg_cmp_ge _ _).mpr ((pk_lLE (by omega) (by omega)).mpr (by omega))), if_neg c]
theorem refuse_s {k n N : Nat} {a : AS} {F : FR} (h : rep k n a F) (hn : n ≤ 8) (hN : N < 10 ^ n) : f_X2_refuseUnlessFits F (nI N) = some () := by
  have hp := pow8 hn
  rw [f_X2_refuseUnlessFits, bnd_k, nI_l (by omega), hasRodsFor_s h hn (by omega), obd_s, if_pos hN, if_neg (by decide)]
/-- the hall's add, whatever is kept -/
theorem addX_s {k n m N : Nat} {a : AS} {F F1 : FR} {Hb : HB} {p0 : Int32} (h : rep k n a F) (hw : wf k n m a) (hm : m + 8000 < 2 ^ 21) (hN : N < 10 ^ n) (hk : f_X1_keepBeads F = some F1) (h1 : rep k n a F1) :
    ∃ F', f_X2_add Hb F p0 (nI N) = some (nI (aP (aAdds k n N n a)) - nI (aP a), F') ∧ rep k n (aAdds k n N n a) F' ∧ kpt F' = kpt F1 := by
  have hn := hw.2.2.1
  have hp := pow8 hn
  obtain ⟨F2, f2, r2, k2⟩ := bringNumber_s h1 hw hm (N := N) (by omega)
  rw [f_X2_add, show f_X2_foundFrame Hb p0 = some () from rfl, obd_s, refuse_s h hn hN, obd_s, hk, obd_s, bnd_k, nI_l (by omega), f2, obd_s, bnd_k, r2.2.2.2.2.2.2.1, h.2.2.2.2.2.2.1]
  exact ⟨F2, rfl, r2, k2⟩
/-- the hall's clear, whatever is kept -/
theorem clearX_s {k n m : Nat} {a : AS} {F F1 : FR} {Hb : HB} {p0 : Int32} (h : rep k n a F) (hw : wf k n m a) (hm : m + 8000 < 2 ^ 21) (hk : f_X1_keepBeads F = some F1) (h1 : rep k n a F1) :
    ∃ F', f_X2_clear Hb F p0 = some (nI (aP (aSets k 0 n a)) - nI (aP a), F') ∧ rep k n (aSets k 0 n a) F' ∧ kpt F' = kpt F1 := by
  obtain ⟨F2, f2, r2, k2⟩ := setRods_s h1 hw (by omega) (N := 0) (by decide)
  have f2 : f_X1_setRods F1 0 = some F2 := f2
  rw [f_X2_clear, show f_X2_foundFrame Hb p0 = some () from rfl, obd_s, hk, obd_s, f2, obd_s, bnd_k, r2.2.2.2.2.2.2.1, h.2.2.2.2.2.2.1]
  exact ⟨F2, rfl, r2, k2⟩
theorem timesX_s {k n m d : Nat} {a : AS} {F F1 : FR} {Hb : HB} {p0 : Int32} (h : rep k n a F) (hw : wf k n m a) (hm : m + 24000 < 2 ^ 21) (hd : d ≤ 9) (hk : f_X1_keepBeads F = some F1) (h1 : rep k n a F1) :
    ∃ F', f_X2_times Hb F p0 (nI d) = some (nI (aS (aMul k n d n a)) - nI (aS a), F') ∧ rep k n (aMul k n d n a) F' ∧ kpt F' = kpt F1 := by
  obtain ⟨F2, f2, r2, k2⟩ := multiply_s h1 hw hm hd
  rw [f_X2_times, show f_X2_foundFrame Hb p0 = some () from rfl, obd_s, if_neg (lt0 (by omega)), if_pos (show nI d ≤ (9 : Int32) from nI_le (b := 9) hd (by decide)), hk, obd_s, f2, obd_s, bnd_k, r2.2.2.2.2.2.2.2.2.2.2, h.2.2.2.2.2.2.2.2.2.2]
  exact ⟨F2, rfl, r2, k2⟩
theorem divideX_s {k n m d : Nat} {a : AS} {F F1 : FR} {Hb : HB} {p0 : Int32} (hw : wf k n m a) (hm : m + 1000 < 2 ^ 21) (hd0 : 0 < d) (hd : d ≤ 9) (hk : f_X1_keepBeads F = some F1) (h1 : rep k n a F1) :
    ∃ F', f_X2_divide Hb F p0 (nI d) = some (nI (aDiv k d n 0 a).1, F') ∧ rep k n (aDiv k d n 0 a).2 F' ∧ kpt F' = kpt F1 := by
  obtain ⟨F2, f2, r2, k2⟩ := splitBy_s h1 hw hm hd0 hd
  rw [f_X2_divide, show f_X2_foundFrame Hb p0 = some () from rfl, obd_s, if_neg (show ¬ nI d < 1 from nI_nlt (b := 1) (by omega) (by omega)), if_pos (show nI d ≤ (9 : Int32) from nI_le (b := 9) hd (by decide)), hk, obd_s, f2, obd_s]
  exact ⟨F2, rfl, r2, k2⟩
theorem tidyX_s {k n m : Nat} {a : AS} {F F1 : FR} {Hb : HB} {p0 : Int32} (h : rep k n a F) (hw : wf k n m a) (hm : m + 10000 < 2 ^ 21) (hk : f_X1_keepBeads F = some F1) (h1 : rep k n a F1) :
    ∃ F', f_X2_tidy Hb F p0 = some (nI (aC (aTidy k n n 0 a)) - nI (aC a), F') ∧ rep k n (aTidy k n n 0 a) F' ∧ kpt F' = kpt F1 := by
  obtain ⟨F2, f2, r2, k2, -⟩ := tidyRods_s h1 hw hm
  rw [f_X2_tidy, show f_X2_foundFrame Hb p0 = some () from rfl, obd_s, hk, obd_s, f2, obd_s, bnd_k, r2.2.2.2.2.2.2.2.2.1, h.2.2.2.2.2.2.2.2.1]
  exact ⟨F2, rfl, r2, k2⟩
