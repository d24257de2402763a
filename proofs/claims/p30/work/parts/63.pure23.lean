-- the pure level, 23: the hardest digit; the digest
theorem d2l16 {k : Int} {z : UInt64} (h : D16 k z) (hk : k.natAbs < 2 ^ 40) : nn64 (FP.dmul 4625196817309499392 z) = true ∧ FP.d2l (FP.dmul 4625196817309499392 z) = Int64.ofInt k := by
  have h : FP.Core.Whole k (sh16 (FP.Core.val64 z)) := h
  have W : FP.Core.Whole k (FP.Core.val64 (FP.Core.dmul 4625196817309499392 z)) := by
    rw [FP.Core.val64_dmul]
    refine FP.Core.whole_round FP.Core.good_b64 FP.Core.wide_b64 (by show k.natAbs ≤ 2 ^ 53; omega) ?_
    rw [show FP.Core.val64 4625196817309499392 = .fin false (2 ^ 52) (-48) by decide +kernel]
    generalize FP.Core.val64 z = d at h
    cases d with
    | nan => exact h.elim
    | inf => exact h.elim
    | fin s c q =>
      have w1 : FP.Core.Whole 1 (.fin false (2 ^ 52) (-52)) := by
        show FP.Core.signed false (2 ^ 52 * 2 ^ ((-52 : Int)).toNat) = 1 * ((2 ^ (-(-52 : Int)).toNat : Nat) : Int)
        decide +kernel
      have w2 := FP.Core.whole_product w1 h
      rw [Int.one_mul] at w2
      have e : FP.Core.exactProduct (.fin false (2 ^ 52) (-48)) (.fin s c q) = FP.Core.exactProduct (.fin false (2 ^ 52) (-52)) (sh16 (.fin s c q)) := by
        show FP.Core.Datum.fin _ _ _ = FP.Core.Datum.fin _ _ _
        rw [show (-48 : Int) + q = -52 + (q + 4) by omega]
      rw [e]
      exact w2
  refine ⟨nn64_val fun e => ?_, ?_⟩
  · have e : FP.Core.val64 (FP.Core.dmul 4625196817309499392 z) = .nan := e
    rw [e] at W
    exact W.elim
  · refine FP.Core.d2l_int ?_
    rw [Int64.toInt_ofInt_of_le (by omega) (by omega)]
    exact W
/-- the digit of the most, the first one of such -/
def hardN (P : Nat → Nat) : Nat → Nat
  | 0 => 1
  | j + 1 => if P (hardN P j) < P (j + 2) then j + 2 else hardN P j
theorem hardN_ok (P : Nat → Nat) : ∀ j, 1 ≤ hardN P j ∧ hardN P j ≤ j + 1 ∧ ∀ c, 1 ≤ c → c ≤ j + 1 → P c ≤ P (hardN P j) ∧ (c < hardN P j → P c < P (hardN P j)) := by
  intro j
  induction j with
  | zero =>
    refine ⟨Nat.le_refl _, Nat.le_refl _, fun c h1 h2 => ?_⟩
    obtain rfl : c = 1 := by omega
    exact ⟨Nat.le_refl _, fun h => absurd h (Nat.lt_irrefl _)⟩
  | succ j ih =>
    obtain ⟨i1, i2, i3⟩ := ih
    unfold hardN
    split
    · rename_i hc
      refine ⟨by omega, Nat.le_refl _, fun c h1 h2 => ?_⟩
      by_cases e : c = j + 2
      · subst e
        exact ⟨Nat.le_refl _, fun h => absurd h (Nat.lt_irrefl _)⟩
      · have := (i3 c h1 (by omega)).1
        exact ⟨by omega, fun _ => by omega⟩
    · rename_i hc
      refine ⟨i1, by omega, fun c h1 h2 => ?_⟩
      by_cases e : c = j + 2
      · subst e
        exact ⟨by omega, fun h => by omega⟩
      · exact i3 c h1 (by omega)
/-- the pushes behind a digit c brought to rod r -/
def PB (k n r : Nat) (a : AS) (c : Nat) : Nat := aP (aBring k (n - r) r c a)
theorem hard_l {k n m r : Nat} {a : AS} {F : FR} {Hb : HB} (h : rep k n a F) (hw : wf k n m a) (hm : m + 8000 < 2 ^ 21) (hr : r < n) : ∀ (j i g : Nat) (Tr : FR), i + j = 8 → j < g →
    ∃ Tr', l_X2_hardestDigit_8 (nI r) Hb F (fun (a27 : Int32) (a28 : Int32) (a29 : Int32) (F30 : FR) => some (a27, F30)) g (nI (hardN (PB k n r a) i)) (nI (PB k n r a (hardN (PB k n r a) i) - aP a)) (nI (i + 2)) Tr = some (nI (hardN (PB k n r a) 8), Tr') := by
  have hn := hw.2.2.1
  have hP : ∀ c, c ≤ 9 → aP a ≤ PB k n r a c ∧ PB k n r a c - aP a < 2 ^ 21 := fun c hc => by
    have h1 := mo_bring (k := k) (n - r) r c a
    have h2 := bring_wf (i := r) (more := c) hw hc
    exact ⟨h1.1, (pushes_s h1 h2 (by omega)).2⟩
  intro j
  induction j with
  | zero =>
    intro i g Tr hi hg
    obtain ⟨g, rfl⟩ : ∃ g', g = g' + 1 := ⟨g - 1, by omega⟩
    obtain rfl : i = 8 := by omega
    rw [l_X2_hardestDigit_8, if_pos (by decide)]
    exact ⟨Tr, rfl⟩
  | succ j ih =>
    intro i g Tr hi hg
    obtain ⟨g, rfl⟩ : ∃ g', g = g' + 1 := ⟨g - 1, by omega⟩
    obtain ⟨X, e1, r1⟩ := copy_s h Tr
    obtain ⟨Y, e2, r2, -⟩ := bring_s r1 hw (by omega) (i := r) (more := i + 2) (by omega) (by omega)
    have hp1 := hP (i + 2) (by omega)
    obtain ⟨o1, o2, o3⟩ := hardN_ok (PB k n r a) i
    have hp2 := hP (hardN (PB k n r a) i) (by omega)
    have eP : fPu Y = nI (PB k n r a (i + 2)) := r2.2.2.2.2.2.2.1
    rw [l_X2_hardestDigit_8, if_neg (show ¬ (9 : Int32) < nI (i + 2) from nI_nlt (a := 9) (by omega) (by decide)), e1, obd_s, e2, obd_s, bnd_k, eP, h.2.2.2.2.2.2.1, nI_subN hp1.1, bnd_k, bnd_k, nI_1]
    by_cases c : PB k n r a (hardN (PB k n r a) i) < PB k n r a (i + 2)
    · rw [if_neg (nI_ge (by omega) (by omega))]
      have := ih (i + 1) g Y (by omega) (by omega)
      rw [show hardN (PB k n r a) (i + 1) = i + 2 from if_pos c] at this
      exact this
    · rw [if_pos (nI_le (by omega) (by omega))]
      have := ih (i + 1) g Y (by omega) (by omega)
      rw [show hardN (PB k n r a) (i + 1) = hardN (PB k n r a) i from if_neg c] at this
      exact this
theorem hardD_s {k n m r : Nat} {a : AS} {F : FR} {Hb : HB} (h : rep k n a F) (hw : wf k n m a) (hm : m + 8000 < 2 ^ 21) (hr : r < n) (Tr : FR) : ∃ Tr', f_X2_hardestDigit Hb F Tr (nI r) = some (nI (hardN (PB k n r a) 8), Tr') := by
  have hn := hw.2.2.1
  have h1 := mo_bring (k := k) (n - r) r 1 a
  have h2 := bring_wf (i := r) (more := 1) hw (by decide)
  have h3 := (pushes_s h1 h2 (by omega)).2
  obtain ⟨X, e1, r1⟩ := copy_s h Tr
  obtain ⟨Y, e2, r2, -⟩ := bring_s r1 hw (by omega) (i := r) (more := 1) (by omega) (by omega)
  have e2 : f_X1_bring X (nI r) 1 = some Y := e2
  have eP : fPu Y = nI (PB k n r a 1) := r2.2.2.2.2.2.2.1
  have c1 : ¬ nI (PB k n r a 1 - aP a) ≤ -1 := by
    intro z
    have z1 : ¬ nI (PB k n r a 1 - aP a) < 0 := lt0 (by unfold PB; omega)
    rw [Int32.le_iff_toInt_le] at z
    rw [Int32.lt_iff_toInt_lt] at z1
    have z3 : (-1 : Int32).toInt = -1 := by decide
    have z4 : (0 : Int32).toInt = 0 := by decide
    omega
  obtain ⟨Tr', e⟩ := hard_l (Hb := Hb) h hw hm hr 8 0 15 Y (by decide) (by decide)
  rw [f_X2_hardestDigit, l_X2_hardestDigit_8, if_neg (by decide), e1, obd_s, e2, obd_s, bnd_k, eP, h.2.2.2.2.2.2.1, nI_subN (show aP a ≤ PB k n r a 1 from h1.1), if_neg c1, bnd_k]
  exact ⟨Tr', e⟩
theorem hardest_s {k n m r : Nat} {a : AS} {F : FR} {Hb : HB} {p0 : Int32} (h : rep k n a F) (hw : wf k n m a) (hm : m + 8000 < 2 ^ 21) (hr : r < n) (Tr : FR) : ∃ Tr', f_X2_hardest Hb F Tr p0 (nI r) = some (nI (hardN (PB k n r a) 8), Tr') := by
  obtain ⟨Tr', e⟩ := hardD_s (Hb := Hb) h hw hm hr Tr
  rw [f_X2_hardest, hasRod_s h hw.2.2.1 hr, obd_s, e, obd_s]
  exact ⟨Tr', rfl⟩
-- what the digest mixes
theorem ways_l {k n : Nat} {a : AS} {F : FR} {c1 : Int32} (h : rep k n a F) : ∀ (j i g : Nat) (a1 : Int32), i + j = ABk k + 1 → j < g → ∃ v, l_X1_waysOfRod_4 c1 F (fun (a25 : Int32) (a26 : Int32) => some a25) g a1 (nI i) = some v := by
  have hA := ABk_le k
  intro j
  induction j with
  | zero =>
    intro i g a1 hi hg
    obtain ⟨g, rfl⟩ : ∃ g', g = g' + 1 := ⟨g - 1, by omega⟩
    rw [l_X1_waysOfRod_4, h.2.2.1.1, if_pos (nI_lt (by omega) (by omega))]
    exact ⟨_, rfl⟩
  | succ j ih =>
    intro i g a1 hi hg
    obtain ⟨g, rfl⟩ : ∃ g', g = g' + 1 := ⟨g - 1, by omega⟩
    rw [l_X1_waysOfRod_4, h.2.2.1.1, if_neg (nI_nlt (by omega) (by omega)), bnd_k, bnd_k, bnd_k, bnd_k, bnd_k, nI_1]
    refine ite_P (P := fun x => ∃ v, x = some v) (fun _ => ih _ _ _ (by omega) (by omega)) (fun _ => ite_P (P := fun x => ∃ v, x = some v) (fun _ => ih _ _ _ (by omega) (by omega)) (fun _ => ih _ _ _ (by omega) (by omega)))
theorem ways_s {k n : Nat} {a : AS} {F : FR} (h : rep k n a F) (p : Int32) : ∃ v, f_X1_waysOfRod F p = some v := by
  have hA := ABk_le k
  have e := ways_l (c1 := p) h (ABk k + 1) 0 16 0 (by omega) (by omega)
  rw [nI_0] at e
  exact e
theorem few_l {k n : Nat} {a : AS} {F : FR} {c1 : Int32} (h : rep k n a F) : ∀ (j i g : Nat) (a1 : Int32), i + j = ABk k + 1 → j < g → ∃ v, l_X1_fewestOfRod_6 c1 F (fun (a25 : Int32) (a26 : Int32) => some a25) g a1 (nI i) = some v := by
  have hA := ABk_le k
  intro j
  induction j with
  | zero =>
    intro i g a1 hi hg
    obtain ⟨g, rfl⟩ : ∃ g', g = g' + 1 := ⟨g - 1, by omega⟩
    rw [l_X1_fewestOfRod_6, h.2.2.1.1, if_pos (nI_lt (by omega) (by omega))]
    exact ⟨_, rfl⟩
  | succ j ih =>
    intro i g a1 hi hg
    obtain ⟨g, rfl⟩ : ∃ g', g = g' + 1 := ⟨g - 1, by omega⟩
    rw [l_X1_fewestOfRod_6, h.2.2.1.1, if_neg (nI_nlt (by omega) (by omega)), bnd_k, bnd_k, bnd_k, bnd_k, bnd_k, bnd_k, nI_1]
    refine ite_P (P := fun x => ∃ v, x = some v) (fun _ => ih _ _ _ (by omega) (by omega)) (fun _ => ite_P (P := fun x => ∃ v, x = some v) (fun _ => ih _ _ _ (by omega) (by omega)) (fun _ => ih _ _ _ (by omega) (by omega)))
theorem few_s {k n : Nat} {a : AS} {F : FR} (h : rep k n a F) (p : Int32) : ∃ v, f_X1_fewestOfRod F p = some v := by
  have hA := ABk_le k
  have e := few_l (c1 := p) h (ABk k + 1) 0 16 1000 (by omega) (by omega)
  rw [nI_0] at e
  exact e
theorem wts_l {k n : Nat} {a : AS} {F : FR} (h : rep k n a F) (hn : n ≤ 8) (kk : Int64 → Int64 → Int64 → Int32 → Option Int64) (hk : ∀ x y z w, ∃ v, kk x y z w = some v) : ∀ (j i g : Nat) (a2 a3 a4 : Int64), i + j = n → j < g → ∃ v, l_X1_waysToShow_13 F kk g a2 a3 a4 (nI i) = some v := by
  intro j
  induction j with
  | zero =>
    intro i g a2 a3 a4 hi hg
    obtain ⟨g, rfl⟩ : ∃ g', g = g' + 1 := ⟨g - 1, by omega⟩
    rw [l_X1_waysToShow_13, h.2.1, if_pos (nI_le (by omega) (by omega))]
    exact hk _ _ _ _
  | succ j ih =>
    intro i g a2 a3 a4 hi hg
    obtain ⟨g, rfl⟩ : ∃ g', g = g' + 1 := ⟨g - 1, by omega⟩
    rw [l_X1_waysToShow_13, h.2.1, if_neg (nI_ge (by omega) (by omega)), bnd_k, bnd_k]
    generalize (a4 - a4 / 10 * 10).toInt32 = d
    obtain ⟨v1, e1⟩ := ways_s h d
    obtain ⟨v2, e2⟩ := ways_s h (d - 1)
    obtain ⟨v3, e3⟩ := ways_s h (d + 10)
    obtain ⟨v4, e4⟩ := ways_s h (d + 9)
    rw [e1, obd_s, bnd_k, bnd_k, bnd_k, e2, obd_s, bnd_k, bnd_k, bnd_k, bnd_k, e3, obd_s, bnd_k, bnd_k, bnd_k, e4, obd_s, bnd_k, bnd_k, bnd_k, bnd_k, bnd_k, nI_1]
    exact ih _ _ _ _ _ (by omega) (by omega)
theorem wts_s {k n m : Nat} {a : AS} {F : FR} (h : rep k n a F) (hw : wf k n m a) : ∃ v, f_X1_waysToShow F = some v := by
  have hn := hw.2.2.1
  rw [f_X1_waysToShow, shown_s h hw, obd_s, ← nI_0]
  exact wts_l h hn _ (fun x y z w => by
    rw [bnd_k]
    split
    · exact ⟨_, rfl⟩
    · exact ⟨_, rfl⟩) n 0 16 _ _ _ (by omega) (by omega)
theorem fts_l {k n : Nat} {a : AS} {F : FR} (h : rep k n a F) (hn : n ≤ 8) (kk : Int32 → Int32 → Int64 → Int32 → Option Int32) (hk : ∀ x y z w, ∃ v, kk x y z w = some v) : ∀ (j i g : Nat) (a2 a3 : Int32) (a4 : Int64), i + j = n → j < g → ∃ v, l_X1_fewestBeadsToShow_14 F kk g a2 a3 a4 (nI i) = some v := by
  intro j
  induction j with
  | zero =>
    intro i g a2 a3 a4 hi hg
    obtain ⟨g, rfl⟩ : ∃ g', g = g' + 1 := ⟨g - 1, by omega⟩
    rw [l_X1_fewestBeadsToShow_14, h.2.1, if_pos (nI_le (by omega) (by omega))]
    exact hk _ _ _ _
  | succ j ih =>
    intro i g a2 a3 a4 hi hg
    obtain ⟨g, rfl⟩ : ∃ g', g = g' + 1 := ⟨g - 1, by omega⟩
    rw [l_X1_fewestBeadsToShow_14, h.2.1, if_neg (nI_ge (by omega) (by omega)), bnd_k, bnd_k]
    generalize (a4 - a4 / 10 * 10).toInt32 = d
    obtain ⟨v1, e1⟩ := few_s h d
    obtain ⟨v2, e2⟩ := few_s h (d - 1)
    obtain ⟨v3, e3⟩ := few_s h (d + 10)
    obtain ⟨v4, e4⟩ := few_s h (d + 9)
    rw [e1, obd_s, bnd_k, bnd_k, e2, obd_s, bnd_k, bnd_k, bnd_k, e3, obd_s, bnd_k, bnd_k, e4, obd_s, bnd_k, bnd_k, bnd_k, bnd_k, nI_1]
    exact ih _ _ _ _ _ (by omega) (by omega)
theorem fts_s {k n m : Nat} {a : AS} {F : FR} (h : rep k n a F) (hw : wf k n m a) : ∃ v, f_X1_fewestBeadsToShow F = some v := by
  have hn := hw.2.2.1
  rw [f_X1_fewestBeadsToShow, shown_s h hw, obd_s, ← nI_0]
  exact fts_l h hn _ (fun x y z w => by
    rw [bnd_k]
    split
    · exact ⟨_, rfl⟩
    · exact ⟨_, rfl⟩) n 0 16 _ _ _ (by omega) (by omega)
