-- the pure level, 10: a digit is taken off; the frame's shifts
theorem nines_l {k n r : Nat} {c2 c3 : Int32} (K : Int32 → FR → Option FR) : ∀ (f g m : Nat) (a : AS) (F : FR), rep k n a F → wf k n m a → m + 100 * f + 100 < 2 ^ 21 → r + f < 8 → f < g →
    ∃ F', l_X1_takeDigit_69 (nI r) c2 c3 K g (nI (r + f)) F = K (nI r) F' ∧ rep k n (aNines k r f a) F' ∧ kpt F' = kpt F := by
  intro f
  induction f with
  | zero =>
    intro g m a F h hw hm hr hg
    obtain ⟨g, rfl⟩ : ∃ g', g = g' + 1 := ⟨g - 1, by omega⟩
    rw [l_X1_takeDigit_69, if_pos (nI_le (by omega) (by omega))]
    exact ⟨F, rfl, h, rfl⟩
  | succ f ih =>
    intro g m a F h hw hm hr hg
    obtain ⟨g, rfl⟩ : ∃ g', g = g' + 1 := ⟨g - 1, by omega⟩
    obtain ⟨g1, g2⟩ := most_ge hw.1
    rw [l_X1_takeDigit_69, if_neg (nI_ge (by omega) (by omega))]
    obtain ⟨F1, f1, r1, k1⟩ := setRod_s h hw (by omega) (r := r + f + 1) (v := 9) (by omega) (by omega)
    rw [show f_X1_setRod F (nI (r + (f + 1))) 9 = some F1 from f1, obd_s, bnd_k, show nI (r + (f + 1)) + (-1) = nI (r + f) from pk_m1 (r + f)]
    obtain ⟨F2, f2, r2, k2⟩ := ih g (m + 100) _ F1 r1 (aSet_wf hw (by omega) (by omega)) (by omega) (by omega) (by omega)
    exact ⟨F2, f2, r2, k2.trans k1⟩
def aLo (a : AS) : AS := (aU a, aD a, aWu a, aWd a, aHd a, aT a, aP a, aB a, aC a, aL a + 1, aS a)
theorem wf_lo {k n m : Nat} {a : AS} (hw : wf k n m a) : wf k n m (aLo a) := hw
theorem rep_lo {k n : Nat} {a : AS} {F : FR} (h : rep k n a F) : rep k n (aLo a) (sfLo F (fLo F + 1)) := by
  obtain ⟨h1, h2, h3, h4, h5, h6, h7, h8, h9, h10, h11⟩ := h
  refine ⟨h1, h2, h3, h4, h5, h6, h7, h8, h9, ?_, h11⟩
  show fLo F + 1 = nI (aL a + 1)
  rw [h10, nI_1]
def aTake (k n r d : Nat) (a : AS) : AS :=
  if aV a r < d then
    aLo (aSet k r (aV a r + 10 - d) (aNines k r (lend a (n - (r + 1)) (r + 1) - (r + 1)) (aSet k (lend a (n - (r + 1)) (r + 1)) (aV a (lend a (n - (r + 1)) (r + 1)) - 1) a)))
  else aSet k r (aV a r - d) a
theorem aTake_wf {k n m r d : Nat} {a : AS} (hw : wf k n m a) (hr : r < n) (hd : d ≤ 9) (hl : aV a r < d → lend a (n - (r + 1)) (r + 1) < n) : wf k n (m + 1200) (aTake k n r d a) := by
  have hn := hw.2.2.1
  obtain ⟨g1, g2⟩ := most_ge hw.1
  have g3 := aV_le hw (show r < 8 by omega)
  unfold aTake
  split
  · rename_i c
    have hL := hl c
    have hLe := lend_le a (n - (r + 1)) (r + 1)
    have g4 := aV_le hw (show lend a (n - (r + 1)) (r + 1) < 8 by omega)
    have w1 := aSet_wf hw (r := lend a (n - (r + 1)) (r + 1)) (v := aV a (lend a (n - (r + 1)) (r + 1)) - 1) (by omega) (by omega)
    have w2 := aNines_wf (r := r) (lend a (n - (r + 1)) (r + 1) - (r + 1)) _ _ w1 (by omega)
    exact wf_mono (wf_lo (aSet_wf w2 (r := r) (v := aV a r + 10 - d) (by omega) (by omega))) (by omega)
  · exact wf_mono (aSet_wf hw (r := r) (v := aV a r - d) (by omega) (by omega)) (by omega)
theorem takeDigit_s {k n m r d : Nat} {a : AS} {F : FR} (h : rep k n a F) (hw : wf k n m a) (hm : m + 2000 < 2 ^ 21) (hr : r < n) (hd : d ≤ 9) (hl : aV a r < d → lend a (n - (r + 1)) (r + 1) < n ∧ 0 < aV a (lend a (n - (r + 1)) (r + 1))) :
    ∃ F', f_X1_takeDigit F (nI r) (nI d) = some F' ∧ rep k n (aTake k n r d a) F' ∧ kpt F' = kpt F := by
  have hn := hw.2.2.1
  obtain ⟨g1, g2⟩ := most_ge hw.1
  have g3 := aV_le hw (show r < 8 by omega)
  rw [f_X1_takeDigit, valueAt_s h (by omega), obd_s]
  unfold aTake
  by_cases c : aV a r < d
  · obtain ⟨hL, hp⟩ := hl c
    have hLe := lend_le a (n - (r + 1)) (r + 1)
    rw [if_pos (nI_lt c (by omega)), if_pos c, bnd_k, nI_1, lend_l _ (n - (r + 1)) (r + 1) 16 m a F h hw (by omega) (by omega)]
    generalize lend a (n - (r + 1)) (r + 1) = Ln at *
    have g4 := aV_le hw (show Ln < 8 by omega)
    rw [valueAt_s h (show Ln < 8 by omega), obd_s, bnd_k, show nI (aV a Ln) - 1 = nI (aV a Ln - 1) from nI_subN (b := 1) (by omega)]
    obtain ⟨F1, f1, r1, k1⟩ := setRod_s h hw (by omega) (r := Ln) (v := aV a Ln - 1) (by omega) (by omega)
    have w1 := aSet_wf hw (r := Ln) (v := aV a Ln - 1) (by omega) (by omega)
    rw [f1, obd_s, bnd_k, show nI Ln - 1 = nI (r + (Ln - (r + 1))) by rw [show nI Ln - 1 = nI (Ln - 1) from nI_subN (b := 1) (by omega)]; congr 1; omega]
    obtain ⟨F2, f2, r2, k2⟩ := nines_l (c2 := nI d) (c3 := nI (aV a r)) (fun (a36 : Int32) (F37 : FR) => bnd (nI (aV a r) + 10) fun (v38 : Int32) => bnd (v38 - nI d) fun (v39 : Int32) => obd (f_X1_setRod F37 (nI r) v39) fun x40 => bnd ((fLo x40) + 1) fun (v41 : Int32) => some (sfLo x40 v41)) (r := r) (Ln - (r + 1)) 16 (m + 100) _ F1 r1 w1 (by omega) (by omega) (by omega)
    have w2 := aNines_wf (r := r) (Ln - (r + 1)) _ _ w1 (by omega)
    rw [f2, bnd_k, bnd_k, show nI (aV a r) + 10 = nI (aV a r + 10) from nI_add _ 10, nI_subN (show d ≤ aV a r + 10 by omega)]
    obtain ⟨F3, f3, r3, k3⟩ := setRod_s r2 w2 (by omega) (r := r) (v := aV a r + 10 - d) (by omega) (by omega)
    rw [f3, obd_s, bnd_k]
    exact ⟨_, rfl, rep_lo r3, k3.trans (k2.trans k1)⟩
  · rw [if_neg (nI_nlt (by omega) (by omega)), if_neg c, bnd_k, nI_subN (by omega)]
    obtain ⟨F1, f1, r1, k1⟩ := setRod_s h hw (by omega) (r := r) (v := aV a r - d) (by omega) (by omega)
    rw [f1, obd_s]
    exact ⟨F1, rfl, r1, k1⟩
