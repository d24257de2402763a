-- the pure level, 11: the frame's shifts
def aShL (k : Nat) : Nat → AS → AS
  | 0, a => a
  | j + 1, a => aShL k j (aSet k (j + 1) (aV a j) a)
theorem aShL_wf {k n : Nat} : ∀ (j m : Nat) (a : AS), wf k n m a → j < 8 → wf k n (m + 100 * j) (aShL k j a) := by
  intro j
  induction j with
  | zero => intro m a h _; exact h
  | succ j ih =>
    intro m a h hj
    exact wf_mono (ih (m + 100) _ (aSet_wf h (r := j + 1) (v := aV a j) (by omega) (aV_le h (by omega))) (by omega)) (by omega)
theorem shL_l {k n : Nat} {c1 : Int32} (K : Int32 → FR → Option (Int32 × FR)) : ∀ (j g m : Nat) (a : AS) (F : FR), rep k n a F → wf k n m a → m + 100 * j + 100 < 2 ^ 21 → j < 8 → j < g →
    ∃ F', l_X1_shiftLeft_18 c1 K g (nI j) F = K (nI 0) F' ∧ rep k n (aShL k j a) F' ∧ kpt F' = kpt F := by
  intro j
  induction j with
  | zero =>
    intro g m a F h hw hm hj hg
    obtain ⟨g, rfl⟩ : ∃ g', g = g' + 1 := ⟨g - 1, by omega⟩
    rw [l_X1_shiftLeft_18, if_pos (by decide)]
    exact ⟨F, rfl, h, rfl⟩
  | succ j ih =>
    intro g m a F h hw hm hj hg
    obtain ⟨g, rfl⟩ : ∃ g', g = g' + 1 := ⟨g - 1, by omega⟩
    rw [l_X1_shiftLeft_18, if_neg (nI_nle (by omega) (by omega)), bnd_k, nI_pred, valueAt_s h (by omega), obd_s]
    obtain ⟨F1, f1, r1, k1⟩ := setRod_s h hw (by omega) (r := j + 1) (v := aV a j) (by omega) (aV_le hw (by omega))
    rw [f1, obd_s, bnd_k, pk_m1]
    obtain ⟨F2, f2, r2, k2⟩ := ih g (m + 100) _ F1 r1 (aSet_wf hw (by omega) (aV_le hw (by omega))) (by omega) (by omega) (by omega)
    exact ⟨F2, f2, r2, k2.trans k1⟩
def aLeft (k n : Nat) (a : AS) : AS := aSp (aV a (n - 1)) (aSet k 0 0 (aShL k (n - 1) a))
theorem aLeft_wf {k n m : Nat} {a : AS} (hw : wf k n m a) : wf k n (m + 1000) (aLeft k n a) := by
  have hn := hw.2.2.1
  have hn2 := hw.2.1
  exact wf_sp (wf_mono (aSet_wf (aShL_wf (n - 1) m a hw (by omega)) (r := 0) (v := 0) (by omega) (by omega)) (by omega))
theorem shiftLeft_s {k n m : Nat} {a : AS} {F : FR} (h : rep k n a F) (hw : wf k n m a) (hm : m + 2000 < 2 ^ 21) : ∃ F', f_X1_shiftLeft F = some (nI (aV a (n - 1)), F') ∧ rep k n (aLeft k n a) F' ∧ kpt F' = kpt F := by
  have hn := hw.2.2.1
  have hn2 := hw.2.1
  rw [f_X1_shiftLeft, bnd_k, h.2.1, show nI n - 1 = nI (n - 1) from nI_subN (b := 1) (by omega), valueAt_s h (by omega), obd_s, bnd_k]
  obtain ⟨F1, f1, r1, k1⟩ := shL_l (c1 := nI (aV a (n - 1))) (fun (a20 : Int32) (F21 : FR) => obd (f_X1_setRod F21 0 0) fun x22 => bnd ((fSp x22) + nI (aV a (n - 1))) fun (v23 : Int32) => some (nI (aV a (n - 1)), (sfSp x22 v23))) (n - 1) 16 m a F h hw (by omega) (by omega) (by omega)
  have w1 := aShL_wf (n - 1) m a hw (by omega)
  obtain ⟨F2, f2, r2, k2⟩ := setRod_s r1 w1 (by omega) (r := 0) (v := 0) (by omega) (by omega)
  rw [nI_0] at f2
  rw [f1, f2, obd_s, bnd_k]
  exact ⟨_, rfl, rep_sp r2, k2.trans k1⟩
def aShR (k : Nat) : Nat → Nat → AS → AS
  | 0, _, a => a
  | f + 1, i, a => aShR k f (i + 1) (aSet k i (aV a (i + 1)) a)
theorem aShR_wf {k n : Nat} : ∀ (f i m : Nat) (a : AS), wf k n m a → i + f < 8 → wf k n (m + 100 * f) (aShR k f i a) := by
  intro f
  induction f with
  | zero => intro i m a h _; exact h
  | succ f ih =>
    intro i m a h hj
    exact wf_mono (ih (i + 1) (m + 100) _ (aSet_wf h (r := i) (v := aV a (i + 1)) (by omega) (aV_le h (by omega))) (by omega)) (by omega)
theorem shR_l {k n : Nat} {c1 : Int32} (K : Int32 → FR → Option (Int32 × FR)) : ∀ (f i g m : Nat) (a : AS) (F : FR), rep k n a F → wf k n m a → m + 100 * f + 100 < 2 ^ 21 → i + f + 1 = n → f < g →
    ∃ F', l_X1_shiftRight_8 c1 K g (nI i) F = K (nI (n - 1)) F' ∧ rep k n (aShR k f i a) F' ∧ kpt F' = kpt F := by
  intro f
  induction f with
  | zero =>
    intro i g m a F h hw hm hj hg
    obtain ⟨g, rfl⟩ : ∃ g', g = g' + 1 := ⟨g - 1, by omega⟩
    have hn := hw.2.2.1
    rw [l_X1_shiftRight_8, bnd_k, h.2.1, show nI n - 1 = nI (n - 1) from nI_subN (b := 1) (by omega), if_pos (nI_le (by omega) (by omega)), show i = n - 1 by omega]
    exact ⟨F, rfl, h, rfl⟩
  | succ f ih =>
    intro i g m a F h hw hm hj hg
    obtain ⟨g, rfl⟩ : ∃ g', g = g' + 1 := ⟨g - 1, by omega⟩
    have hn := hw.2.2.1
    rw [l_X1_shiftRight_8, bnd_k, h.2.1, show nI n - 1 = nI (n - 1) from nI_subN (b := 1) (by omega), if_neg (nI_ge (by omega) (by omega)), bnd_k, nI_1, valueAt_s h (by omega), obd_s]
    obtain ⟨F1, f1, r1, k1⟩ := setRod_s h hw (by omega) (r := i) (v := aV a (i + 1)) (by omega) (aV_le hw (by omega))
    rw [f1, obd_s, bnd_k]
    obtain ⟨F2, f2, r2, k2⟩ := ih (i + 1) g (m + 100) _ F1 r1 (aSet_wf hw (by omega) (aV_le hw (by omega))) (by omega) (by omega) (by omega)
    exact ⟨F2, f2, r2, k2.trans k1⟩
def aRight (k n : Nat) (a : AS) : AS := aSet k (n - 1) 0 (aShR k (n - 1) 0 a)
theorem aRight_wf {k n m : Nat} {a : AS} (hw : wf k n m a) : wf k n (m + 1000) (aRight k n a) := by
  have hn := hw.2.2.1
  have hn2 := hw.2.1
  exact wf_mono (aSet_wf (aShR_wf (n - 1) 0 m a hw (by omega)) (r := n - 1) (v := 0) (by omega) (by omega)) (by omega)
theorem shiftRight_s {k n m : Nat} {a : AS} {F : FR} (h : rep k n a F) (hw : wf k n m a) (hm : m + 2000 < 2 ^ 21) : ∃ F', f_X1_shiftRight F = some (nI (aV a 0), F') ∧ rep k n (aRight k n a) F' ∧ kpt F' = kpt F := by
  have hn := hw.2.2.1
  have hn2 := hw.2.1
  have v0 := valueAt_s h (j := 0) (by omega)
  rw [nI_0] at v0
  rw [f_X1_shiftRight, v0, obd_s]
  obtain ⟨F1, f1, r1, k1⟩ := shR_l (c1 := nI (aV a 0)) (fun (a20 : Int32) (F21 : FR) => bnd ((fRd F21) - 1) fun (v22 : Int32) => obd (f_X1_setRod F21 v22 0) fun x23 => some (nI (aV a 0), x23)) (n - 1) 0 16 m a F h hw (by omega) (by omega) (by omega)
  have w1 := aShR_wf (n - 1) 0 m a hw (by omega)
  obtain ⟨F2, f2, r2, k2⟩ := setRod_s r1 w1 (by omega) (r := n - 1) (v := 0) (by omega) (by omega)
  rw [nI_0] at f1
  rw [f1, bnd_k, r1.2.1, show nI n - 1 = nI (n - 1) from nI_subN (b := 1) (by omega), show f_X1_setRod F1 (nI (n - 1)) 0 = some F2 from f2, obd_s]
  exact ⟨F2, rfl, r2, k2.trans k1⟩
