-- the pure level, 9: tidy, off, in the frame
def aTidy (k n : Nat) : Nat → Nat → AS → AS
  | 0, _, a => a
  | f + 1, i, a => if aV a i ≤ 9 then aTidy k n f (i + 1) a else aTidy k n f (i + 1) (aBring k (n - (i + 1)) (i + 1) 1 (aCa (aSet k i (aV a i - 10) a)))
theorem tidy_l {k n : Nat} : ∀ (f i g m : Nat) (a : AS) (F : FR), rep k n a F → wf k n m a → m + 1000 * f + 1000 < 2 ^ 21 → i + f = n → f < g →
    ∃ F', l_X1_tidyRods_2 (fun (a27 : Int32) (F28 : FR) => some F28) g (nI i) F = some F' ∧ rep k n (aTidy k n f i a) F' ∧ kpt F' = kpt F ∧ wf k n (m + 1000 * f) (aTidy k n f i a) := by
  intro f
  induction f with
  | zero =>
    intro i g m a F h hw hm hi hg
    obtain ⟨g, rfl⟩ : ∃ g', g = g' + 1 := ⟨g - 1, by omega⟩
    have hn := hw.2.2.1
    rw [l_X1_tidyRods_2, h.2.1, if_pos (nI_le (by omega) (by omega))]
    exact ⟨F, rfl, h, rfl, hw⟩
  | succ f ih =>
    intro i g m a F h hw hm hi hg
    obtain ⟨g, rfl⟩ : ∃ g', g = g' + 1 := ⟨g - 1, by omega⟩
    have hn := hw.2.2.1
    obtain ⟨g1, g2⟩ := most_ge hw.1
    have g3 := aV_le hw (show i < 8 by omega)
    rw [l_X1_tidyRods_2, h.2.1, if_neg (nI_ge (by omega) (by omega)), valueAt_s h (by omega), obd_s]
    unfold aTidy
    by_cases c9 : aV a i ≤ 9
    · rw [if_pos (show nI (aV a i) ≤ (9 : Int32) from nI_le (b := 9) c9 (by decide)), if_pos c9, bnd_k, nI_1]
      obtain ⟨F1, f1, r1, k1, w1⟩ := ih (i + 1) g m a F h hw (by omega) (by omega) (by omega)
      exact ⟨F1, f1, r1, k1, wf_mono w1 (by omega)⟩
    · rw [if_neg (show ¬ nI (aV a i) ≤ (9 : Int32) from nI_ge (a := 9) (by omega) (by omega)), if_neg c9, bnd_k, show nI (aV a i) - 10 = nI (aV a i - 10) from nI_subN (b := 10) (by omega)]
      obtain ⟨F1, f1, r1, k1⟩ := setRod_s h hw (by omega) (r := i) (v := aV a i - 10) (by omega) (by omega)
      have w1 := wf_ca (aSet_wf hw (r := i) (v := aV a i - 10) (by omega) (by omega))
      rw [f1, obd_s, bnd_k, bnd_k, nI_1]
      obtain ⟨F2, f2, r2, k2⟩ := bring_s (rep_ca r1) w1 (i := i + 1) (more := 1) (by omega) (by omega) (by omega)
      have w2 := bring_wf (i := i + 1) (more := 1) w1 (by omega)
      rw [show f_X1_bring (sfCa F1 (fCa F1 + 1)) (nI (i + 1)) 1 = some F2 from f2, obd_s, bnd_k]
      obtain ⟨F3, f3, r3, k3, w3⟩ := ih (i + 1) g (m + 1000) _ F2 r2 (wf_mono w2 (by omega)) (by omega) (by omega) (by omega)
      exact ⟨F3, f3, r3, k3.trans (k2.trans k1), wf_mono w3 (by omega)⟩
theorem tidyRods_s {k n m : Nat} {a : AS} {F : FR} (h : rep k n a F) (hw : wf k n m a) (hm : m + 10000 < 2 ^ 21) : ∃ F', f_X1_tidyRods F = some F' ∧ rep k n (aTidy k n n 0 a) F' ∧ kpt F' = kpt F ∧ wf k n (m + 1000 * n) (aTidy k n n 0 a) := by
  have hn := hw.2.2.1
  obtain ⟨F1, f1, r1, k1, w1⟩ := tidy_l n 0 16 m a F h hw (by omega) (by omega) (by omega)
  rw [nI_0] at f1
  exact ⟨F1, f1, r1, k1, w1⟩
/-- the first rod from i on, below n, that shows more than 0 -/
def lend (a : AS) : Nat → Nat → Nat
  | 0, i => i
  | f + 1, i => if aV a i = 0 then lend a f (i + 1) else i
theorem lend_le (a : AS) : ∀ f i, i ≤ lend a f i ∧ lend a f i ≤ i + f := by
  intro f
  induction f with
  | zero => intro i; exact ⟨Nat.le_refl _, Nat.le_refl _⟩
  | succ f ih =>
    intro i
    unfold lend
    split
    · have := ih (i + 1)
      omega
    · omega
theorem lend_l {k n : Nat} {c1 c2 c3 : Int32} (K : Int32 → FR → Option FR) : ∀ (f i g m : Nat) (a : AS) (F : FR), rep k n a F → wf k n m a → i + f = n → f < g →
    l_X1_takeDigit_25 c1 c2 c3 K g (nI i) F = K (nI (lend a f i)) F := by
  intro f
  induction f with
  | zero =>
    intro i g m a F h hw hi hg
    obtain ⟨g, rfl⟩ : ∃ g', g = g' + 1 := ⟨g - 1, by omega⟩
    have hn := hw.2.2.1
    rw [l_X1_takeDigit_25, h.2.1, if_pos (nI_le (by omega) (by omega))]
    rfl
  | succ f ih =>
    intro i g m a F h hw hi hg
    obtain ⟨g, rfl⟩ : ∃ g', g = g' + 1 := ⟨g - 1, by omega⟩
    have hn := hw.2.2.1
    have g3 := aV_le hw (show i < 8 by omega)
    have g2 := most_ge hw.1
    rw [l_X1_takeDigit_25, h.2.1, if_neg (nI_ge (by omega) (by omega)), valueAt_s h (by omega), obd_s]
    unfold lend
    by_cases c : aV a i = 0
    · rw [if_pos (by rw [c]; decide), if_pos c, bnd_k, nI_1]
      exact ih (i + 1) g m a F h hw (by omega) (by omega)
    · rw [if_neg (nI_ne0 (by omega) (by omega)), if_neg c]
/-- rods f + r down to r + 1 get 9 -/
def aNines (k r : Nat) : Nat → AS → AS
  | 0, a => a
  | f + 1, a => aNines k r f (aSet k (r + f + 1) 9 a)
theorem aNines_wf {k n r : Nat} : ∀ (f m : Nat) (a : AS), wf k n m a → r + f < 8 → wf k n (m + 100 * f) (aNines k r f a) := by
  intro f
  induction f with
  | zero => intro m a h _; exact h
  | succ f ih =>
    intro m a h hr
    obtain ⟨g1, g2⟩ := most_ge h.1
    exact wf_mono (ih (m + 100) _ (aSet_wf h (r := r + f + 1) (v := 9) (by omega) (by omega)) (by omega)) (by omega)
