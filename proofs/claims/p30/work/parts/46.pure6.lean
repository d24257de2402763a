-- the pure level, 6: digits; a number is brought
def zI (j : Nat) : Int32 := nI j - 1
theorem zI_0 : zI 0 < 0 := by decide
theorem zI_s (j : Nat) : zI (j + 1) = nI j := nI_pred j
theorem zI_m (j : Nat) : nI j + (-1) = zI j := by
  unfold zI
  rw [Int32.sub_eq_add_neg]
theorem tenpow (i : Nat) (N : Nat) : N / 10 ^ i / 10 = N / 10 ^ (i + 1) := by rw [Nat.div_div_eq_div_mul, Nat.pow_succ]
theorem digitAt_l {r N : Nat} (hr : r < 100) (hN : N < 2 ^ 62) (K : Int64 → Int32 → Option Int32) : ∀ (j i g : Nat), i + j = r → j < g → l_X1_digitAt_5 (nI r) K g (lN (N / 10 ^ i)) (nI i) = K (lN (N / 10 ^ r)) (nI r) := by
  intro j
  induction j with
  | zero =>
    intro i g h hg
    obtain ⟨g, rfl⟩ : ∃ g', g = g' + 1 := ⟨g - 1, by omega⟩
    obtain rfl : i = r := by omega
    rw [l_X1_digitAt_5, if_pos (nI_le (Nat.le_refl _) (by omega))]
  | succ j ih =>
    intro i g h hg
    obtain ⟨g, rfl⟩ : ∃ g', g = g' + 1 := ⟨g - 1, by omega⟩
    have hb : N / 10 ^ i < 2 ^ 62 := Nat.lt_of_le_of_lt (Nat.div_le_self _ _) hN
    rw [l_X1_digitAt_5, if_neg (nI_ge (by omega) (by omega))]
    simp only [bnd, nI_1]
    rw [show lN (N / 10 ^ i) / 10 = lN (N / 10 ^ i / 10) from pk_lDiv (b := 10) (by omega) (by decide) (by decide), tenpow]
    exact ih (i + 1) g (by omega) (by omega)
theorem digitAt_s {r N : Nat} (hr : r < 16) (hN : N < 2 ^ 62) : f_X1_digitAt (lN N) (nI r) = some (nI (N / 10 ^ r % 10)) := by
  unfold f_X1_digitAt
  have h := digitAt_l (r := r) (by omega) hN (fun (a15 : Int64) (a16 : Int32) => bnd (a15 - a15 / 10 * 10) fun (v18 : Int64) => bnd (v18.toInt32) fun (v19 : Int32) => some v19) r 0 16 (by omega) (by omega)
  rw [Nat.pow_zero, Nat.div_one] at h
  have hb : N / 10 ^ r < 2 ^ 62 := Nat.lt_of_le_of_lt (Nat.div_le_self _ _) hN
  refine Eq.trans h ?_
  simp only [bnd]
  rw [show lN (N / 10 ^ r) - lN (N / 10 ^ r) / 10 * 10 = lN (N / 10 ^ r % 10) from pk_lRem (b := 10) (by omega) (by decide) (by decide), lN_i]
def aAdds (k n N : Nat) : Nat → AS → AS
  | 0, a => a
  | j + 1, a => aAdds k n N j (aBring k (n - j) j (N / 10 ^ j % 10) a)
theorem aAdds_wf {k n N : Nat} (hn : n ≤ 8) : ∀ (j m : Nat) (a : AS), wf k n m a → j ≤ n → wf k n (m + 800 * j) (aAdds k n N j a) := by
  intro j
  induction j with
  | zero => intro m a h _; exact h
  | succ j ih =>
    intro m a h hj
    have h1 : wf k n (m + 100 * (n - j)) (aBring k (n - j) j (N / 10 ^ j % 10) a) := aBring_wf (n - j) j _ m a h (by omega) (by omega)
    exact wf_mono (ih (m + 800) _ (wf_mono h1 (by omega)) (by omega)) (by omega)
theorem bringN_l {k n N : Nat} (hN : N < 2 ^ 62) : ∀ (j g m : Nat) (a : AS) (F : FR), rep k n a F → wf k n m a → m + 800 * j + 800 < 2 ^ 21 → j ≤ n → j < g →
    ∃ F', l_X1_bringNumber_7 (lN N) (fun (a16 : Int32) (F17 : FR) => some F17) g (zI j) F = some F' ∧ rep k n (aAdds k n N j a) F' ∧ kpt F' = kpt F := by
  intro j
  induction j with
  | zero =>
    intro g m a F h hw hm hj hg
    obtain ⟨g, rfl⟩ : ∃ g', g = g' + 1 := ⟨g - 1, by omega⟩
    rw [l_X1_bringNumber_7, if_pos zI_0]
    exact ⟨F, rfl, h, rfl⟩
  | succ j ih =>
    intro g m a F h hw hm hj hg
    obtain ⟨g, rfl⟩ : ∃ g', g = g' + 1 := ⟨g - 1, by omega⟩
    have hn := hw.2.2.1
    rw [l_X1_bringNumber_7, zI_s, if_neg (lt0 (by omega)), digitAt_s (by omega) hN, obd_s]
    obtain ⟨F1, f1, r1, k1⟩ := bring_s h hw (i := j) (more := N / 10 ^ j % 10) (by omega) (by omega) (by omega)
    rw [f1, obd_s]
    simp only [bnd, zI_m]
    have w1 : wf k n (m + 100 * (n - j)) _ := aBring_wf (n - j) j (N / 10 ^ j % 10) m a hw (by omega) (by omega)
    obtain ⟨F2, f2, r2, k2⟩ := ih g (m + 800) _ F1 r1 (wf_mono w1 (by omega)) (by omega) (by omega) (by omega)
    exact ⟨F2, f2, r2, k2.trans k1⟩
theorem bringNumber_s {k n m N : Nat} {a : AS} {F : FR} (h : rep k n a F) (hw : wf k n m a) (hm : m + 8000 < 2 ^ 21) (hN : N < 2 ^ 62) : ∃ F', f_X1_bringNumber F (lN N) = some F' ∧ rep k n (aAdds k n N n a) F' ∧ kpt F' = kpt F := by
  have hn := hw.2.2.1
  unfold f_X1_bringNumber
  simp only [bnd]
  rw [h.2.1]
  exact bringN_l hN n 16 m a F h hw (by omega) (Nat.le_refl _) (by omega)
theorem digitsT_l {n N N0 : Nat} (hn : n ≤ 10) (hN : N < 2 ^ 62) (hN0 : N0 = n) : ∀ (j i g : Nat) (A : Nat → Int32), i + j = n → j < g → (∀ r, r < i → A r = nI (N / 10 ^ r % 10)) →
    ∃ A', l_X3_digits_10 (nI n) N0 (fun (a28 : Int64) (a29 : Int32) (F30 : (Nat → Int32)) => some F30) g (lN (N / 10 ^ i)) (nI i) A = some A' ∧ ∀ r, r < n → A' r = nI (N / 10 ^ r % 10) := by
  intro j
  induction j with
  | zero =>
    intro i g A h hg hA
    obtain ⟨g, rfl⟩ : ∃ g', g = g' + 1 := ⟨g - 1, by omega⟩
    obtain rfl : i = n := by omega
    rw [l_X3_digits_10, if_pos (nI_le (Nat.le_refl _) (by omega))]
    exact ⟨A, rfl, hA⟩
  | succ j ih =>
    intro i g A h hg hA
    obtain ⟨g, rfl⟩ : ∃ g', g = g' + 1 := ⟨g - 1, by omega⟩
    have hb : N / 10 ^ i < 2 ^ 62 := Nat.lt_of_le_of_lt (Nat.div_le_self _ _) hN
    rw [l_X3_digits_10, if_neg (nI_ge (by omega) (by omega)), gin_nI (show i < N0 by omega) (by omega)]
    simp only [bnd, nI_1, gd_t]
    rw [show lN (N / 10 ^ i) / 10 = lN (N / 10 ^ i / 10) from pk_lDiv (b := 10) (by omega) (by decide) (by decide), tenpow, nI_clamp (by omega),
      show lN (N / 10 ^ i) - lN (N / 10 ^ (i + 1)) * 10 = lN (N / 10 ^ i % 10) by
        rw [← tenpow, show lN (N / 10 ^ i / 10) = lN (N / 10 ^ i) / 10 from (pk_lDiv (b := 10) (by omega) (by decide) (by decide)).symm]
        exact pk_lRem (b := 10) (by omega) (by decide) (by decide), lN_i]
    refine ih (i + 1) g _ (by omega) (by omega) (fun r hr => ?_)
    rw [updI_at]
    by_cases c : r = i
    · rw [if_pos c, c]
    · rw [if_neg c]
      exact hA r (by omega)
theorem digitsT_s {n N : Nat} (hn : n ≤ 10) (hN : N < 2 ^ 62) : ∃ A', f_X3_digits (lN N) (nI n) = some A' ∧ ∀ r, r < n → A' r = nI (N / 10 ^ r % 10) := by
  unfold f_X3_digits
  rw [show glen (nI n) 10 = true by unfold glen; rw [nI_toInt (by omega)]; simp; omega, gd_t, nI_clamp (by omega)]
  have h := digitsT_l hn hN rfl n 0 16 (fun _ => 0) (by omega) (by omega) (fun r hr => by omega)
  rw [Nat.pow_zero, Nat.div_one] at h
  exact h
theorem adds_l {k n N N1 : Nat} {A : Nat → Int32} (hA : ∀ r, r < n → A r = nI (N / 10 ^ r % 10)) (hN1 : N1 = n) : ∀ (j g m : Nat) (a : AS) (T : TD), trep k n a T → wf k n m a → j ≤ n → j < g →
    ∃ T', l_X3_adds_19 A N1 (fun (a21 : Int32) (F22 : TD) => some F22) g (zI j) T = some T' ∧ trep k n (aAdds k n N j a) T' ∧ tkp T' = tkp T := by
  intro j
  induction j with
  | zero =>
    intro g m a T h hw hj hg
    obtain ⟨g, rfl⟩ : ∃ g', g = g' + 1 := ⟨g - 1, by omega⟩
    rw [l_X3_adds_19, if_pos zI_0]
    exact ⟨T, rfl, h, rfl⟩
  | succ j ih =>
    intro g m a T h hw hj hg
    obtain ⟨g, rfl⟩ : ∃ g', g = g' + 1 := ⟨g - 1, by omega⟩
    have hn := hw.2.2.1
    rw [l_X3_adds_19, zI_s, if_neg (lt0 (by omega)), gin_nI (show j < N1 by omega) (by omega), gd_t, clampI (by omega), hA j (by omega)]
    simp only [bnd, zI_m]
    obtain ⟨T1, f1, r1, k1⟩ := bringT_s h hw (i := j) (more := N / 10 ^ j % 10) (by omega) (by omega)
    rw [f1, obd_s]
    have w1 : wf k n (m + 100 * (n - j)) _ := aBring_wf (n - j) j (N / 10 ^ j % 10) m a hw (by omega) (by omega)
    obtain ⟨T2, f2, r2, k2⟩ := ih g (m + 800) _ T1 r1 (wf_mono w1 (by omega)) (by omega) (by omega)
    exact ⟨T2, f2, r2, k2.trans k1⟩
theorem adds_s {k n m N : Nat} {a : AS} {T : TD} (h : trep k n a T) (hw : wf k n m a) (hN : N < 2 ^ 31) : ∃ T', f_X3_adds T (nI N) = some T' ∧ trep k n (aAdds k n N n a) T' ∧ tkp T' = tkp T := by
  have hn := hw.2.2.1
  unfold f_X3_adds
  simp only [bnd]
  rw [nI_l hN, h.2.1]
  obtain ⟨A, hA1, hA2⟩ := digitsT_s (n := n) (N := N) (by omega) (by omega)
  rw [hA1, obd_s, nI_clamp (by omega)]
  exact adds_l hA2 rfl n 16 m a T h hw (Nat.le_refl _) (by omega)
