-- the pure level, 7: times, divide, set to a number, tidy, in the frame
def aMul (k n d : Nat) : Nat → AS → AS
  | 0, a => a
  | j + 1, a => aMul k n d j (aBring k (n - (j + 2)) (j + 2) (aV a j * d / 100) (aBring k (n - (j + 1)) (j + 1) (aV a j * d / 10 % 10) (aBring k (n - j) j (aV a j * d % 10) (aSet k j 0 a))))
theorem bring_wf {k n m i more : Nat} {a : AS} (hw : wf k n m a) (hmo : more ≤ 9) : wf k n (m + 800) (aBring k (n - i) i more a) := by
  have hn := hw.2.2.1
  by_cases c : i ≤ n
  · exact wf_mono (aBring_wf (n - i) i more m a hw (by omega) hmo) (by omega)
  · rw [show n - i = 0 by omega]
    exact wf_mono (wf_sp hw) (by omega)
theorem mul15 {v d : Nat} (hv : v ≤ 15) (hd : d ≤ 9) : v * d ≤ 135 := Nat.le_trans (Nat.mul_le_mul hv hd) (by decide)
theorem aMul_step_wf {k n m d j : Nat} {a : AS} (hw : wf k n m a) (hj : j < n) (hd : d ≤ 9) : wf k n (m + 2500) (aBring k (n - (j + 2)) (j + 2) (aV a j * d / 100) (aBring k (n - (j + 1)) (j + 1) (aV a j * d / 10 % 10) (aBring k (n - j) j (aV a j * d % 10) (aSet k j 0 a)))) := by
  have hn := hw.2.2.1
  obtain ⟨g1, g2⟩ := most_ge hw.1
  have g3 := aV_le hw (show j < 8 by omega)
  have hp := mul15 (show aV a j ≤ 15 by omega) hd
  exact wf_mono (bring_wf (bring_wf (bring_wf (aSet_wf hw (r := j) (v := 0) (by omega) (by omega)) (by omega)) (by omega)) (by omega)) (by omega)
theorem mul_l {k n d : Nat} (hd : d ≤ 9) : ∀ (j g m : Nat) (a : AS) (F : FR), rep k n a F → wf k n m a → m + 2500 * j + 3000 < 2 ^ 21 → j ≤ n → j < g →
    ∃ F', l_X1_multiply_7 (nI d) (fun (a44 : Int32) (F45 : FR) => some F45) g (zI j) F = some F' ∧ rep k n (aMul k n d j a) F' ∧ kpt F' = kpt F := by
  intro j
  induction j with
  | zero =>
    intro g m a F h hw hm hj hg
    obtain ⟨g, rfl⟩ : ∃ g', g = g' + 1 := ⟨g - 1, by omega⟩
    rw [l_X1_multiply_7, if_pos zI_0]
    exact ⟨F, rfl, h, rfl⟩
  | succ j ih =>
    intro g m a F h hw hm hj hg
    obtain ⟨g, rfl⟩ : ∃ g', g = g' + 1 := ⟨g - 1, by omega⟩
    have hn := hw.2.2.1
    obtain ⟨g1, g2⟩ := most_ge hw.1
    have g3 := aV_le hw (show j < 8 by omega)
    have hp := mul15 (show aV a j ≤ 15 by omega) hd
    rw [l_X1_multiply_7, zI_s, if_neg (lt0 (by omega)), valueAt_s h (by omega), obd_s]
    simp only [bnd, nI_mul, zI_m]
    obtain ⟨F1, f1, r1, k1⟩ := setRod_s h hw (by omega) (r := j) (v := 0) (by omega) (by omega)
    rw [show f_X1_setRod F (nI j) 0 = some F1 from f1, obd_s]
    have w1 := aSet_wf hw (r := j) (v := 0) (by omega) (by omega)
    rw [show nI (aV a j * d) - nI (aV a j * d) / 10 * 10 = nI (aV a j * d % 10) from pk_rem (d := 10) (by omega) (by decide) (by decide)]
    obtain ⟨F2, f2, r2, k2⟩ := bring_s r1 w1 (i := j) (more := aV a j * d % 10) (by omega) (by omega) (by omega)
    have w2 := bring_wf (i := j) (more := aV a j * d % 10) w1 (by omega)
    rw [f2, obd_s, show nI (aV a j * d) / 10 = nI (aV a j * d / 10) from pk_div (d := 10) (by omega) (by decide) (by decide)]
    rw [show nI (aV a j * d / 10) - nI (aV a j * d / 10) / 10 * 10 = nI (aV a j * d / 10 % 10) from pk_rem (d := 10) (by omega) (by decide) (by decide)]
    rw [nI_1]
    obtain ⟨F3, f3, r3, k3⟩ := bring_s r2 w2 (i := j + 1) (more := aV a j * d / 10 % 10) (by omega) (by omega) (by omega)
    have w3 := bring_wf (i := j + 1) (more := aV a j * d / 10 % 10) w2 (by omega)
    rw [f3, obd_s, show nI (aV a j * d) / 100 = nI (aV a j * d / 100) from pk_div (d := 100) (by omega) (by decide) (by decide), show nI j + 2 = nI (j + 2) from nI_add j 2]
    obtain ⟨F4, f4, r4, k4⟩ := bring_s r3 w3 (i := j + 2) (more := aV a j * d / 100) (by omega) (by omega) (by omega)
    have w4 := bring_wf (i := j + 2) (more := aV a j * d / 100) w3 (by omega)
    rw [f4, obd_s]
    obtain ⟨F5, f5, r5, k5⟩ := ih g (m + 2500) _ F4 r4 (wf_mono w4 (by omega)) (by omega) (by omega) (by omega)
    exact ⟨F5, f5, r5, k5.trans (k4.trans (k3.trans (k2.trans k1)))⟩
theorem multiply_s {k n m d : Nat} {a : AS} {F : FR} (h : rep k n a F) (hw : wf k n m a) (hm : m + 24000 < 2 ^ 21) (hd : d ≤ 9) : ∃ F', f_X1_multiply F (nI d) = some F' ∧ rep k n (aMul k n d n a) F' ∧ kpt F' = kpt F := by
  have hn := hw.2.2.1
  unfold f_X1_multiply
  simp only [bnd]
  rw [h.2.1]
  exact mul_l hd n 16 m a F h hw (by omega) (Nat.le_refl _) (by omega)
def aDiv (k d : Nat) : Nat → Nat → AS → Nat × AS
  | 0, rest, a => (rest, a)
  | j + 1, rest, a => aDiv k d j ((10 * rest + aV a j) % d) (aSet k j ((10 * rest + aV a j) / d) a)
theorem div_most {k v rest d : Nat} (hk : k < 3) (hv : v ≤ 5 * ABk k + BEk k) (hr : rest < d) (hd : d ≤ 9) : (10 * rest + v) / d ≤ 5 * ABk k + BEk k := by
  have key : ∀ k : Fin 3, ∀ v : Fin 16, ∀ r : Fin 9, ∀ d : Fin 10, v.val ≤ 5 * ABk k.val + BEk k.val → r.val < d.val → (10 * r.val + v.val) / d.val ≤ 5 * ABk k.val + BEk k.val := by decide +kernel
  have := (most_ge hk).2
  exact key ⟨k, hk⟩ ⟨v, by omega⟩ ⟨rest, by omega⟩ ⟨d, by omega⟩ hv hr
theorem div_l {k n d : Nat} (hd0 : 0 < d) (hd : d ≤ 9) : ∀ (j g m rest : Nat) (a : AS) (F : FR), rep k n a F → wf k n m a → m + 100 * j + 100 < 2 ^ 21 → j ≤ n → j < g → rest < d →
    ∃ F', l_X1_splitBy_15 (nI d) (fun (a32 : Int32) (a33 : Int32) (F34 : FR) => some (a32, F34)) g (nI rest) (zI j) F = some (nI (aDiv k d j rest a).1, F') ∧ rep k n (aDiv k d j rest a).2 F' ∧ kpt F' = kpt F := by
  intro j
  induction j with
  | zero =>
    intro g m rest a F h hw hm hj hg hr
    obtain ⟨g, rfl⟩ : ∃ g', g = g' + 1 := ⟨g - 1, by omega⟩
    rw [l_X1_splitBy_15, if_pos zI_0]
    exact ⟨F, rfl, h, rfl⟩
  | succ j ih =>
    intro g m rest a F h hw hm hj hg hr
    obtain ⟨g, rfl⟩ : ∃ g', g = g' + 1 := ⟨g - 1, by omega⟩
    have hn := hw.2.2.1
    obtain ⟨g1, g2⟩ := most_ge hw.1
    have g3 := aV_le hw (show j < 8 by omega)
    have hq := div_most hw.1 g3 hr hd
    rw [l_X1_splitBy_15, zI_s, if_neg (lt0 (by omega)), valueAt_s h (by omega)]
    have nz : nz32 (nI d) = true := by
      unfold nz32
      rw [decide_eq_true_iff]
      exact nI_ne0 hd0 (by omega)
    simp only [bnd, obd_s, nz, gd_t, zI_m]
    rw [show (10 : Int32) * nI rest = nI (10 * rest) from nI_mul 10 rest, nI_add, pk_div (by omega) hd0 (by omega)]
    obtain ⟨F1, f1, r1, k1⟩ := setRod_s h hw (by omega) (r := j) (v := (10 * rest + aV a j) / d) (by omega) hq
    rw [f1, obd_s]
    rw [show nI (10 * rest + aV a j) - nI ((10 * rest + aV a j) / d) * nI d = nI ((10 * rest + aV a j) % d) by
      rw [← pk_div (a := 10 * rest + aV a j) (d := d) (by omega) hd0 (by omega)]
      exact pk_rem (by omega) hd0 (by omega)]
    obtain ⟨F2, f2, r2, k2⟩ := ih g (m + 100) ((10 * rest + aV a j) % d) _ F1 r1 (aSet_wf hw (by omega) hq) (by omega) (by omega) (by omega) (Nat.mod_lt _ hd0)
    exact ⟨F2, f2, r2, k2.trans k1⟩
theorem splitBy_s {k n m d : Nat} {a : AS} {F : FR} (h : rep k n a F) (hw : wf k n m a) (hm : m + 1000 < 2 ^ 21) (hd0 : 0 < d) (hd : d ≤ 9) : ∃ F', f_X1_splitBy F (nI d) = some (nI (aDiv k d n 0 a).1, F') ∧ rep k n (aDiv k d n 0 a).2 F' ∧ kpt F' = kpt F := by
  have hn := hw.2.2.1
  unfold f_X1_splitBy
  rw [if_pos (show (0 : Int32) < nI d from nI_lt (a := 0) hd0 (by omega))]
  simp only [bnd]
  rw [h.2.1]
  exact div_l hd0 hd n 16 m 0 a F h hw (by omega) (Nat.le_refl _) (by omega) hd0
def aSets (k N : Nat) : Nat → AS → AS
  | 0, a => a
  | j + 1, a => aSets k N j (aSet k j (N / 10 ^ j % 10) a)
theorem sets_l {k n N : Nat} (hN : N < 2 ^ 62) : ∀ (j g m : Nat) (a : AS) (F : FR), rep k n a F → wf k n m a → m + 100 * j + 100 < 2 ^ 21 → j ≤ n → j < g →
    ∃ F', l_X1_setRods_7 (lN N) (fun (a16 : Int32) (F17 : FR) => some F17) g (zI j) F = some F' ∧ rep k n (aSets k N j a) F' ∧ kpt F' = kpt F := by
  intro j
  induction j with
  | zero =>
    intro g m a F h hw hm hj hg
    obtain ⟨g, rfl⟩ : ∃ g', g = g' + 1 := ⟨g - 1, by omega⟩
    rw [l_X1_setRods_7, if_pos zI_0]
    exact ⟨F, rfl, h, rfl⟩
  | succ j ih =>
    intro g m a F h hw hm hj hg
    obtain ⟨g, rfl⟩ : ∃ g', g = g' + 1 := ⟨g - 1, by omega⟩
    have hn := hw.2.2.1
    obtain ⟨g1, g2⟩ := most_ge hw.1
    rw [l_X1_setRods_7, zI_s, if_neg (lt0 (by omega)), digitAt_s (by omega) hN, obd_s]
    obtain ⟨F1, f1, r1, k1⟩ := setRod_s h hw (by omega) (r := j) (v := N / 10 ^ j % 10) (by omega) (by omega)
    rw [f1, obd_s]
    simp only [bnd, zI_m]
    obtain ⟨F2, f2, r2, k2⟩ := ih g (m + 100) _ F1 r1 (aSet_wf hw (by omega) (by omega)) (by omega) (by omega) (by omega)
    exact ⟨F2, f2, r2, k2.trans k1⟩
theorem setRods_s {k n m N : Nat} {a : AS} {F : FR} (h : rep k n a F) (hw : wf k n m a) (hm : m + 1000 < 2 ^ 21) (hN : N < 2 ^ 62) : ∃ F', f_X1_setRods F (lN N) = some F' ∧ rep k n (aSets k N n a) F' ∧ kpt F' = kpt F := by
  have hn := hw.2.2.1
  unfold f_X1_setRods
  simp only [bnd]
  rw [h.2.1]
  exact sets_l hN n 16 m a F h hw (by omega) (Nat.le_refl _) (by omega)
