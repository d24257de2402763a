-- the pure level, 5: a digit is brought
def aSp (x : Nat) (a : AS) : AS := (aU a, aD a, aWu a, aWd a, aHd a, aT a, aP a, aB a, aC a, aL a, aS a + x)
def aCa (a : AS) : AS := (aU a, aD a, aWu a, aWd a, aHd a, aT a, aP a, aB a, aC a + 1, aL a, aS a)
def aBring (k : Nat) : Nat → Nat → Nat → AS → AS
  | 0, _, more, a => aSp more a
  | f + 1, i, more, a => if more = 0 then a else if aV a i + more ≤ 9 then aSet k i (aV a i + more) a else aBring k f (i + 1) 1 (aCa (aSet k i (aV a i + more - 10) a))
theorem most_ge {k : Nat} (hk : k < 3) : 9 ≤ 5 * ABk k + BEk k ∧ 5 * ABk k + BEk k ≤ 15 := by
  rcases (show k = 0 ∨ k = 1 ∨ k = 2 by omega) with rfl | rfl | rfl <;> decide
theorem aV_le {k n m : Nat} {a : AS} (hw : wf k n m a) {j : Nat} (hj : j < 8) : aV a j ≤ 5 * ABk k + BEk k := by
  have := hw.2.2.2.1 j hj
  unfold aV
  omega
theorem wf_sp {k n m x : Nat} {a : AS} (hw : wf k n m a) : wf k n m (aSp x a) := hw
theorem wf_ca {k n m : Nat} {a : AS} (hw : wf k n m a) : wf k n m (aCa a) := hw
theorem aBring_wf {k n : Nat} : ∀ (f i more m : Nat) (a : AS), wf k n m a → i + f ≤ 8 → more ≤ 9 → wf k n (m + 100 * f) (aBring k f i more a) := by
  intro f
  induction f with
  | zero => intro i more m a hw _ _; exact wf_sp hw
  | succ f ih =>
    intro i more m a hw hi hmo
    obtain ⟨g1, g2⟩ := most_ge hw.1
    have g3 := aV_le hw (show i < 8 by omega)
    unfold aBring
    split
    · exact wf_mono hw (by omega)
    · split
      · exact wf_mono (aSet_wf hw (r := i) (by omega) (by omega)) (by omega)
      · exact wf_mono (ih (i + 1) 1 (m + 100) _ (wf_ca (aSet_wf hw (r := i) (by omega) (by omega))) (by omega) (by omega)) (by omega)
theorem rep_sp {k n x : Nat} {a : AS} {F : FR} (h : rep k n a F) : rep k n (aSp x a) (sfSp F (fSp F + nI x)) := by
  obtain ⟨h1, h2, h3, h4, h5, h6, h7, h8, h9, h10, h11⟩ := h
  refine ⟨h1, h2, h3, h4, h5, h6, h7, h8, h9, h10, ?_⟩
  show fSp F + nI x = nI (aS a + x)
  rw [h11, nI_add]
theorem rep_ca {k n : Nat} {a : AS} {F : FR} (h : rep k n a F) : rep k n (aCa a) (sfCa F (fCa F + 1)) := by
  obtain ⟨h1, h2, h3, h4, h5, h6, h7, h8, h9, h10, h11⟩ := h
  refine ⟨h1, h2, h3, h4, h5, h6, h7, h8, ?_, h10, h11⟩
  show fCa F + 1 = nI (aC a + 1)
  rw [h9, nI_1]
theorem rep_sp0 {k n : Nat} {a : AS} {F : FR} (h : rep k n a F) : rep k n a (sfSp F (fSp F + 0)) := rep_sp (x := 0) h
theorem bring_l {k n : Nat} (hn8 : n ≤ 8) : ∀ (f i more m g : Nat) (a : AS) (F : FR), rep k n a F → wf k n m a → m + 100 * f < 2 ^ 21 → n ≤ i + f → (f = 0 ∨ i + f = n) → i < 20 → more ≤ 9 → f < g →
    ∃ F', l_X1_bring_5 (fun (a32 : Int32) (a33 : Int32) (F34 : FR) => bnd ((fSp F34) + a32) fun (v35 : Int32) => some (sfSp F34 v35)) g (nI more) (nI i) F = some F' ∧ rep k n (aBring k f i more a) F' ∧ kpt F' = kpt F := by
  intro f
  induction f with
  | zero =>
    intro i more m g a F h hw hm hi1 hi2 hi20 hmo hg
    obtain ⟨g, rfl⟩ : ∃ g', g = g' + 1 := ⟨g - 1, by omega⟩
    rw [l_X1_bring_5, h.2.1, if_pos (nI_le (by omega) (by omega))]
    exact ⟨_, rfl, rep_sp h, rfl⟩
  | succ f ih =>
    intro i more m g a F h hw hm hi1 hi2 hi20 hmo hg
    obtain ⟨g, rfl⟩ : ∃ g', g = g' + 1 := ⟨g - 1, by omega⟩
    have hin : i + (f + 1) = n := by omega
    obtain ⟨g1, g2⟩ := most_ge hw.1
    have g3 := aV_le hw (show i < 8 by omega)
    rw [l_X1_bring_5, h.2.1, if_neg (nI_ge (by omega) (by omega))]
    unfold aBring
    by_cases c0 : more = 0
    · subst c0
      rw [if_pos (by decide), if_pos rfl]
      exact ⟨_, rfl, rep_sp0 h, rfl⟩
    · rw [if_neg (nI_nle (by omega) (by omega)), if_neg c0, valueAt_s h (show i < 8 by omega), obd_s]
      simp only [bnd, nI_add]
      by_cases c9 : aV a i + more ≤ 9
      · rw [if_neg (show ¬ (9 : Int32) < nI (aV a i + more) from nI_nlt (b := aV a i + more) (a := 9) c9 (by decide)), if_pos c9]
        obtain ⟨F1, f1, r1, k1⟩ := setRod_s h hw (by omega) (r := i) (by omega) (v := aV a i + more) (by omega)
        rw [f1, obd_s]
        obtain ⟨g, rfl⟩ : ∃ g', g = g' + 1 := ⟨g - 1, by omega⟩
        rw [l_X1_bring_5]
        refine ⟨sfSp F1 (fSp F1 + 0), ?_, rep_sp0 r1, k1⟩
        split
        · rfl
        · rfl
      · rw [if_pos (show (9 : Int32) < nI (aV a i + more) from nI_lt (a := 9) (by omega) (by omega)), if_neg c9]
        have e1 : nI (aV a i + more) - 10 = nI (aV a i + more - 10) := nI_subN (b := 10) (by omega)
        rw [e1]
        obtain ⟨F1, f1, r1, k1⟩ := setRod_s h hw (by omega) (r := i) (by omega) (v := aV a i + more - 10) (by omega)
        rw [f1, obd_s, nI_1]
        obtain ⟨F2, f2, r2, k2⟩ := ih (i + 1) 1 (m + 100) g _ _ (rep_ca r1) (wf_ca (aSet_wf hw (r := i) (by omega) (by omega))) (by omega) (by omega) (by omega) (by omega) (by omega) (by omega)
        exact ⟨F2, f2, r2, k2.trans k1⟩
theorem bring_s {k n m i more : Nat} {a : AS} {F : FR} (h : rep k n a F) (hw : wf k n m a) (hm : m + 800 < 2 ^ 21) (hi : i < 20) (hmo : more ≤ 9) : ∃ F', f_X1_bring F (nI i) (nI more) = some F' ∧ rep k n (aBring k (n - i) i more a) F' ∧ kpt F' = kpt F := by
  have hn := hw.2.2.1
  exact bring_l hn (n - i) i more m 16 a F h hw (by omega) (by omega) (by omega) hi hmo (by omega)
theorem trep_sp {k n x : Nat} {a : AS} {T : TD} (h : trep k n a T) : trep k n (aSp x a) (stSm T (upd (tSm T) 4 (tSm T 4 + nI x))) := by
  obtain ⟨h1, h2, h3, h4, h5, h6, h7, h8⟩ := h
  refine ⟨h1, h2, h3, h4, h5, h6, h7, ?_⟩
  show tSm T 4 + nI x = nI (aS a + x)
  rw [h8, nI_add]
theorem trep_ca {k n : Nat} {a : AS} {T : TD} (h : trep k n a T) : trep k n (aCa a) (stSm T (upd (tSm T) 2 (tSm T 2 + 1))) := by
  obtain ⟨h1, h2, h3, h4, h5, h6, h7, h8⟩ := h
  refine ⟨h1, h2, h3, h4, h5, ?_, h7, h8⟩
  show tSm T 2 + 1 = nI (aC a + 1)
  rw [h6, nI_1]
theorem trep_ca0 {k n : Nat} {a : AS} {T : TD} (h : trep k n a T) : trep k n a (stSm T (upd (tSm T) 2 (tSm T 2 + 0))) := by
  obtain ⟨h1, h2, h3, h4, h5, h6, h7, h8⟩ := h
  refine ⟨h1, h2, h3, h4, h5, ?_, h7, h8⟩
  show tSm T 2 + 0 = nI (aC a)
  rw [h6, Int32.add_zero]
theorem value_s {k n : Nat} {a : AS} {T : TD} (h : trep k n a T) (hn : n ≤ 8) {j : Nat} (hj : j < n) : f_X3_value T (nI j) = some (nI (aV a j)) := by
  obtain ⟨e1, e2, -, -⟩ := h.2.2.1 j hj
  unfold f_X3_value
  rw [show gin (nI j) (tN T) = true by rw [h.2.1]; exact gin_nI hj (by omega), clampI (by omega)]
  simp only [bnd, gd_t, e1, e2]
  show some (nI (aU a j) * nI 5 + nI (aD a j)) = _
  rw [nI_mul, nI_add, Nat.mul_comm]
  rfl
theorem cl2 : Int32.toNatClampNeg 2 = 2 := by decide
theorem cl4 : Int32.toNatClampNeg 4 = 4 := by decide
theorem g25 : gin 2 5 = true := by decide
theorem g45 : gin 4 5 = true := by decide
theorem bringT_l {k n : Nat} (hn8 : n ≤ 8) : ∀ (f i more m g : Nat) (a : AS) (T : TD), trep k n a T → wf k n m a → n ≤ i + f → (f = 0 ∨ i + f = n) → i < 20 → more ≤ 9 → f + 1 < g →
    ∃ T', l_X3_bring_5 (fun (a60 : Int32) (a61 : Int32) (F62 : TD) => some F62) g (nI more) (nI i) T = some T' ∧ trep k n (aBring k f i more a) T' ∧ tkp T' = tkp T := by
  intro f
  induction f with
  | zero =>
    intro i more m g a T h hw hi1 hi2 hi20 hmo hg
    obtain ⟨g, rfl⟩ : ∃ g', g = g' + 1 := ⟨g - 1, by omega⟩
    rw [l_X3_bring_5]
    by_cases c0 : more = 0
    · subst c0
      rw [if_pos (by decide)]
      exact ⟨T, rfl, h, rfl⟩
    · rw [if_neg (nI_nle (by omega) (by omega)), h.2.1, if_neg (nI_nlt (by omega) (by omega)), g45, cl4]
      exact ⟨_, rfl, trep_sp h, rfl⟩
  | succ f ih =>
    intro i more m g a T h hw hi1 hi2 hi20 hmo hg
    obtain ⟨g, rfl⟩ : ∃ g', g = g' + 1 := ⟨g - 1, by omega⟩
    have hin : i + (f + 1) = n := by omega
    obtain ⟨g1, g2⟩ := most_ge hw.1
    have g3 := aV_le hw (show i < 8 by omega)
    rw [l_X3_bring_5]
    unfold aBring
    by_cases c0 : more = 0
    · subst c0
      rw [if_pos (by decide), if_pos rfl]
      exact ⟨T, rfl, h, rfl⟩
    · rw [if_neg (nI_nle (by omega) (by omega)), if_neg c0, h.2.1, if_pos (nI_lt (by omega) (by omega)), value_s h hn8 (show i < n by omega), obd_s]
      simp only [bnd, nI_add]
      by_cases c9 : aV a i + more ≤ 9
      · rw [if_pos (show nI (aV a i + more) ≤ (9 : Int32) from nI_le (b := 9) c9 (by decide)), if_pos c9]
        rw [show nI (aV a i + more) - 10 * 0 = nI (aV a i + more) by rw [show (10 : Int32) * 0 = 0 by decide, Int32.sub_zero]]
        obtain ⟨T1, f1, r1, k1⟩ := setT_s h hw (r := i) (by omega) (v := aV a i + more) (by omega)
        rw [f1, obd_s, g25, cl2]
        simp only [bnd, gd_t]
        obtain ⟨g, rfl⟩ : ∃ g', g = g' + 1 := ⟨g - 1, by omega⟩
        rw [l_X3_bring_5, if_pos (by decide)]
        exact ⟨_, rfl, trep_ca0 r1, k1⟩
      · rw [if_neg (show ¬ nI (aV a i + more) ≤ (9 : Int32) from nI_ge (a := 9) (by omega) (by omega)), if_neg c9]
        have e1 : nI (aV a i + more) - 10 * 1 = nI (aV a i + more - 10) := by
          rw [show (10 : Int32) * 1 = nI 10 by decide]
          exact nI_subN (by omega)
        rw [e1]
        obtain ⟨T1, f1, r1, k1⟩ := setT_s h hw (r := i) (by omega) (v := aV a i + more - 10) (by omega)
        rw [f1, obd_s, g25, cl2]
        simp only [bnd, gd_t, nI_1]
        obtain ⟨T2, f2, r2, k2⟩ := ih (i + 1) 1 (m + 100) g _ _ (trep_ca r1) (wf_ca (aSet_wf hw (r := i) (by omega) (by omega))) (by omega) (by omega) (by omega) (by omega) (by omega)
        exact ⟨T2, f2, r2, k2.trans k1⟩
theorem bringT_s {k n m i more : Nat} {a : AS} {T : TD} (h : trep k n a T) (hw : wf k n m a) (hi : i < 20) (hmo : more ≤ 9) : ∃ T', f_X3_bring T (nI i) (nI more) = some T' ∧ trep k n (aBring k (n - i) i more a) T' ∧ tkp T' = tkp T := by
  have hn := hw.2.2.1
  exact bringT_l hn (n - i) i more m 16 a T h hw (by omega) (by omega) hi hmo (by omega)
