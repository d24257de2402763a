-- the pure level, 14: the number that a frame shows
def numV (V : Nat → Nat) : Nat → Nat
  | 0 => 0
  | j + 1 => numV V j + V j * 10 ^ j
theorem num_cong {V W : Nat → Nat} : ∀ j, (∀ i, i < j → V i = W i) → numV V j = numV W j := by
  intro j
  induction j with
  | zero => intro _; rfl
  | succ j ih =>
    intro h
    show numV V j + V j * 10 ^ j = numV W j + W j * 10 ^ j
    rw [ih (fun i hi => h i (by omega)), h j (by omega)]
theorem updN_at {f : Nat → Nat} {i j x : Nat} : updN f i x j = if j = i then x else f j := rfl
theorem num_out {V : Nat → Nat} {r x j : Nat} (h : j ≤ r) : numV (updN V r x) j = numV V j :=
  num_cong j fun i hi => by rw [updN_at, if_neg (by omega)]
theorem num_upd {V : Nat → Nat} {r x : Nat} : ∀ j, r < j → numV (updN V r x) j + V r * 10 ^ r = numV V j + x * 10 ^ r := by
  intro j
  induction j with
  | zero => intro h; omega
  | succ j ih =>
    intro h
    show numV (updN V r x) j + updN V r x j * 10 ^ j + V r * 10 ^ r = numV V j + V j * 10 ^ j + x * 10 ^ r
    by_cases c : j = r
    · subst c
      rw [num_out (Nat.le_refl _), updN_at, if_pos rfl]
      omega
    · have := ih (by omega)
      rw [updN_at, if_neg c]
      omega
theorem num_lt {V : Nat → Nat} : ∀ j, (∀ i, i < j → V i ≤ 9) → numV V j < 10 ^ j := by
  intro j
  induction j with
  | zero => intro _; exact Nat.zero_lt_one
  | succ j ih =>
    intro h
    have h1 := ih fun i hi => h i (by omega)
    have h2 : V j * 10 ^ j ≤ 9 * 10 ^ j := Nat.mul_le_mul_right _ (h j (by omega))
    show numV V j + V j * 10 ^ j < 10 ^ (j + 1)
    rw [Nat.pow_succ]
    omega
theorem num_lt2 {V : Nat → Nat} : ∀ j, (∀ i, i < j → V i ≤ 15) → numV V j < 2 * 10 ^ j := by
  intro j
  induction j with
  | zero => intro _; exact Nat.zero_lt_two
  | succ j ih =>
    intro h
    have h1 := ih fun i hi => h i (by omega)
    have h2 : V j * 10 ^ j ≤ 15 * 10 ^ j := Nat.mul_le_mul_right _ (h j (by omega))
    show numV V j + V j * 10 ^ j < 2 * 10 ^ (j + 1)
    rw [Nat.pow_succ]
    omega
theorem num_above {V : Nat → Nat} {j : Nat} : ∀ n, j ≤ n → (∀ i, j ≤ i → i < n → V i = 0) → numV V n = numV V j := by
  intro n
  induction n with
  | zero => intro h _; rw [show j = 0 by omega]
  | succ n ih =>
    intro h hz
    by_cases c : j = n + 1
    · rw [c]
    · show numV V n + V n * 10 ^ n = _
      rw [hz n (by omega) (by omega), ih (by omega) fun i h1 h2 => hz i h1 (by omega)]
      omega
theorem num_mono {V : Nat → Nat} {j : Nat} : ∀ n, j ≤ n → numV V j ≤ numV V n := by
  intro n
  induction n with
  | zero => intro h; rw [show j = 0 by omega]; exact Nat.le_refl _
  | succ n ih =>
    intro h
    by_cases c : j = n + 1
    · rw [c]; exact Nat.le_refl _
    · exact Nat.le_trans (ih (by omega)) (Nat.le_add_right _ _)
theorem num_zero {V : Nat → Nat} {n : Nat} (h : ∀ i, i < n → V i = 0) : numV V n = 0 := num_above (j := 0) n (Nat.zero_le _) fun i _ h2 => h i h2
/-- the number that a frame of n rods shows -/
def num (n : Nat) (a : AS) : Nat := numV (aV a) n
def tidy (n : Nat) (a : AS) : Prop := ∀ j, j < n → aV a j ≤ 9
theorem aU_Pu {r x : Nat} {a : AS} : aU (aPu r x a) = updN (aU a) r x := by
  unfold aPu
  split
  · rename_i c
    funext j
    rw [updN_at]
    split
    · rename_i e; rw [e, c]
    · rfl
  · rfl
theorem aD_Pu {r x : Nat} {a : AS} : aD (aPu r x a) = aD a := by
  unfold aPu
  split <;> rfl
theorem aU_Pd {r x : Nat} {a : AS} : aU (aPd r x a) = aU a := by
  unfold aPd
  split <;> rfl
theorem aD_Pd {r x : Nat} {a : AS} : aD (aPd r x a) = updN (aD a) r x := by
  unfold aPd
  split
  · rename_i c
    funext j
    rw [updN_at]
    split
    · rename_i e; rw [e, c]
    · rfl
  · rfl
theorem aV_set {k n m r v : Nat} {a : AS} (hw : wf k n m a) (hr : r < 8) (hv : v ≤ 5 * ABk k + BEk k) : aV (aSet k r v a) = updN (aV a) r v := by
  obtain ⟨b1, b2, b3, -⟩ := best_ok hw hr hv
  funext j
  show 5 * aU (aSet k r v a) j + aD (aSet k r v a) j = updN (aV a) r v j
  unfold aSet
  generalize best k v (aU a r) (aD a r) = b at *
  rw [aU_Pd, aU_Pu, aD_Pd, aD_Pu, updN_at, updN_at, updN_at]
  split
  · omega
  · rfl
theorem num_set {k n m r v : Nat} {a : AS} (hw : wf k n m a) (hr : r < n) (hv : v ≤ 5 * ABk k + BEk k) : num n (aSet k r v a) + aV a r * 10 ^ r = num n a + v * 10 ^ r := by
  have hn := hw.2.2.1
  unfold num
  rw [aV_set hw (by omega) hv]
  exact num_upd n hr
theorem tidy_set {k n m r v : Nat} {a : AS} (hw : wf k n m a) (hr : r < n) (hv : v ≤ 9) (ht : tidy n a) : tidy n (aSet k r v a) := by
  have hn := hw.2.2.1
  have hm := most_ge hw.1
  intro j hj
  rw [aV_set hw (by omega) (by omega), updN_at]
  split
  · exact hv
  · exact ht j hj
/-- counters that grow, pushes no faster than time -/
def mo (a b : AS) : Prop := aP a ≤ aP b ∧ aP b + aT a ≤ aP a + aT b ∧ aS a ≤ aS b
theorem mo.rf {a : AS} : mo a a := ⟨Nat.le_refl _, Nat.le_refl _, Nat.le_refl _⟩
theorem mo.tr {a b c : AS} (h : mo a b) (g : mo b c) : mo a c := by
  obtain ⟨h1, h2, h3⟩ := h
  obtain ⟨g1, g2, g3⟩ := g
  exact ⟨by omega, by omega, by omega⟩
theorem mo_Mv {r : Nat} {a : AS} : mo a (aMv r a) := ⟨Nat.le_refl _, by show aP a + aT a ≤ aP a + (aT a + 2 * dist r (aHd a)); omega, Nat.le_refl _⟩
theorem mo_pu {r x : Nat} {a : AS} : mo a (pu r x a) := by
  refine ⟨Nat.le_add_right _ _, ?_, Nat.le_refl _⟩
  show aP a + 1 + aT a ≤ aP a + (aT a + (4 + dist x (aU a r)) * (if 40 ≤ aWu a r then 2 else 1))
  split <;> omega
theorem mo_pd {r x : Nat} {a : AS} : mo a (pd r x a) := by
  refine ⟨Nat.le_add_right _ _, ?_, Nat.le_refl _⟩
  show aP a + 1 + aT a ≤ aP a + (aT a + (4 + dist x (aD a r)) * (if 40 ≤ aWd a r then 2 else 1))
  split <;> omega
theorem mo_Pu {r x : Nat} {a : AS} : mo a (aPu r x a) := by
  unfold aPu
  split
  · exact mo.rf
  · exact mo_Mv.tr mo_pu
theorem mo_Pd {r x : Nat} {a : AS} : mo a (aPd r x a) := by
  unfold aPd
  split
  · exact mo.rf
  · exact mo_Mv.tr mo_pd
theorem mo_set {k r v : Nat} {a : AS} : mo a (aSet k r v a) := mo_Pu.tr mo_Pd
theorem mo_ca {a : AS} : mo a (aCa a) := mo.rf
theorem mo_lo {a : AS} : mo a (aLo a) := mo.rf
theorem mo_sp {x : Nat} {a : AS} : mo a (aSp x a) := ⟨Nat.le_refl _, Nat.le_refl _, Nat.le_add_right _ _⟩
theorem mo_bring {k : Nat} : ∀ (f i more : Nat) (a : AS), mo a (aBring k f i more a) := by
  intro f
  induction f with
  | zero => intro i more a; exact mo_sp
  | succ f ih =>
    intro i more a
    unfold aBring
    split
    · exact mo.rf
    · split
      · exact mo_set
      · exact (mo_set.tr mo_ca).tr (ih _ _ _)
theorem mo_adds {k n N : Nat} : ∀ (j : Nat) (a : AS), mo a (aAdds k n N j a) := by
  intro j
  induction j with
  | zero => intro a; exact mo.rf
  | succ j ih => intro a; exact (mo_bring _ _ _ _).tr (ih _)
theorem mo_sets {k N : Nat} : ∀ (j : Nat) (a : AS), mo a (aSets k N j a) := by
  intro j
  induction j with
  | zero => intro a; exact mo.rf
  | succ j ih => intro a; exact mo_set.tr (ih _)
theorem mo_nines {k r : Nat} : ∀ (f : Nat) (a : AS), mo a (aNines k r f a) := by
  intro f
  induction f with
  | zero => intro a; exact mo.rf
  | succ f ih => intro a; exact mo_set.tr (ih _)
theorem mo_take {k n r d : Nat} {a : AS} : mo a (aTake k n r d a) := by
  unfold aTake
  split
  · exact ((mo_set.tr (mo_nines _ _)).tr mo_set).tr mo_lo
  · exact mo_set
theorem aS_Pu {r x : Nat} {a : AS} : aS (aPu r x a) = aS a := by
  unfold aPu
  split <;> rfl
theorem aS_Pd {r x : Nat} {a : AS} : aS (aPd r x a) = aS a := by
  unfold aPd
  split <;> rfl
theorem aS_set {k r v : Nat} {a : AS} : aS (aSet k r v a) = aS a := by
  unfold aSet
  rw [aS_Pd, aS_Pu]
/-- what a number of pushes means as an int: it isn't below 0 -/
theorem pushes_s {k n m : Nat} {a b : AS} (h : mo a b) (hw : wf k n m b) (hm : m < 2 ^ 21) : nI (aP b) - nI (aP a) = nI (aP b - aP a) ∧ aP b - aP a < 2 ^ 21 := by
  obtain ⟨h1, h2, h3⟩ := h
  have := hw.2.2.2.2.2.2
  exact ⟨nI_subN h1, by omega⟩
-- a digit is brought: what it shows
theorem bring_low {k n : Nat} : ∀ (f i more m : Nat) (a : AS), wf k n m a → i + f ≤ 8 → more ≤ 9 → ∀ j, j < i → aV (aBring k f i more a) j = aV a j := by
  intro f
  induction f with
  | zero => intro i more m a hw _ _ j hj; rfl
  | succ f ih =>
    intro i more m a hw hi hmo j hj
    obtain ⟨g1, g2⟩ := most_ge hw.1
    have g3 := aV_le hw (show i < 8 by omega)
    unfold aBring
    split
    · rfl
    · split
      · rw [aV_set hw (by omega) (by omega), updN_at, if_neg (by omega)]
      · rw [ih (i + 1) 1 (m + 100) _ (wf_ca (aSet_wf hw (r := i) (by omega) (by omega))) (by omega) (by omega) j (by omega)]
        show aV (aSet k i (aV a i + more - 10) a) j = _
        rw [aV_set hw (by omega) (by omega), updN_at, if_neg (by omega)]
theorem bring_tidy {k n : Nat} : ∀ (f i more m : Nat) (a : AS), wf k n m a → i + f ≤ n → more ≤ 9 → tidy n a → tidy n (aBring k f i more a) := by
  intro f
  induction f with
  | zero => intro i more m a hw _ _ h; exact h
  | succ f ih =>
    intro i more m a hw hi hmo h
    have hn := hw.2.2.1
    obtain ⟨g1, g2⟩ := most_ge hw.1
    have g3 := h i (by omega)
    unfold aBring
    split
    · exact h
    · split
      · exact tidy_set hw (by omega) (by omega) h
      · exact ih (i + 1) 1 (m + 100) _ (wf_ca (aSet_wf hw (r := i) (by omega) (by omega))) (by omega) (by omega) (tidy_set hw (by omega) (by omega) h)
/-- all that is brought is there, or spilled -/
theorem bring_num {k n : Nat} : ∀ (f i more m : Nat) (a : AS), wf k n m a → i + f = n → more ≤ 9 → num n (aBring k f i more a) + 10 ^ n * aS (aBring k f i more a) = num n a + more * 10 ^ i + 10 ^ n * aS a := by
  intro f
  induction f with
  | zero =>
    intro i more m a hw hi hmo
    obtain rfl : i = n := by omega
    show num i a + 10 ^ i * (aS a + more) = _
    rw [Nat.mul_add, Nat.mul_comm more]
    omega
  | succ f ih =>
    intro i more m a hw hi hmo
    have hn := hw.2.2.1
    obtain ⟨g1, g2⟩ := most_ge hw.1
    have g3 := aV_le hw (show i < 8 by omega)
    unfold aBring
    by_cases c0 : more = 0
    · rw [if_pos c0, c0]
      omega
    · rw [if_neg c0]
      by_cases c9 : aV a i + more ≤ 9
      · rw [if_pos c9, aS_set]
        have := num_set hw (show i < n by omega) (v := aV a i + more) (by omega)
        rw [Nat.add_mul] at this
        omega
      · rw [if_neg c9, ih (i + 1) 1 (m + 100) _ (wf_ca (aSet_wf hw (r := i) (by omega) (by omega))) (by omega) (by omega)]
        show num n (aSet k i (aV a i + more - 10) a) + 1 * 10 ^ (i + 1) + 10 ^ n * aS (aSet k i (aV a i + more - 10) a) = _
        have := num_set hw (show i < n by omega) (v := aV a i + more - 10) (by omega)
        have e : (aV a i + more - 10) * 10 ^ i + 10 ^ (i + 1) = aV a i * 10 ^ i + more * 10 ^ i := by
          rw [Nat.pow_succ, ← Nat.add_mul, show 10 ^ i * 10 = 10 * 10 ^ i from Nat.mul_comm _ _, ← Nat.add_mul]
          congr 1
          omega
        rw [aS_set]
        omega
/-- nothing is spilled while it fits -/
theorem bring_fit {k n m i more : Nat} {a : AS} (hw : wf k n m a) (ht : tidy n a) (hmo : more ≤ 9) (hN : num n a + more * 10 ^ i < 10 ^ n) : num n (aBring k (n - i) i more a) = num n a + more * 10 ^ i ∧ aS (aBring k (n - i) i more a) = aS a ∧ tidy n (aBring k (n - i) i more a) := by
  by_cases c : i ≤ n
  · have h1 := bring_num (n - i) i more m a hw (by omega) hmo
    have h2 := bring_tidy (n - i) i more m a hw (by omega) hmo ht
    have h3 : num n (aBring k (n - i) i more a) < 10 ^ n := num_lt n h2
    have h4 := (mo_bring (k := k) (n - i) i more a).2.2
    have h5 : aS (aBring k (n - i) i more a) = aS a := by
      refine Nat.le_antisymm (Nat.le_of_not_lt fun hc => ?_) h4
      have : 10 ^ n * (aS a + 1) ≤ 10 ^ n * aS (aBring k (n - i) i more a) := Nat.mul_le_mul_left _ hc
      rw [Nat.mul_add, Nat.mul_one] at this
      omega
    rw [h5] at h1
    exact ⟨by omega, h5, h2⟩
  · have hmo0 : more = 0 := by
      refine Nat.le_zero.mp (Nat.le_of_not_lt fun hc => ?_)
      have h1 : 10 ^ n ≤ 10 ^ i := Nat.pow_le_pow_right (by decide) (by omega)
      have h2 : 1 * 10 ^ i ≤ more * 10 ^ i := Nat.mul_le_mul_right _ hc
      omega
    subst hmo0
    rw [show n - i = 0 by omega]
    refine ⟨?_, rfl, ht⟩
    show num n a = _
    omega
