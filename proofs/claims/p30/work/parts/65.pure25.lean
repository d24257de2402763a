-- the pure level, 25: what is shown behind each reckoning
theorem sets_V {k N n : Nat} : ∀ (j m : Nat) (a : AS), wf k n m a → j ≤ n → ∀ i, aV (aSets k N j a) i = if i < j then N / 10 ^ i % 10 else aV a i := by
  intro j
  induction j with
  | zero => intro m a _ _ i; rw [if_neg (Nat.not_lt_zero _)]; rfl
  | succ j ih =>
    intro m a hw hj i
    have hn := hw.2.2.1
    obtain ⟨g1, g2⟩ := most_ge hw.1
    show aV (aSets k N j (aSet k j (N / 10 ^ j % 10) a)) i = _
    rw [ih (m + 100) _ (aSet_wf hw (by omega) (by omega)) (by omega) i, aV_set hw (by omega) (by omega), updN_at]
    by_cases c1 : i < j
    · rw [if_pos c1, if_pos (by omega)]
    · rw [if_neg c1]
      by_cases c2 : i = j
      · rw [if_pos c2, if_pos (by omega), c2]
      · rw [if_neg c2, if_neg (by omega)]
theorem num_digits (N : Nat) : ∀ j, numV (fun i => N / 10 ^ i % 10) j = N % 10 ^ j := by
  intro j
  induction j with
  | zero => rw [Nat.pow_zero, Nat.mod_one]; rfl
  | succ j ih =>
    rw [mod_split, ← ih]
    exact Nat.add_comm _ _
theorem aS_sets {k N : Nat} : ∀ (j : Nat) (a : AS), aS (aSets k N j a) = aS a := by
  intro j
  induction j with
  | zero => intro a; rfl
  | succ j ih => intro a; exact (ih _).trans aS_set
theorem sets_ok {k n m N : Nat} {a : AS} (hw : wf k n m a) (hN : N < 10 ^ n) : num n (aSets k N n a) = N ∧ tidy n (aSets k N n a) ∧ aS (aSets k N n a) = aS a ∧ wf k n (m + 800) (aSets k N n a) := by
  have hn := hw.2.2.1
  have hV := sets_V (N := N) n m a hw (Nat.le_refl _)
  refine ⟨?_, fun j hj => ?_, aS_sets n a, wf_mono (sets_wf n m a hw (Nat.le_refl _)) (by omega)⟩
  · show numV (aV (aSets k N n a)) n = N
    rw [num_cong (W := fun i => N / 10 ^ i % 10) n fun i hi => by rw [hV i, if_pos hi], num_digits, Nat.mod_eq_of_lt hN]
  · rw [hV j, if_pos hj]
    omega
theorem adds_ok {k n N : Nat} : ∀ (j m : Nat) (a : AS), wf k n m a → j ≤ n → tidy n a → num n a + N % 10 ^ j < 10 ^ n →
    num n (aAdds k n N j a) = num n a + N % 10 ^ j ∧ aS (aAdds k n N j a) = aS a ∧ tidy n (aAdds k n N j a) := by
  intro j
  induction j with
  | zero =>
    intro m a hw hj ht hN
    rw [Nat.pow_zero, Nat.mod_one]
    exact ⟨rfl, rfl, ht⟩
  | succ j ih =>
    intro m a hw hj ht hN
    rw [mod_split] at hN ⊢
    have hd : N / 10 ^ j % 10 ≤ 9 := by omega
    obtain ⟨q1, q2, q3⟩ := bring_fit hw ht (i := j) (more := N / 10 ^ j % 10) hd (by omega)
    obtain ⟨r1, r2, r3⟩ := ih (m + 800) _ (bring_wf hw hd) (by omega) q3 (by omega)
    refine ⟨?_, r2.trans q2, r3⟩
    show num n (aAdds k n N j (aBring k (n - j) j (N / 10 ^ j % 10) a)) = _
    omega
theorem adds_fit {k n m N : Nat} {a : AS} (hw : wf k n m a) (ht : tidy n a) (hN : num n a + N < 10 ^ n) : num n (aAdds k n N n a) = num n a + N ∧ aS (aAdds k n N n a) = aS a ∧ tidy n (aAdds k n N n a) := by
  have h := adds_ok (N := N) n m a hw (Nat.le_refl _) ht
  rw [Nat.mod_eq_of_lt (show N < 10 ^ n by omega)] at h
  exact h hN
theorem aS_nines {k r : Nat} : ∀ (f : Nat) (a : AS), aS (aNines k r f a) = aS a := by
  intro f
  induction f with
  | zero => intro a; rfl
  | succ f ih => intro a; exact (ih _).trans aS_set
theorem aS_lo {a : AS} : aS (aLo a) = aS a := rfl
theorem aS_take {k n r d : Nat} {a : AS} : aS (aTake k n r d a) = aS a := by
  unfold aTake
  split
  · rw [aS_lo, aS_set, aS_nines, aS_set]
  · exact aS_set
theorem aS_takes {k n N : Nat} : ∀ (j : Nat) (a : AS), aS (aTakes k n N j a) = aS a := by
  intro j
  induction j with
  | zero => intro a; rfl
  | succ j ih => intro a; exact (ih _).trans aS_take
theorem takes_fit {k n m N : Nat} {a : AS} (hw : wf k n m a) (ht : tidy n a) (hN : N ≤ num n a) : num n (aTakes k n N n a) = num n a - N ∧ tidy n (aTakes k n N n a) ∧ aS (aTakes k n N n a) = aS a ∧ wf k n (m + 9600) (aTakes k n N n a) ∧ mo a (aTakes k n N n a) := by
  have hn := hw.2.2.1
  have h1 : num n a < 10 ^ n := num_lt n ht
  obtain ⟨q1, q2, q3, q4⟩ := takes_ok (N := N) n m a hw (Nat.le_refl _) ht (by rw [Nat.mod_eq_of_lt (by omega)]; exact hN)
  rw [Nat.mod_eq_of_lt (by omega)] at q3
  exact ⟨by omega, q2, aS_takes n a, wf_mono q1 (by omega), q4⟩
theorem div_l2 {k n d : Nat} (hd0 : 0 < d) (hd : d ≤ 9) : ∀ (j m rest : Nat) (a : AS), wf k n m a → j ≤ n → rest < d → tidy n a →
    d * numV (aV (aDiv k d j rest a).2) j + (aDiv k d j rest a).1 = rest * 10 ^ j + numV (aV a) j ∧ (aDiv k d j rest a).1 < d ∧ (∀ i, j ≤ i → aV (aDiv k d j rest a).2 i = aV a i) ∧ tidy n (aDiv k d j rest a).2 ∧ aS (aDiv k d j rest a).2 = aS a := by
  intro j
  induction j with
  | zero =>
    intro m rest a hw hj hr ht
    refine ⟨?_, hr, fun i _ => rfl, ht, rfl⟩
    show d * 0 + rest = rest * 1 + 0
    omega
  | succ j ih =>
    intro m rest a hw hj hr ht
    have hn := hw.2.2.1
    obtain ⟨g1, g2⟩ := most_ge hw.1
    have hv := ht j (by omega)
    have hq9 : (10 * rest + aV a j) / d ≤ 9 := by
      refine Nat.le_of_lt_succ ((Nat.div_lt_iff_lt_mul hd0).mpr ?_)
      show 10 * rest + aV a j < 10 * d
      omega
    have hq := div_most hw.1 (aV_le hw (show j < 8 by omega)) hr hd
    have hV := aV_set hw (r := j) (v := (10 * rest + aV a j) / d) (by omega) hq
    obtain ⟨q1, q2, q3, q4, q5⟩ := ih (m + 100) ((10 * rest + aV a j) % d) _ (aSet_wf hw (by omega) hq) (by omega) (Nat.mod_lt _ hd0) (tidy_set hw (r := j) (by omega) hq9 ht)
    rw [show numV (aV (aSet k j ((10 * rest + aV a j) / d) a)) j = numV (aV a) j by rw [hV]; exact num_out (Nat.le_refl _)] at q1
    have e3 := q3 j (Nat.le_refl _)
    rw [hV, updN_at, if_pos rfl] at e3
    refine ⟨?_, q2, fun i hi => ?_, q4, q5.trans aS_set⟩
    · show d * (numV (aV (aDiv k d j ((10 * rest + aV a j) % d) (aSet k j ((10 * rest + aV a j) / d) a)).2) j + aV (aDiv k d j ((10 * rest + aV a j) % d) (aSet k j ((10 * rest + aV a j) / d) a)).2 j * 10 ^ j) + (aDiv k d j ((10 * rest + aV a j) % d) (aSet k j ((10 * rest + aV a j) / d) a)).1 = rest * 10 ^ (j + 1) + (numV (aV a) j + aV a j * 10 ^ j)
      rw [e3]
      have e5 : d * ((10 * rest + aV a j) / d) + (10 * rest + aV a j) % d = 10 * rest + aV a j := Nat.div_add_mod _ _
      have e6 : (d * ((10 * rest + aV a j) / d) + (10 * rest + aV a j) % d) * 10 ^ j = (10 * rest + aV a j) * 10 ^ j := by rw [e5]
      rw [Nat.add_mul, Nat.add_mul, Nat.mul_assoc] at e6
      rw [Nat.mul_add, Nat.pow_succ]
      have e7 : rest * (10 ^ j * 10) = 10 * rest * 10 ^ j := by
        rw [Nat.mul_comm (10 ^ j) 10, ← Nat.mul_assoc, Nat.mul_comm rest 10]
      omega
    · show aV (aDiv k d j ((10 * rest + aV a j) % d) (aSet k j ((10 * rest + aV a j) / d) a)).2 i = aV a i
      rw [q3 i (by omega), hV, updN_at, if_neg (by omega)]
theorem div_fit {k n m d : Nat} {a : AS} (hw : wf k n m a) (ht : tidy n a) (hd0 : 0 < d) (hd : d ≤ 9) : (aDiv k d n 0 a).1 = num n a % d ∧ num n (aDiv k d n 0 a).2 = num n a / d ∧ tidy n (aDiv k d n 0 a).2 ∧ aS (aDiv k d n 0 a).2 = aS a ∧ wf k n (m + 800) (aDiv k d n 0 a).2 := by
  have hn := hw.2.2.1
  obtain ⟨q1, q2, q3, q4, q5⟩ := div_l2 hd0 hd n m 0 a hw (Nat.le_refl _) hd0 ht
  rw [Nat.zero_mul, Nat.zero_add] at q1
  have e : num n a = (aDiv k d n 0 a).1 + d * num n (aDiv k d n 0 a).2 := by
    show numV (aV a) n = _ + d * numV _ n
    omega
  refine ⟨?_, ?_, q4, q5, wf_mono (div_wf hd0 hd n m 0 a hw (Nat.le_refl _) hd0) (by omega)⟩
  · rw [e, Nat.add_mul_mod_self_left, Nat.mod_eq_of_lt q2]
  · rw [e, Nat.add_mul_div_left _ _ hd0, Nat.div_eq_of_lt q2, Nat.zero_add]
theorem bring_low2 {k n m i more : Nat} {a : AS} (hw : wf k n m a) (hmo : more ≤ 9) {j : Nat} (hj : j < i) : aV (aBring k (n - i) i more a) j = aV a j := by
  have hn := hw.2.2.1
  by_cases c : i ≤ n
  · exact bring_low (n - i) i more m a hw (by omega) hmo j hj
  · rw [show n - i = 0 by omega]
    rfl
theorem mul_ok {k n d : Nat} (hd0 : 0 < d) (hd : d ≤ 9) : ∀ (j m : Nat) (a : AS), wf k n m a → j ≤ n → tidy n a → num n a - numV (aV a) j + d * numV (aV a) j < 10 ^ n →
    num n (aMul k n d j a) = num n a - numV (aV a) j + d * numV (aV a) j ∧ aS (aMul k n d j a) = aS a ∧ tidy n (aMul k n d j a) := by
  intro j
  induction j with
  | zero =>
    intro m a hw hj ht hN
    exact ⟨rfl, rfl, ht⟩
  | succ j ih =>
    intro m a hw hj ht hN
    have hn := hw.2.2.1
    obtain ⟨g1, g2⟩ := most_ge hw.1
    have hv := ht j (by omega)
    have hp := mul15 (show aV a j ≤ 15 by omega) hd
    have hnum : numV (aV a) (j + 1) = numV (aV a) j + aV a j * 10 ^ j := rfl
    have hmono : numV (aV a) (j + 1) ≤ num n a := num_mono n hj
    rw [hnum] at hN ⊢ hmono
    rw [Nat.mul_add] at hN ⊢
    have hd1 : numV (aV a) j ≤ d * numV (aV a) j := Nat.le_mul_of_pos_left _ hd0
    have w1 := aSet_wf hw (r := j) (v := 0) (by omega) (by omega)
    have n1 := num_set hw (r := j) (v := 0) (by omega) (by omega)
    have t1 := tidy_set hw (r := j) (v := 0) (by omega) (by omega) ht
    have V1 := aV_set hw (r := j) (v := 0) (by omega) (by omega)
    rw [Nat.zero_mul, Nat.add_zero] at n1
    -- the product in its digits
    have ep : aV a j * d % 10 * 10 ^ j + (aV a j * d / 10 % 10 * 10 ^ (j + 1) + aV a j * d / 100 * 10 ^ (j + 2)) = d * (aV a j * 10 ^ j) := by
      have e1 : 10 ^ (j + 1) = 10 * 10 ^ j := by rw [Nat.pow_succ, Nat.mul_comm]
      have e2 : 10 ^ (j + 2) = 100 * 10 ^ j := by rw [Nat.pow_succ, e1, Nat.mul_comm (10 * 10 ^ j) 10, ← Nat.mul_assoc]
      rw [e1, e2, ← Nat.mul_assoc, ← Nat.mul_assoc, ← Nat.mul_assoc, ← Nat.add_mul, ← Nat.add_mul, Nat.mul_comm d (aV a j)]
      congr 1
      omega
    have w2 := bring_wf (i := j) (more := aV a j * d % 10) w1 (by omega)
    obtain ⟨p1, p2, p3⟩ := bring_fit w1 t1 (i := j) (more := aV a j * d % 10) (by omega) (by omega)
    have w3 := bring_wf (i := j + 1) (more := aV a j * d / 10 % 10) w2 (by omega)
    obtain ⟨q1, q2, q3⟩ := bring_fit w2 p3 (i := j + 1) (more := aV a j * d / 10 % 10) (by omega) (by omega)
    have w4 := bring_wf (i := j + 2) (more := aV a j * d / 100) w3 (by omega)
    obtain ⟨r1, r2, r3⟩ := bring_fit w3 q3 (i := j + 2) (more := aV a j * d / 100) (by omega) (by omega)
    have low : numV (aV (aBring k (n - (j + 2)) (j + 2) (aV a j * d / 100) (aBring k (n - (j + 1)) (j + 1) (aV a j * d / 10 % 10) (aBring k (n - j) j (aV a j * d % 10) (aSet k j 0 a))))) j = numV (aV a) j := by
      refine num_cong j fun i hi => ?_
      rw [bring_low2 w3 (by omega) (by omega), bring_low2 w2 (by omega) (by omega), bring_low2 w1 (by omega) hi, V1, updN_at, if_neg (by omega)]
    have ih := ih _ _ w4 (by omega) r3
    rw [low] at ih
    show num n (aMul k n d j (aBring k (n - (j + 2)) (j + 2) (aV a j * d / 100) (aBring k (n - (j + 1)) (j + 1) (aV a j * d / 10 % 10) (aBring k (n - j) j (aV a j * d % 10) (aSet k j 0 a))))) = _ ∧ aS (aMul k n d j (aBring k (n - (j + 2)) (j + 2) (aV a j * d / 100) (aBring k (n - (j + 1)) (j + 1) (aV a j * d / 10 % 10) (aBring k (n - j) j (aV a j * d % 10) (aSet k j 0 a))))) = _ ∧ tidy n (aMul k n d j (aBring k (n - (j + 2)) (j + 2) (aV a j * d / 100) (aBring k (n - (j + 1)) (j + 1) (aV a j * d / 10 % 10) (aBring k (n - j) j (aV a j * d % 10) (aSet k j 0 a)))))
    rw [r1, q1, p1] at ih
    obtain ⟨i1, i2, i3⟩ := ih (by omega)
    exact ⟨by omega, i2.trans (r2.trans (q2.trans (p2.trans aS_set))), i3⟩
theorem mul_fit {k n m d : Nat} {a : AS} (hw : wf k n m a) (ht : tidy n a) (hd0 : 0 < d) (hd : d ≤ 9) (hN : d * num n a < 10 ^ n) : num n (aMul k n d n a) = d * num n a ∧ aS (aMul k n d n a) = aS a ∧ tidy n (aMul k n d n a) := by
  have e := mul_ok hd0 hd n m a hw (Nat.le_refl _) ht
  rw [show numV (aV a) n = num n a from rfl, Nat.sub_self, Nat.zero_add] at e
  exact e hN
theorem num_succ {V : Nat → Nat} : ∀ j, numV V (j + 1) = V 0 + 10 * numV (fun i => V (i + 1)) j := by
  intro j
  induction j with
  | zero =>
    show 0 + V 0 * 1 = V 0 + 10 * 0
    omega
  | succ j ih =>
    show numV V (j + 1) + V (j + 1) * 10 ^ (j + 1) = V 0 + 10 * (numV (fun i => V (i + 1)) j + V (j + 1) * 10 ^ j)
    rw [ih, Nat.mul_add, Nat.pow_succ, Nat.mul_comm (10 ^ j) 10, Nat.mul_left_comm]
    omega
theorem shR_V {k n : Nat} : ∀ (f i m : Nat) (a : AS), wf k n m a → i + f < n → (∀ j, aV (aShR k f i a) j = if i ≤ j ∧ j < i + f then aV a (j + 1) else aV a j) ∧ aS (aShR k f i a) = aS a ∧ mo a (aShR k f i a) := by
  intro f
  induction f with
  | zero =>
    intro i m a hw hi
    exact ⟨fun j => by rw [if_neg (by omega)]; rfl, rfl, mo.rf⟩
  | succ f ih =>
    intro i m a hw hi
    have hn := hw.2.2.1
    have hv := aV_le hw (show i + 1 < 8 by omega)
    obtain ⟨q1, q2, q3⟩ := ih (i + 1) (m + 100) _ (aSet_wf hw (r := i) (v := aV a (i + 1)) (by omega) hv) (by omega)
    have V1 := aV_set hw (r := i) (v := aV a (i + 1)) (by omega) hv
    refine ⟨fun j => ?_, q2.trans aS_set, mo_set.tr q3⟩
    show aV (aShR k f (i + 1) (aSet k i (aV a (i + 1)) a)) j = _
    rw [q1 j, V1, updN_at, updN_at]
    by_cases c1 : i + 1 ≤ j ∧ j < i + 1 + f
    · rw [if_pos c1, if_neg (by omega), if_pos (by omega)]
    · rw [if_neg c1]
      by_cases c2 : j = i
      · rw [if_pos c2, if_pos (by omega), c2]
      · rw [if_neg c2, if_neg (by omega)]
theorem right_fit {k n m : Nat} {a : AS} (hw : wf k n m a) (ht : tidy n a) : num n (aRight k n a) = num n a / 10 ∧ aV a 0 = num n a % 10 ∧ tidy n (aRight k n a) ∧ aV (aRight k n a) (n - 1) = 0 ∧ aS (aRight k n a) = aS a := by
  have hn := hw.2.2.1
  have hn2 := hw.2.1
  obtain ⟨g1, g2⟩ := most_ge hw.1
  obtain ⟨q1, q2, q3⟩ := shR_V (n - 1) 0 m a hw (by omega)
  have w1 := aShR_wf (n - 1) 0 m a hw (by omega)
  have V1 := aV_set w1 (r := n - 1) (v := 0) (by omega) (by omega)
  have VV : ∀ j, j < n → aV (aRight k n a) j = if j = n - 1 then 0 else aV a (j + 1) := fun j hj => by
    show aV (aSet k (n - 1) 0 (aShR k (n - 1) 0 a)) j = _
    rw [V1, updN_at]
    by_cases c : j = n - 1
    · rw [if_pos c, if_pos c]
    · rw [if_neg c, if_neg c, q1 j, if_pos (by omega)]
  have e1 : num n a = aV a 0 + 10 * numV (fun i => aV a (i + 1)) (n - 1) := by
    have := num_succ (V := aV a) (n - 1)
    rw [show n - 1 + 1 = n by omega] at this
    exact this
  have e2 : num n (aRight k n a) = numV (fun i => aV a (i + 1)) (n - 1) := by
    have h1 : num n (aRight k n a) = numV (aV (aRight k n a)) (n - 1) := num_above n (by omega) fun i h1 h2 => by
      rw [VV i h2, if_pos (by omega)]
    rw [h1]
    exact num_cong (n - 1) fun i hi => by rw [VV i (by omega), if_neg (by omega)]
  have h0 := ht 0 (by omega)
  refine ⟨by omega, by omega, fun j hj => ?_, ?_, aS_set.trans q2⟩
  · rw [VV j hj]
    split
    · omega
    · exact ht (j + 1) (by omega)
  · rw [VV (n - 1) (by omega), if_pos rfl]
theorem shL_V {k n : Nat} : ∀ (j m : Nat) (a : AS), wf k n m a → j < n → (∀ i, aV (aShL k j a) i = if 1 ≤ i ∧ i ≤ j then aV a (i - 1) else aV a i) ∧ aS (aShL k j a) = aS a := by
  intro j
  induction j with
  | zero =>
    intro m a hw hi
    exact ⟨fun i => by rw [if_neg (by omega)]; rfl, rfl⟩
  | succ j ih =>
    intro m a hw hi
    have hn := hw.2.2.1
    have hv := aV_le hw (show j < 8 by omega)
    obtain ⟨q1, q2⟩ := ih (m + 100) _ (aSet_wf hw (r := j + 1) (v := aV a j) (by omega) hv) (by omega)
    have V1 := aV_set hw (r := j + 1) (v := aV a j) (by omega) hv
    refine ⟨fun i => ?_, q2.trans aS_set⟩
    show aV (aShL k j (aSet k (j + 1) (aV a j) a)) i = _
    rw [q1 i, V1, updN_at, updN_at]
    by_cases c1 : 1 ≤ i ∧ i ≤ j
    · rw [if_pos c1, if_neg (by omega), if_pos (by omega)]
    · rw [if_neg c1]
      by_cases c2 : i = j + 1
      · rw [if_pos c2, if_pos (by omega), c2]
        rfl
      · rw [if_neg c2, if_neg (by omega)]
theorem left_fit {k n m : Nat} {a : AS} (hw : wf k n m a) (hz : aV a (n - 1) = 0) : num n (aLeft k n a) = 10 * num n a ∧ aS (aLeft k n a) = aS a := by
  have hn := hw.2.2.1
  have hn2 := hw.2.1
  obtain ⟨g1, g2⟩ := most_ge hw.1
  obtain ⟨q1, q2⟩ := shL_V (n - 1) m a hw (by omega)
  have w1 := aShL_wf (n - 1) m a hw (by omega)
  have V1 := aV_set w1 (r := 0) (v := 0) (by omega) (by omega)
  have VV : ∀ j, j < n → aV (aLeft k n a) j = if j = 0 then 0 else aV a (j - 1) := fun j hj => by
    show aV (aSet k 0 0 (aShL k (n - 1) a)) j = _
    rw [V1, updN_at]
    by_cases c : j = 0
    · rw [if_pos c, if_pos c]
    · rw [if_neg c, if_neg c, q1 j, if_pos (by omega)]
  have e1 : num n a = numV (aV a) (n - 1) := num_above n (by omega) fun i h1 h2 => by
    rw [show i = n - 1 by omega]; exact hz
  have e2 : num n (aLeft k n a) = aV (aLeft k n a) 0 + 10 * numV (fun i => aV (aLeft k n a) (i + 1)) (n - 1) := by
    have := num_succ (V := aV (aLeft k n a)) (n - 1)
    rw [show n - 1 + 1 = n by omega] at this
    exact this
  have e3 : numV (fun i => aV (aLeft k n a) (i + 1)) (n - 1) = numV (aV a) (n - 1) := num_cong (n - 1) fun i hi => by
    show aV (aLeft k n a) (i + 1) = _
    rw [VV (i + 1) (by omega), if_neg (by omega)]
    rfl
  rw [VV 0 (by omega), if_pos rfl] at e2
  refine ⟨by omega, ?_⟩
  show aS (aSet k 0 0 (aShL k (n - 1) a)) + aV a (n - 1) = aS a
  rw [aS_set, q2, hz, Nat.add_zero]
theorem bring0 {k f i : Nat} {a : AS} : aBring k (f + 1) i 0 a = a := by
  unfold aBring
  rw [if_pos rfl]
theorem adds_one {k n r c : Nat} {a : AS} (hr : r < n) (hc : c ≤ 9) : aAdds k n (c * 10 ^ r) n a = aBring k (n - r) r c a := by
  have low : ∀ j a, j ≤ r → aAdds k n (c * 10 ^ r) j a = a := by
    intro j
    induction j with
    | zero => intro a _; rfl
    | succ j ih =>
      intro a hj
      show aAdds k n (c * 10 ^ r) j (aBring k (n - j) j (c * 10 ^ r / 10 ^ j % 10) a) = a
      have e : c * 10 ^ r / 10 ^ j % 10 = 0 := by
        rw [show c * 10 ^ r = c * 10 ^ (r - j - 1) * 10 * 10 ^ j by
          rw [Nat.mul_assoc, Nat.mul_assoc, show 10 * 10 ^ j = 10 ^ (j + 1) by rw [Nat.pow_succ, Nat.mul_comm], ← Nat.pow_add]
          congr 2
          omega, Nat.mul_div_cancel _ (Nat.pow_pos (by decide)), Nat.mul_mod_left]
      rw [e, show n - j = (n - j - 1) + 1 by omega, bring0]
      exact ih a (by omega)
  have hi : ∀ j a, r < j → j ≤ n → aAdds k n (c * 10 ^ r) j a = aBring k (n - r) r c a := by
    intro j
    induction j with
    | zero => intro a h; omega
    | succ j ih =>
      intro a h1 h2
      show aAdds k n (c * 10 ^ r) j (aBring k (n - j) j (c * 10 ^ r / 10 ^ j % 10) a) = _
      by_cases e : j = r
      · subst e
        rw [Nat.mul_div_cancel _ (Nat.pow_pos (by decide)), Nat.mod_eq_of_lt (by omega)]
        exact low j _ (Nat.le_refl _)
      · have hlt : c * 10 ^ r < 10 ^ j := by
          have h3 : c * 10 ^ r < 10 * 10 ^ r := Nat.mul_lt_mul_of_pos_right (by omega) (Nat.pow_pos (by decide))
          have h4 : 10 ^ (r + 1) ≤ 10 ^ j := Nat.pow_le_pow_right (by decide) (by omega)
          rw [Nat.pow_succ] at h4
          omega
        rw [Nat.div_eq_of_lt hlt, Nat.zero_mod, show n - j = (n - j - 1) + 1 by omega, bring0]
        exact ih a (by omega) (by omega)
  exact hi n a hr (Nat.le_refl _)
