-- the pure level, 15: a number is taken off; what is shown, in both worlds
theorem lend_z (a : AS) : ∀ f i j, i ≤ j → j < lend a f i → aV a j = 0 := by
  intro f
  induction f with
  | zero => intro i j h1 h2; exact absurd h2 (Nat.not_lt.mpr h1)
  | succ f ih =>
    intro i j h1 h2
    unfold lend at h2
    split at h2
    · rename_i c
      by_cases e : j = i
      · rw [e]; exact c
      · exact ih (i + 1) j (by omega) h2
    · omega
theorem lend_p (a : AS) : ∀ f i, lend a f i < i + f → 0 < aV a (lend a f i) := by
  intro f
  induction f with
  | zero =>
    intro i h
    exact absurd h (Nat.lt_irrefl _)
  | succ f ih =>
    intro i h
    unfold lend at h ⊢
    split
    · rename_i c
      rw [if_pos c] at h
      exact ih (i + 1) (by omega)
    · rename_i c
      omega
theorem nines_V {k n r : Nat} : ∀ (f m : Nat) (a : AS), wf k n m a → r + f < n → ∀ j, aV (aNines k r f a) j = if r < j ∧ j ≤ r + f then 9 else aV a j := by
  intro f
  induction f with
  | zero =>
    intro m a h _ j
    rw [if_neg (by omega)]
    rfl
  | succ f ih =>
    intro m a h hr j
    have hn := h.2.2.1
    obtain ⟨g1, g2⟩ := most_ge h.1
    have w1 := aSet_wf h (r := r + f + 1) (v := 9) (by omega) (by omega)
    show aV (aNines k r f (aSet k (r + f + 1) 9 a)) j = _
    rw [ih (m + 100) _ w1 (by omega) j, aV_set h (by omega) (by omega), updN_at]
    by_cases c1 : r < j ∧ j ≤ r + f
    · rw [if_pos c1, if_pos (by omega)]
    · rw [if_neg c1]
      by_cases c2 : j = r + f + 1
      · rw [if_pos c2, if_pos (by omega)]
      · rw [if_neg c2, if_neg (by omega)]
theorem nines_num {k n r : Nat} : ∀ (f m : Nat) (a : AS), wf k n m a → r + f < n → (∀ j, r < j → j ≤ r + f → aV a j = 0) → num n (aNines k r f a) + 10 ^ (r + 1) = num n a + 10 ^ (r + f + 1) := by
  intro f
  induction f with
  | zero => intro m a h _ _; rfl
  | succ f ih =>
    intro m a h hr hz
    have hn := h.2.2.1
    obtain ⟨g1, g2⟩ := most_ge h.1
    have w1 := aSet_wf h (r := r + f + 1) (v := 9) (by omega) (by omega)
    have e1 := num_set h (r := r + f + 1) (v := 9) (by omega) (by omega)
    rw [hz (r + f + 1) (by omega) (by omega)] at e1
    have e2 := ih (m + 100) _ w1 (by omega) fun j h1 h2 => by
      rw [aV_set h (by omega) (by omega), updN_at, if_neg (by omega)]
      exact hz j h1 (by omega)
    show num n (aNines k r f (aSet k (r + f + 1) 9 a)) + 10 ^ (r + 1) = num n a + 10 ^ (r + (f + 1) + 1)
    rw [show 10 ^ (r + (f + 1) + 1) = 10 ^ (r + f + 1) * 10 from by rw [show r + (f + 1) + 1 = (r + f + 1) + 1 by omega, Nat.pow_succ]]
    omega
theorem take_ok {k n m r d : Nat} {a : AS} (hw : wf k n m a) (ht : tidy n a) (hr : r < n) (hd : d ≤ 9) (hN : d * 10 ^ r ≤ num n a) :
    (aV a r < d → lend a (n - (r + 1)) (r + 1) < n ∧ 0 < aV a (lend a (n - (r + 1)) (r + 1))) ∧ num n (aTake k n r d a) + d * 10 ^ r = num n a ∧ tidy n (aTake k n r d a) := by
  have hn := hw.2.2.1
  obtain ⟨g1, g2⟩ := most_ge hw.1
  have g3 := aV_le hw (show r < 8 by omega)
  have g9 := ht r hr
  have hLe := lend_le a (n - (r + 1)) (r + 1)
  have hz := lend_z a (n - (r + 1)) (r + 1)
  have hp := lend_p a (n - (r + 1)) (r + 1)
  have hl : aV a r < d → lend a (n - (r + 1)) (r + 1) < n := by
    intro c
    refine Nat.lt_of_not_le fun hc => ?_
    have e1 : num n a = numV (aV a) (r + 1) := num_above n (by omega) fun i h1 h2 => hz i h1 (by omega)
    have e2 : numV (aV a) r < 10 ^ r := num_lt r fun i hi => ht i (by omega)
    have e3 : (aV a r + 1) * 10 ^ r ≤ d * 10 ^ r := Nat.mul_le_mul_right _ c
    have e4 : numV (aV a) (r + 1) = numV (aV a) r + aV a r * 10 ^ r := rfl
    rw [Nat.add_mul] at e3
    omega
  refine ⟨fun c => ⟨hl c, hp (by have := hl c; omega)⟩, ?_⟩
  unfold aTake
  by_cases c : aV a r < d
  · have hL := hl c
    have hP := hp (by omega)
    rw [if_pos c]
    generalize lend a (n - (r + 1)) (r + 1) = Ln at *
    have g4 := ht Ln hL
    have w1 := aSet_wf hw (r := Ln) (v := aV a Ln - 1) (by omega) (by omega)
    have w2 := aNines_wf (r := r) (Ln - (r + 1)) _ _ w1 (by omega)
    have n1 := num_set hw (r := Ln) (v := aV a Ln - 1) hL (by omega)
    have V1 := aV_set hw (r := Ln) (v := aV a Ln - 1) (by omega) (by omega)
    have n2 := nines_num (r := r) (Ln - (r + 1)) _ _ w1 (by omega) fun j h1 h2 => by
      rw [V1, updN_at, if_neg (by omega)]
      exact hz j h1 (by omega)
    have V2 := nines_V (r := r) (Ln - (r + 1)) _ _ w1 (by omega)
    have n3 := num_set w2 (r := r) (v := aV a r + 10 - d) hr (by omega)
    have Vr : aV (aNines k r (Ln - (r + 1)) (aSet k Ln (aV a Ln - 1) a)) r = aV a r := by
      rw [V2 r, if_neg (by omega), V1, updN_at, if_neg (by omega)]
    rw [Vr] at n3
    refine ⟨?_, ?_⟩
    · show num n (aSet k r (aV a r + 10 - d) (aNines k r (Ln - (r + 1)) (aSet k Ln (aV a Ln - 1) a))) + d * 10 ^ r = num n a
      have e1 : (aV a r + 10 - d) * 10 ^ r + d * 10 ^ r = aV a r * 10 ^ r + 10 ^ (r + 1) := by
        rw [Nat.pow_succ, ← Nat.add_mul, show 10 ^ r * 10 = 10 * 10 ^ r from Nat.mul_comm _ _, ← Nat.add_mul]
        congr 1
        omega
      have e2 : (aV a Ln - 1) * 10 ^ Ln + 10 ^ Ln = aV a Ln * 10 ^ Ln := by
        rw [← Nat.succ_mul]
        congr 1
        omega
      rw [show r + (Ln - (r + 1)) + 1 = Ln by omega] at n2
      omega
    · show tidy n (aSet k r (aV a r + 10 - d) (aNines k r (Ln - (r + 1)) (aSet k Ln (aV a Ln - 1) a)))
      refine tidy_set w2 hr (by omega) fun j hj => ?_
      rw [V2 j]
      split
      · exact Nat.le_refl _
      · rw [V1, updN_at]
        split
        · omega
        · exact ht j hj
  · rw [if_neg c]
    have n1 := num_set hw (r := r) (v := aV a r - d) hr (by omega)
    have e1 : (aV a r - d) * 10 ^ r + d * 10 ^ r = aV a r * 10 ^ r := by
      rw [← Nat.add_mul]
      congr 1
      omega
    exact ⟨by omega, tidy_set hw hr (by omega) ht⟩
def aTakes (k n N : Nat) : Nat → AS → AS
  | 0, a => a
  | j + 1, a => aTakes k n N j (aTake k n j (N / 10 ^ j % 10) a)
theorem mod_split (N j : Nat) : N % 10 ^ (j + 1) = N / 10 ^ j % 10 * 10 ^ j + N % 10 ^ j := by
  rw [Nat.pow_succ, Nat.mod_mul, Nat.add_comm, Nat.mul_comm]
theorem takeN_l {k n N : Nat} (hN : N < 2 ^ 62) : ∀ (j g m : Nat) (a : AS) (F : FR), rep k n a F → wf k n m a → m + 1200 * j + 2000 < 2 ^ 21 → j ≤ n → j < g → tidy n a → N % 10 ^ j ≤ num n a →
    ∃ F', l_X1_takeNumber_7 (lN N) (fun (a16 : Int32) (F17 : FR) => some F17) g (zI j) F = some F' ∧ rep k n (aTakes k n N j a) F' ∧ kpt F' = kpt F := by
  intro j
  induction j with
  | zero =>
    intro g m a F h hw hm hj hg ht hle
    obtain ⟨g, rfl⟩ : ∃ g', g = g' + 1 := ⟨g - 1, by omega⟩
    rw [l_X1_takeNumber_7, if_pos zI_0]
    exact ⟨F, rfl, h, rfl⟩
  | succ j ih =>
    intro g m a F h hw hm hj hg ht hle
    obtain ⟨g, rfl⟩ : ∃ g', g = g' + 1 := ⟨g - 1, by omega⟩
    have hn := hw.2.2.1
    rw [mod_split] at hle
    have hd : N / 10 ^ j % 10 ≤ 9 := by omega
    obtain ⟨q1, q2, q3⟩ := take_ok hw ht (r := j) (d := N / 10 ^ j % 10) (by omega) hd (by omega)
    rw [l_X1_takeNumber_7, zI_s, if_neg (lt0 (by omega)), digitAt_s (by omega) hN, obd_s]
    obtain ⟨F1, f1, r1, k1⟩ := takeDigit_s h hw (by omega) (r := j) (d := N / 10 ^ j % 10) (by omega) hd q1
    rw [f1, obd_s, bnd_k, zI_m]
    have w1 := aTake_wf hw (r := j) (d := N / 10 ^ j % 10) (by omega) hd fun c => (q1 c).1
    obtain ⟨F2, f2, r2, k2⟩ := ih g (m + 1200) _ F1 r1 w1 (by omega) (by omega) (by omega) q3 (by omega)
    exact ⟨F2, f2, r2, k2.trans k1⟩
theorem takes_ok {k n N : Nat} : ∀ (j m : Nat) (a : AS), wf k n m a → j ≤ n → tidy n a → N % 10 ^ j ≤ num n a →
    wf k n (m + 1200 * j) (aTakes k n N j a) ∧ tidy n (aTakes k n N j a) ∧ num n (aTakes k n N j a) + N % 10 ^ j = num n a ∧ mo a (aTakes k n N j a) := by
  intro j
  induction j with
  | zero =>
    intro m a hw hj ht hle
    exact ⟨hw, ht, by rw [Nat.pow_zero, Nat.mod_one]; rfl, mo.rf⟩
  | succ j ih =>
    intro m a hw hj ht hle
    rw [mod_split] at hle
    have hd : N / 10 ^ j % 10 ≤ 9 := by omega
    obtain ⟨q1, q2, q3⟩ := take_ok hw ht (r := j) (d := N / 10 ^ j % 10) (by omega) hd (by omega)
    have w1 := aTake_wf hw (r := j) (d := N / 10 ^ j % 10) (by omega) hd fun c => (q1 c).1
    obtain ⟨r1, r2, r3, r4⟩ := ih (m + 1200) _ w1 (by omega) q3 (by omega)
    refine ⟨wf_mono r1 (by omega), r2, ?_, mo_take.tr r4⟩
    rw [mod_split]
    show num n (aTakes k n N j (aTake k n j (N / 10 ^ j % 10) a)) + _ = _
    omega
theorem takeNumber_s {k n m N : Nat} {a : AS} {F : FR} (h : rep k n a F) (hw : wf k n m a) (hm : m + 12000 < 2 ^ 21) (ht : tidy n a) (hN : N < 10 ^ n) (hle : N ≤ num n a) : ∃ F', f_X1_takeNumber F (lN N) = some F' ∧ rep k n (aTakes k n N n a) F' ∧ kpt F' = kpt F := by
  have hn := hw.2.2.1
  have hp := pow8 hn
  rw [f_X1_takeNumber, bnd_k, h.2.1]
  exact takeN_l (by omega) n 16 m a F h hw (by omega) (Nat.le_refl _) (by omega) ht (by rw [Nat.mod_eq_of_lt hN]; exact hle)
theorem V_lt {k n m j : Nat} {a : AS} (hw : wf k n m a) (hj : j < 8) : aV a j ≤ 15 := Nat.le_trans (aV_le hw hj) (most_ge hw.1).2
theorem num_b {k n m : Nat} {a : AS} (hw : wf k n m a) : num n a < 200000000 := by
  have hn := hw.2.2.1
  have h1 : num n a < 2 * 10 ^ n := num_lt2 n fun i hi => V_lt hw (by omega)
  have h2 := pow8 hn
  omega
theorem shown_l {k n m : Nat} {a : AS} {F : FR} (h : rep k n a F) (hw : wf k n m a) (K : Int64 → Int32 → Option Int64) : ∀ (j g A : Nat), j ≤ n → j < g → l_X1_shownNumber_9 F K g (lN A) (zI j) = K (lN (A * 10 ^ j + numV (aV a) j)) (zI 0) := by
  intro j
  induction j with
  | zero =>
    intro g A hj hg
    obtain ⟨g, rfl⟩ : ∃ g', g = g' + 1 := ⟨g - 1, by omega⟩
    rw [l_X1_shownNumber_9, if_pos zI_0, Nat.pow_zero, Nat.mul_one]
    rfl
  | succ j ih =>
    intro g A hj hg
    obtain ⟨g, rfl⟩ : ∃ g', g = g' + 1 := ⟨g - 1, by omega⟩
    have hn := hw.2.2.1
    have hv := V_lt hw (show j < 8 by omega)
    rw [l_X1_shownNumber_9, zI_s, if_neg (lt0 (by omega)), bnd_k, valueAt_s h (by omega), obd_s, bnd_k, nI_l (by omega), bnd_k, show lN A * 10 = lN (A * 10) from lN_mul A 10, lN_add, bnd_k, zI_m, ih g _ (by omega) (by omega)]
    congr 2
    show (A * 10 + aV a j) * 10 ^ j + numV (aV a) j = A * 10 ^ (j + 1) + (numV (aV a) j + aV a j * 10 ^ j)
    rw [Nat.pow_succ, Nat.add_mul, Nat.mul_assoc, Nat.mul_comm 10 (10 ^ j)]
    omega
theorem shown_s {k n m : Nat} {a : AS} {F : FR} (h : rep k n a F) (hw : wf k n m a) : f_X1_shownNumber F = some (lN (num n a)) := by
  have hn := hw.2.2.1
  rw [f_X1_shownNumber, bnd_k, h.2.1]
  have e := shown_l h hw (fun (a20 : Int64) (a21 : Int32) => some a20) n 16 0 (Nat.le_refl _) (by omega)
  rw [Nat.zero_mul, Nat.zero_add] at e
  exact e
theorem isTidy_l {k n m : Nat} {a : AS} {F : FR} (h : rep k n a F) (hw : wf k n m a) : ∀ (j i g : Nat), i + j = n → j < g → (∀ r, r < i → aV a r ≤ 9) →
    ∃ b : Nat, l_X1_isTidy_2 F (fun (a12 : Int32) => some 1) g (nI i) = some (nI b) ∧ ((b = 1 ∧ tidy n a) ∨ (b = 0 ∧ ¬ tidy n a)) := by
  intro j
  induction j with
  | zero =>
    intro i g hi hg ht
    obtain ⟨g, rfl⟩ : ∃ g', g = g' + 1 := ⟨g - 1, by omega⟩
    have hn := hw.2.2.1
    rw [l_X1_isTidy_2, h.2.1, if_pos (nI_le (by omega) (by omega))]
    exact ⟨1, rfl, Or.inl ⟨rfl, fun r hr => ht r (by omega)⟩⟩
  | succ j ih =>
    intro i g hi hg ht
    obtain ⟨g, rfl⟩ : ∃ g', g = g' + 1 := ⟨g - 1, by omega⟩
    have hn := hw.2.2.1
    have hv := V_lt hw (show i < 8 by omega)
    rw [l_X1_isTidy_2, h.2.1, if_neg (nI_ge (by omega) (by omega)), valueAt_s h (by omega), obd_s]
    by_cases c : aV a i ≤ 9
    · rw [if_pos (show nI (aV a i) ≤ (9 : Int32) from nI_le (b := 9) c (by decide)), bnd_k, nI_1]
      exact ih (i + 1) g (by omega) (by omega) fun r hr => by
        by_cases e : r = i
        · rw [e]; exact c
        · exact ht r (by omega)
    · rw [if_neg (show ¬ nI (aV a i) ≤ (9 : Int32) from nI_ge (a := 9) (by omega) (by omega))]
      exact ⟨0, rfl, Or.inr ⟨rfl, fun z => c (z i (by omega))⟩⟩
theorem isTidy_s {k n m : Nat} {a : AS} {F : FR} (h : rep k n a F) (hw : wf k n m a) : ∃ b : Nat, f_X1_isTidy F = some (nI b) ∧ ((b = 1 ∧ tidy n a) ∨ (b = 0 ∧ ¬ tidy n a)) := by
  have hn := hw.2.2.1
  have e := isTidy_l h hw n 0 16 (by omega) (by omega) fun r hr => by omega
  rw [nI_0] at e
  exact e
theorem lN_c {a b : Nat} (ha : a < 2 ^ 31) (hb : b < 2 ^ 31) : (lg_cmp (lN a) (lN b) ≤ 0) ↔ a ≤ b := by
  rw [lg_cmp_le]
  exact lN_le ha hb
theorem lN_c0 {a b : Nat} (ha : a < 2 ^ 31) (hb : b < 2 ^ 31) : (lg_cmp (lN a) (lN b) = 0) ↔ a = b := by
  rw [lg_cmp_eq]
  exact lN_eq ha hb
/-- the hall's off, done -/
theorem offX_s {k n m N : Nat} {a : AS} {F F1 : FR} {Hb : HB} {p0 : Int32} (h : rep k n a F) (hw : wf k n m a) (hm : m + 12000 < 2 ^ 21) (hN : N < 10 ^ n) (ht : tidy n a) (hle : N ≤ num n a) (hk : f_X1_keepBeads F = some F1) (h1 : rep k n a F1) :
    ∃ F', f_X2_off Hb F p0 (nI N) = some (nI (aP (aTakes k n N n a)) - nI (aP a), F') ∧ rep k n (aTakes k n N n a) F' ∧ kpt F' = kpt F1 := by
  have hn := hw.2.2.1
  have hp := pow8 hn
  have hb := num_b hw
  obtain ⟨F2, f2, r2, k2⟩ := takeNumber_s h1 hw hm ht hN hle
  obtain ⟨b, eb, hb2⟩ := isTidy_s h hw
  obtain rfl : b = 1 := by
    rcases hb2 with q | q
    · exact q.1
    · exact absurd ht q.2
  rw [f_X2_off, show f_X2_foundFrame Hb p0 = some () from rfl, obd_s, refuse_s h hn hN, obd_s, eb, obd_s, if_neg (by decide), bnd_k, nI_l (by omega), shown_s h hw, obd_s, bnd_k, if_pos ((lN_c (by omega) (by omega)).mpr hle), hk, obd_s, bnd_k, f2, obd_s, bnd_k, r2.2.2.2.2.2.2.1, h.2.2.2.2.2.2.1]
  exact ⟨F2, rfl, r2, k2⟩
/-- the hall's off, refused -/
theorem offX_n {k n m N : Nat} {a : AS} {F : FR} {Hb : HB} {p0 : Int32} (h : rep k n a F) (hw : wf k n m a) (hN : N < 10 ^ n) (hc : ¬ (tidy n a ∧ N ≤ num n a)) : f_X2_off Hb F p0 (nI N) = some (-2, F) := by
  have hn := hw.2.2.1
  have hp := pow8 hn
  have hb := num_b hw
  obtain ⟨b, eb, hb2⟩ := isTidy_s h hw
  rw [f_X2_off, show f_X2_foundFrame Hb p0 = some () from rfl, obd_s, refuse_s h hn hN, obd_s, eb, obd_s]
  rcases hb2 with q | q
  · rw [q.1, if_neg (by decide), bnd_k, nI_l (by omega), shown_s h hw, obd_s, bnd_k, if_neg fun z => hc ⟨q.2, (lN_c (by omega) (by omega)).mp z⟩]
  · rw [q.1, if_pos (by decide)]
theorem hasRod_s {k n r : Nat} {a : AS} {F : FR} {Hb : HB} {p0 : Int32} (h : rep k n a F) (hn : n ≤ 8) (hr : r < n) : f_X2_foundFrameWithRod Hb F p0 (nI r) = some () := by
  rw [f_X2_foundFrameWithRod, show f_X2_foundFrame Hb p0 = some () from rfl, obd_s, f_X1_hasRod, if_neg (lt0 (by omega)), h.2.1, if_neg (nI_ge (by omega) (by omega)), obd_s, if_neg (by decide)]
theorem mostOfRod_s {k n : Nat} {a : AS} {F : FR} (h : rep k n a F) : f_X1_mostOfRod F = some (nI (5 * ABk k + BEk k)) := by
  rw [f_X1_mostOfRod, bnd_k, bnd_k, h.2.2.1.1, h.2.2.2.1.1, show (5 : Int32) * nI (ABk k) = nI (5 * ABk k) from nI_mul 5 _, nI_add]
theorem setX_s {k n m r v : Nat} {a : AS} {F F1 : FR} {Hb : HB} {p0 : Int32} (h : rep k n a F) (hw : wf k n m a) (hm : m + 1000 < 2 ^ 21) (hr : r < n) (hv : v ≤ 5 * ABk k + BEk k) (hk : f_X1_keepBeads F = some F1) (h1 : rep k n a F1) :
    ∃ F', f_X2_set Hb F p0 (nI r) (nI v) = some (nI (aP (aSet k r v a)) - nI (aP a), F') ∧ rep k n (aSet k r v a) F' ∧ kpt F' = kpt F1 := by
  have hn := hw.2.2.1
  have hm2 := most_ge hw.1
  obtain ⟨F2, f2, r2, k2⟩ := setRod_s h1 hw (by omega) (r := r) (by omega) hv
  rw [f_X2_set, hasRod_s h hn hr, obd_s, if_neg (lt0 (by omega)), mostOfRod_s h, obd_s, if_pos (nI_le hv (by omega)), hk, obd_s, f2, obd_s, bnd_k, r2.2.2.2.2.2.2.1, h.2.2.2.2.2.2.1]
  exact ⟨F2, rfl, r2, k2⟩
theorem leftX_s {k n m : Nat} {a : AS} {F F1 : FR} {Hb : HB} {p0 : Int32} (hw : wf k n m a) (hm : m + 2000 < 2 ^ 21) (hk : f_X1_keepBeads F = some F1) (h1 : rep k n a F1) :
    ∃ F', f_X2_shift Hb F p0 1 = some (nI (aV a (n - 1)), F') ∧ rep k n (aLeft k n a) F' ∧ kpt F' = kpt F1 := by
  obtain ⟨F2, f2, r2, k2⟩ := shiftLeft_s h1 hw hm
  rw [f_X2_shift, show f_X2_foundFrame Hb p0 = some () from rfl, obd_s, hk, obd_s, if_neg (by decide), f2, obd_s]
  exact ⟨F2, rfl, r2, k2⟩
theorem rightX_s {k n m : Nat} {a : AS} {F F1 : FR} {Hb : HB} {p0 : Int32} (hw : wf k n m a) (hm : m + 2000 < 2 ^ 21) (hk : f_X1_keepBeads F = some F1) (h1 : rep k n a F1) :
    ∃ F', f_X2_shift Hb F p0 0 = some (nI (aV a 0), F') ∧ rep k n (aRight k n a) F' ∧ kpt F' = kpt F1 := by
  obtain ⟨F2, f2, r2, k2⟩ := shiftRight_s h1 hw hm
  rw [f_X2_shift, show f_X2_foundFrame Hb p0 = some () from rfl, obd_s, hk, obd_s, if_pos rfl, f2, obd_s]
  exact ⟨F2, rfl, r2, k2⟩
theorem showX_s {k n m k2 n2 m2 : Nat} {a b : AS} {F G G1 : FR} {Hb : HB} {p0 p1 : Int32} (h : rep k n a F) (hw : wf k n m a) (g : rep k2 n2 b G) (gw : wf k2 n2 m2 b) (hm : m2 + 1000 < 2 ^ 21) (hN : num n a < 10 ^ n2) (hk : f_X1_keepBeads G = some G1) (h1 : rep k2 n2 b G1) :
    ∃ G', f_X2_show Hb F G p0 p1 = some (nI (aP (aSets k2 (num n a) n2 b)) - nI (aP b), G') ∧ rep k2 n2 (aSets k2 (num n a) n2 b) G' ∧ kpt G' = kpt G1 := by
  have hn := gw.2.2.1
  have hp := pow8 hn
  obtain ⟨F2, f2, r2, q2⟩ := setRods_s h1 gw hm (N := num n a) (by omega)
  rw [f_X2_show, show f_X2_foundFrame Hb p0 = some () from rfl, obd_s, shown_s h hw, obd_s, show f_X2_foundFrame Hb p1 = some () from rfl, obd_s, hasRodsFor_s g hn (by omega), obd_s, if_pos hN, if_neg (by decide), hk, obd_s, f2, obd_s, bnd_k, r2.2.2.2.2.2.2.1, g.2.2.2.2.2.2.1]
  exact ⟨F2, rfl, r2, q2⟩
