-- the pure level, 20: the teller shifts, takes off, acts
theorem ite_P {β : Type} {P : β → Prop} {c : Prop} [Decidable c] {x y : β} (h1 : c → P x) (h2 : ¬ c → P y) : P (if c then x else y) := by
  split
  · rename_i h; exact h1 h
  · rename_i h; exact h2 h
theorem jn_Q {α β : Type} {P : Option β → Prop} {Q : α → Prop} {x : α} {k : α → Option β} (hx : Q x) (hk : ∀ y, Q y → P (k y)) : P (jn x k) := hk x hx
theorem shiftT_s {L k n m e c : Nat} {xs : Nat → Int32} {nu : Int32} {a : AS} {T : TD} {Hb : HB} {F : FR} {K : KO} (hL : L ≤ 260) (h : rep k n a F) (t : trep k n a T) (hw : wf k n m a) (hm : m + 100000 < 2 ^ 21) (hq : keptJ k n K (kpt F)) (hc : K.length ≤ c) (hc1 : c < 11) (hd : tDr T = nI e) (he : e + 100 < 2 ^ 20) (hu : tNu T = nu) : Ok k n (m + 25000) (e + 40) nu (c + 1) (f_X3_shift L xs (2 * n) T Hb F K) := by
  have hn := hw.2.2.1
  have hn2 := hw.2.1
  obtain ⟨q, hq2, eq⟩ := draw_s (L := L) (xs := xs) hL hd (by omega) (p := 2) (by decide) (by decide)
  have eq : f_X3_draw L xs T 2 = some (nI q, stDr T (nI (e + 1))) := eq
  have t1 : trep k n a (stDr T (nI (e + 1))) := t
  have hcl : Int32.toNatClampNeg (nI n) = n := nI_clamp (by omega)
  obtain ⟨row, F1, f2, f3, r1, q1⟩ := keep2_s h t1 hw hq (by omega)
  rw [f_X3_shift, eq, obd_s]
  refine ite_P (fun c0 => ?_) (fun c0 => ?_)
  · dsimp only
    rw [t1.2.1, glen_nI hn (by decide), gd_t, hcl]
    have key : ∀ kk, ∃ A', l_X3_shift_24b Hb F K n L xs (2 * n) kk 16 0 (stDr T (nI (e + 1))) (fun _ => 0) = kk (nI n) (stDr T (nI (e + 1))) A' ∧ ∀ j, j < n → A' j = nI (aV a j) := fun kk => by
      have := getb_l (L := L) (lr := 2 * n) (xs := xs) (R1 := Hb) (R2 := F) (R3 := K) (N4 := n) rfl t1 hn kk n 0 16 (fun _ => 0) (by omega) (by omega) fun j hj => by omega
      rw [nI_0] at this
      exact this
    obtain ⟨A, eA, hA⟩ := key _
    rw [eA]
    rw [f2, obd_s, bnd_k, show nI n - 1 = nI (n - 1) from nI_subN (b := 1) (by omega)]
    have key2 : ∀ kk, ∃ T', l_X3_shift_56b (nI (n - 1)) Hb F (K ++ [row]) A n L xs (2 * n) kk 16 (nI (n - 1)) (stDr T (nI (e + 1))) = kk (zI 0) T' ∧ trep k n (aSet k 0 0 (aShL k (n - 1) a)) T' ∧ tkp T' = tkp (stDr T (nI (e + 1))) := fun kk => shLT_l (L := L) (lr := 2 * n) (xs := xs) (R1 := Hb) (R2 := F) (R3 := K ++ [row]) (N4 := n) rfl kk (n - 1) 16 m a _ t1 hw (by omega) (by omega) fun i hi => hA i (by omega)
    obtain ⟨T2, e2, t2, k2⟩ := key2 _
    obtain ⟨F2, f5, r2, q2⟩ := leftX_s (Hb := Hb) (p0 := tNu T) hw (by omega) f3 r1
    rw [e2]
    rw [l_X3_shift_95b, ite_self, g45, gd_t, bnd_k, gin_nI (by omega) (by omega), gd_t, bnd_k, bnd_k, gd_t, gdec_t (tk2 k2), gd_t, f5, obd_s, gd_t, bnd_k, clampI (by omega), hA (n - 1) (by omega), if_pos rfl, cl4]
    exact ⟨_, F2, K ++ [row], rfl, _, e + 1, r2, trep_sp t2, wf_mono (aLeft_wf hw) (by omega), by rw [q2]; exact q1, by rw [List.length_append]; exact Nat.add_le_add_right hc 1, tk1 k2, by omega, (tk2 k2).trans hu⟩
  · dsimp only
    rw [t1.2.1, glen_nI hn (by decide), gd_t, hcl]
    have key : ∀ kk, ∃ A', l_X3_shift_24 Hb F K n L xs (2 * n) kk 16 0 (stDr T (nI (e + 1))) (fun _ => 0) = kk (nI n) (stDr T (nI (e + 1))) A' ∧ ∀ j, j < n → A' j = nI (aV a j) := fun kk => by
      have := get_l (L := L) (lr := 2 * n) (xs := xs) (R1 := Hb) (R2 := F) (R3 := K) (N4 := n) rfl t1 hn kk n 0 16 (fun _ => 0) (by omega) (by omega) fun j hj => by omega
      rw [nI_0] at this
      exact this
    obtain ⟨A, eA, hA⟩ := key _
    rw [eA]
    rw [f2, obd_s, bnd_k, show nI n - 1 = nI (n - 1) from nI_subN (b := 1) (by omega)]
    have key2 : ∀ kk, ∃ T', l_X3_shift_95 (nI (n - 1)) Hb F (K ++ [row]) A n L xs (2 * n) kk 16 0 (stDr T (nI (e + 1))) = kk (nI n) T' ∧ trep k n (aSet k (n - 1) 0 (aShR k (n - 1) 0 a)) T' ∧ tkp T' = tkp (stDr T (nI (e + 1))) := fun kk => by
      have := shRT_l (L := L) (lr := 2 * n) (xs := xs) (R1 := Hb) (R2 := F) (R3 := K ++ [row]) (N4 := n) (R4 := A) rfl kk (n - 1) 0 16 m a _ t1 hw (by omega) (by omega) fun j _ hj => hA j hj
      rw [nI_0] at this
      exact this
    obtain ⟨F2, f5, r2, q2⟩ := rightX_s (Hb := Hb) (p0 := tNu T) hw (by omega) f3 r1
    rw [l_X3_shift_56, ite_self]
    obtain ⟨T2, e2, t2, k2⟩ := key2 _
    rw [e2]
    rw [g45, gd_t, bnd_k, bnd_k, gd_t, gdec_t (tk2 k2), gd_t, f5, obd_s, show gin 0 n = true by rw [← nI_0]; exact gin_nI (by omega) (by omega), gd_t, bnd_k, z5_0, hA 0 (by omega), if_pos rfl, cl4, Int32.add_zero]
    refine ⟨_, F2, K ++ [row], rfl, _, e + 1, r2, ?_, wf_mono (aRight_wf hw) (by omega), by rw [q2]; exact q1, by rw [List.length_append]; exact Nat.add_le_add_right hc 1, tk1 k2, by omega, (tk2 k2).trans hu⟩
    obtain ⟨b1, b2, b3, b4, b5, b6, b7, b8⟩ := t2
    exact ⟨b1, b2, b3, b4, b5, b6, b7, b8⟩
-- off
theorem aPu_lo {r x : Nat} {a : AS} : aPu r x (aLo a) = aLo (aPu r x a) := by
  show (if x = aU a r then aLo a else pu r x (aMv r (aLo a))) = aLo (if x = aU a r then a else pu r x (aMv r a))
  split <;> rfl
theorem aPd_lo {r x : Nat} {a : AS} : aPd r x (aLo a) = aLo (aPd r x a) := by
  show (if x = aD a r then aLo a else pd r x (aMv r (aLo a))) = aLo (if x = aD a r then a else pd r x (aMv r a))
  split <;> rfl
theorem aSet_lo {k r v : Nat} {a : AS} : aSet k r v (aLo a) = aLo (aSet k r v a) := by
  show aPd r (v - 5 * best k v (aU a r) (aD a r)) (aPu r (best k v (aU a r) (aD a r)) (aLo a)) = _
  rw [aPu_lo, aPd_lo]
  rfl
theorem cl3 : Int32.toNatClampNeg 3 = 3 := by decide
theorem g35 : gin 3 5 = true := by decide
theorem trep_lo {k n : Nat} {a : AS} {T : TD} (h : trep k n a T) : trep k n (aLo a) (stSm T (upd (tSm T) 3 (tSm T 3 + 1))) := by
  obtain ⟨h1, h2, h3, h4, h5, h6, h7, h8⟩ := h
  refine ⟨h1, h2, h3, h4, h5, h6, ?_, h8⟩
  show tSm T 3 + 1 = nI (aL a + 1)
  rw [h7, nI_1]
theorem lendT_l {L k n lr N4 N5 : Nat} {xs : Nat → Int32} {c1 c2 c4 c5 : Int32} {R1 : HB} {R2 : FR} {R3 : KO} {R4 R5 : Nat → Int32} {a : AS} {T : TD} (h : trep k n a T) (hn : n ≤ 8) (hb : ∀ j, j < 8 → aV a j ≤ 15) (kk : Int32 → TD → Option (Int32 × TD × FR × KO)) : ∀ (f i g : Nat), i + f = n → f < g → lend a f i < n →
    l_X3_off_155 c1 c2 c4 c5 R1 R2 R3 R4 R5 N4 N5 L xs lr kk g (nI i) T = kk (nI (lend a f i)) T := by
  intro f
  induction f with
  | zero =>
    intro i g hi hg hl
    have : i < n := hl
    omega
  | succ f ih =>
    intro i g hi hg hl
    obtain ⟨g, rfl⟩ : ∃ g', g = g' + 1 := ⟨g - 1, by omega⟩
    have hv := hb i (by omega)
    rw [l_X3_off_155, value_s h hn (by omega), obd_s]
    unfold lend at hl ⊢
    by_cases c : aV a i = 0
    · rw [if_pos (by rw [c]; decide), if_pos c, bnd_k, nI_1]
      rw [if_pos c] at hl
      exact ih (i + 1) g (by omega) (by omega) hl
    · rw [if_neg (nI_ne0 (by omega) (by omega)), if_neg c]
theorem ninesT_l {L k n lr N4 N5 r : Nat} {xs : Nat → Int32} {c1 c2 c5 : Int32} {R1 : HB} {R2 : FR} {R3 : KO} {R4 R5 : Nat → Int32} (kk : Int32 → TD → Option (Int32 × TD × FR × KO)) : ∀ (f g m : Nat) (a : AS) (T : TD), trep k n a T → wf k n m a → r + f < n → f < g →
    ∃ T', l_X3_off_190 c1 c2 (nI r) c5 R1 R2 R3 R4 R5 N4 N5 L xs lr kk g (nI (r + f)) T = kk (nI r) T' ∧ trep k n (aNines k r f a) T' ∧ tkp T' = tkp T := by
  intro f
  induction f with
  | zero =>
    intro g m a T h hw hr hg
    obtain ⟨g, rfl⟩ : ∃ g', g = g' + 1 := ⟨g - 1, by omega⟩
    have hn := hw.2.2.1
    rw [l_X3_off_190, if_pos (nI_le (by omega) (by omega))]
    exact ⟨T, rfl, h, rfl⟩
  | succ f ih =>
    intro g m a T h hw hr hg
    obtain ⟨g, rfl⟩ : ∃ g', g = g' + 1 := ⟨g - 1, by omega⟩
    have hn := hw.2.2.1
    obtain ⟨g1, g2⟩ := most_ge hw.1
    obtain ⟨T1, f1, r1, k1⟩ := setT_s h hw (r := r + f + 1) (v := 9) (by omega) (by omega)
    rw [l_X3_off_190, if_neg (nI_ge (by omega) (by omega)), show f_X3_set T (nI (r + (f + 1))) 9 = some T1 from f1, obd_s, bnd_k, show nI (r + (f + 1)) + (-1) = nI (r + f) from pk_m1 (r + f)]
    obtain ⟨T2, f2, r2, k2⟩ := ih g (m + 100) _ T1 r1 (aSet_wf hw (by omega) (by omega)) (by omega) (by omega)
    exact ⟨T2, f2, r2, k2.trans k1⟩
theorem sub_tab : ∀ v : Fin 16, ∀ d : Fin 10, ((0 : Int32) ≤ nI v.val - nI d.val ↔ d.val ≤ v.val) ∧ nI v.val - nI d.val + 10 = nI (v.val + 10 - d.val) := by decide +kernel
theorem offT_l {L k n lr N4 N5 N : Nat} {xs : Nat → Int32} {c1 c2 : Int32} {R1 : HB} {R2 : FR} {R3 : KO} {R4 R5 : Nat → Int32} (h5 : ∀ r, r < n → R5 r = nI (N / 10 ^ r % 10)) (hN5 : N5 = n) (kk : Int32 → TD → Option (Int32 × TD × FR × KO)) : ∀ (j g m : Nat) (a : AS) (T : TD), trep k n a T → wf k n m a → j ≤ n → j < g → tidy n a → N % 10 ^ j ≤ num n a →
    ∃ T', l_X3_off_126 c1 c2 R1 R2 R3 R4 R5 N4 N5 L xs lr kk g (zI j) T = kk (zI 0) T' ∧ trep k n (aTakes k n N j a) T' ∧ tkp T' = tkp T := by
  intro j
  induction j with
  | zero =>
    intro g m a T h hw hj hg ht hle
    obtain ⟨g, rfl⟩ : ∃ g', g = g' + 1 := ⟨g - 1, by omega⟩
    rw [l_X3_off_126, if_pos zI_0]
    exact ⟨T, rfl, h, rfl⟩
  | succ j ih =>
    intro g m a T h hw hj hg ht hle
    obtain ⟨g, rfl⟩ : ∃ g', g = g' + 1 := ⟨g - 1, by omega⟩
    have hn := hw.2.2.1
    obtain ⟨g1, g2⟩ := most_ge hw.1
    rw [mod_split] at hle
    have hd : N / 10 ^ j % 10 ≤ 9 := by omega
    have hv := ht j (by omega)
    obtain ⟨q1, q2, q3⟩ := take_ok hw ht (r := j) (d := N / 10 ^ j % 10) (by omega) hd (by omega)
    have w1 := aTake_wf hw (r := j) (d := N / 10 ^ j % 10) (by omega) hd fun c => (q1 c).1
    obtain ⟨s1, s2⟩ : ((0 : Int32) ≤ nI (aV a j) - nI (N / 10 ^ j % 10) ↔ N / 10 ^ j % 10 ≤ aV a j) ∧ nI (aV a j) - nI (N / 10 ^ j % 10) + 10 = nI (aV a j + 10 - N / 10 ^ j % 10) := sub_tab ⟨aV a j, by omega⟩ ⟨N / 10 ^ j % 10, by omega⟩
    show ∃ T', _ ∧ trep k n (aTakes k n N j (aTake k n j (N / 10 ^ j % 10) a)) T' ∧ _
    rw [l_X3_off_126, zI_s, if_neg (lt0 (by omega)), value_s h hn (by omega), obd_s, gin_nI (show j < N5 by omega) (by omega), gd_t, bnd_k, clampI (by omega), h5 j (by omega), bnd_k]
    generalize hdd : N / 10 ^ j % 10 = d at *
    by_cases c : aV a j < d
    · obtain ⟨hL, hp⟩ := q1 c
      have hLe := lend_le a (n - (j + 1)) (j + 1)
      have hV := fun i (hi : i < 8) => V_lt hw hi
      rw [if_neg (fun z => by have := s1.mp z; omega), bnd_k, nI_1, lendT_l h hn hV _ (n - (j + 1)) (j + 1) 16 (by omega) (by omega) hL]
      unfold aTake at ih q2 q3 w1 ⊢
      rw [if_pos c] at q2 q3 w1 ⊢
      generalize lend a (n - (j + 1)) (j + 1) = Ln at *
      have g4 := ht Ln hL
      obtain ⟨T1, f1, r1, k1⟩ := setT_s h hw (r := Ln) (v := aV a Ln - 1) hL (by omega)
      have u1 := aSet_wf hw (r := Ln) (v := aV a Ln - 1) (by omega) (by omega)
      rw [value_s h hn hL, obd_s, bnd_k, show nI (aV a Ln) - 1 = nI (aV a Ln - 1) from nI_subN (b := 1) (by omega), f1, obd_s, bnd_k, show nI Ln - 1 = nI (j + (Ln - (j + 1))) by rw [show nI Ln - 1 = nI (Ln - 1) from nI_subN (b := 1) (by omega)]; congr 1; omega]
      have key : ∀ kk, ∃ T', l_X3_off_190 c1 c2 (nI j) (nI (aV a j) - nI d) R1 R2 R3 R4 R5 N4 N5 L xs lr kk 16 (nI (j + (Ln - (j + 1)))) T1 = kk (nI j) T' ∧ trep k n (aNines k j (Ln - (j + 1)) (aSet k Ln (aV a Ln - 1) a)) T' ∧ tkp T' = tkp T1 := fun kk => ninesT_l (r := j) kk (Ln - (j + 1)) 16 _ _ _ r1 u1 (by omega) (by omega)
      obtain ⟨T2, f2, r2, k2⟩ := key _
      have u2 := aNines_wf (r := j) (Ln - (j + 1)) _ _ u1 (by omega)
      rw [f2]
      obtain ⟨T3, f3, r3, k3⟩ := setT_s (trep_lo r2) (wf_lo u2) (r := j) (v := aV a j + 10 - d) (by omega) (by omega)
      rw [aSet_lo] at r3
      rw [bnd_k, s2, g35, gd_t, bnd_k, bnd_k, gd_t, cl3, f3, obd_s, bnd_k, zI_m]
      obtain ⟨T4, f4, r4, k4⟩ := ih g _ _ T3 r3 w1 (by omega) (by omega) q3 (by omega)
      exact ⟨T4, f4, r4, k4.trans (k3.trans (k2.trans k1))⟩
    · unfold aTake at ih q2 q3 w1 ⊢
      rw [if_neg c] at q2 q3 w1 ⊢
      obtain ⟨T1, f1, r1, k1⟩ := setT_s h hw (r := j) (v := aV a j - d) (by omega) (by omega)
      rw [if_pos (s1.mpr (by show d ≤ aV a j; omega)), nI_subN (show d ≤ aV a j by omega), f1, obd_s, bnd_k, zI_m]
      obtain ⟨T4, f4, r4, k4⟩ := ih g _ _ T1 r1 w1 (by omega) (by omega) q3 (by omega)
      exact ⟨T4, f4, r4, k4.trans k1⟩
theorem tidyT_q {k n : Nat} {a : AS} {T : TD} (h : trep k n a T) (hn : n ≤ 8) (hb : ∀ j, j < 8 → aV a j ≤ 15) : ∀ (j i g b : Nat), i + j = n → j < g → ((b = 1 ∧ ∀ r, r < i → aV a r ≤ 9) ∨ (b = 0 ∧ ¬ tidy n a)) →
    ∃ b' : Nat, l_X3_isTidy_4 T (fun (a21 : Int32) (a22 : Int32) => gd (nbool a21) <| some a21) g (nI b) (nI i) = some (nI b') ∧ ((b' = 1 ∧ tidy n a) ∨ (b' = 0 ∧ ¬ tidy n a)) := by
  intro j
  induction j with
  | zero =>
    intro i g b hi hg hh
    obtain ⟨g, rfl⟩ : ∃ g', g = g' + 1 := ⟨g - 1, by omega⟩
    obtain rfl : i = n := by omega
    rw [l_X3_isTidy_4, h.2.1, if_pos (nI_le (Nat.le_refl _) (by omega))]
    refine ⟨b, ?_, hh⟩
    rcases hh with ⟨rfl, _⟩ | ⟨rfl, _⟩
    · rfl
    · rfl
  | succ j ih =>
    intro i g b hi hg hh
    obtain ⟨g, rfl⟩ : ∃ g', g = g' + 1 := ⟨g - 1, by omega⟩
    have hv := hb i (by omega)
    rw [l_X3_isTidy_4, h.2.1, if_neg (nI_ge (by omega) (by omega)), value_s h hn (by omega), obd_s]
    by_cases c9 : 10 ≤ aV a i
    · rw [if_pos (show (10 : Int32) ≤ nI (aV a i) from nI_le (a := 10) c9 (by omega)), bnd_k, bnd_k, nI_1, show nI b &&& 0 = nI 0 by rcases hh with ⟨rfl, _⟩ | ⟨rfl, _⟩ <;> decide]
      exact ih (i + 1) g 0 (by omega) (by omega) (Or.inr ⟨rfl, fun z => by have := z i (by omega); omega⟩)
    · rw [if_neg (show ¬ (10 : Int32) ≤ nI (aV a i) from nI_ge (b := 10) (by omega) (by decide)), bnd_k, bnd_k, nI_1, show nI b &&& 1 = nI b by rcases hh with ⟨rfl, _⟩ | ⟨rfl, _⟩ <;> decide]
      refine ih (i + 1) g b (by omega) (by omega) ?_
      rcases hh with ⟨p, q⟩ | ⟨p, q⟩
      · refine Or.inl ⟨p, fun r hr => ?_⟩
        by_cases e : r = i
        · rw [e]; omega
        · exact q r (by omega)
      · exact Or.inr ⟨p, q⟩
theorem total_l {k n : Nat} {a : AS} {T : TD} (h : trep k n a T) (hn : n ≤ 8) (hb : ∀ j, j < 8 → aV a j ≤ 15) : ∀ (j i g : Nat), i + j = n → j < g →
    l_X3_total_7 T (fun (a24 : Int64) (a25 : Int64) (a26 : Int32) => some a24) g (lN (numV (aV a) i)) (lN (10 ^ i)) (nI i) = some (lN (num n a)) := by
  intro j
  induction j with
  | zero =>
    intro i g hi hg
    obtain ⟨g, rfl⟩ : ∃ g', g = g' + 1 := ⟨g - 1, by omega⟩
    obtain rfl : i = n := by omega
    rw [l_X3_total_7, h.2.1, if_pos (nI_le (Nat.le_refl _) (by omega))]
    rfl
  | succ j ih =>
    intro i g hi hg
    obtain ⟨g, rfl⟩ : ∃ g', g = g' + 1 := ⟨g - 1, by omega⟩
    have hv := hb i (by omega)
    rw [l_X3_total_7, h.2.1, if_neg (nI_ge (by omega) (by omega)), value_s h hn (by omega), obd_s, bnd_k, nI_l (by omega), bnd_k, lN_mul, bnd_k, lN_add, bnd_k, nI_1, bnd_k, show lN (10 ^ i) * 10 = lN (10 ^ (i + 1)) from by rw [Nat.pow_succ]; exact lN_mul _ 10, Nat.mul_comm]
    exact ih (i + 1) g (by omega) (by omega)
theorem total_s {k n m : Nat} {a : AS} {T : TD} (h : trep k n a T) (hw : wf k n m a) : f_X3_total T = some (lN (num n a)) :=
  total_l h hw.2.2.1 (fun j hj => V_lt hw hj) n 0 16 (by omega) (by have := hw.2.2.1; omega)
