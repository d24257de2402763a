-- the pure level, 29: the law's loops end well
theorem k_l {L k1 n1 k2 n2 : Nat} {xs : Nat → Int32} {Hb : HB} {pt : Int32} (hL : L ≤ 260) (hF : hFc Hb = 2) : ∀ (j i g m e : Nat) (T : TD) (F G Tr : FR) (a b : AS), i + j = 4 → j < g → Fr k1 n1 m a F → Fr k2 n2 m b G → tN T = n1 → tDr T = nI e → m + 70000 * j + 200000 < 2 ^ 21 → e + 50 * j + 300 < 2 ^ 20 → l_k L xs Hb pt g (nI i) T F G Tr = some () := by
  intro j
  induction j with
  | zero =>
    intro i g m e T F G Tr a b hi hg h1 h2 hN hd hm he
    obtain ⟨g, rfl⟩ : ∃ g', g = g' + 1 := ⟨g - 1, by omega⟩
    obtain rfl : i = 4 := by omega
    rw [l_k, if_pos (by decide)]
  | succ j ih =>
    intro i g m e T F G Tr a b hi hg h1 h2 hN hd hm he
    obtain ⟨g, rfl⟩ : ∃ g', g = g' + 1 := ⟨g - 1, by omega⟩
    obtain ⟨N, rd, e', tk, T1, c1, hN1, hrd, he', dA, dB⟩ := C1_s (L := L) (xs := xs) (Hb := Hb) hL h1.1 h1.2.1 h2.1 h2.2.1 (by omega) hF hN hd (by omega) Tr
    obtain ⟨F1, T2, c2, r2, q2⟩ := C2_s (L := L) (xs := xs) (Hb := Hb) (G := G) (T := stDr T (nI e')) h1.1 h1.2.1 (by omega) hN1 dA h1.2.2 T1
    obtain ⟨G1, T3, c3, r3, q3⟩ := C3_s (L := L) (xs := xs) (Hb := Hb) (G := F1) (T := stDr T (nI e')) h2.1 h2.2.1 (by omega) hN1 dB h2.2.2 T2
    have w2 := adds_wf (N := N) h1.2.1
    have w3 := adds_wf (N := N) h2.2.1
    obtain ⟨F4, G4, a4, b4, e4, c4, s1, s2, he4⟩ := toget_s (L := L) (xs := xs) (Hb := Hb) (T := stDr T (nI e')) (e := e') hL ⟨r2, w2, q2⟩ ⟨r3, w3, q3⟩ (by omega) rfl (by omega)
    obtain ⟨T4, c5⟩ := C4_s (pt := pt) (pk := nI i) r2 w2 (by omega) hrd c4 T3
    rw [l_k, if_neg (show ¬ (4 : Int32) ≤ nI i from nI_ge (b := 4) (by omega) (by decide)), c1, obd_s]
    dsimp only
    rw [c2, obd_s]
    dsimp only
    rw [c3, obd_s]
    dsimp only
    rw [c5, obd_s, nI_1]
    exact ih (i + 1) g (m + 6400 + 60000) e4 _ _ _ _ a4 b4 (by omega) (by omega) s1 s2 hN rfl (by omega) (by omega)
theorem t_l {L : Nat} {xs : Nat → Int32} (hL : L ≤ 260) : ∀ (j i g : Nat), i + j = 3 → j < g → l_t L xs g (nI i) = some () := by
  intro j
  induction j with
  | zero =>
    intro i g hi hg
    obtain ⟨g, rfl⟩ : ∃ g', g = g' + 1 := ⟨g - 1, by omega⟩
    obtain rfl : i = 3 := by omega
    rw [l_t, if_pos (by decide)]
  | succ j ih =>
    intro i g hi hg
    obtain ⟨g, rfl⟩ : ∃ g', g = g' + 1 := ⟨g - 1, by omega⟩
    obtain ⟨k1, n1, k2, n2, T1, T2, F1, F2, Tr, e1, S1, S2, t1, t2, b1, b2⟩ := A1_s (L := L) (p := i) (xs := xs) hL (by omega)
    obtain ⟨A1, B1, A2, B2, K1, K2, e2, R1, R2⟩ := acts_l (L := L) (xs := xs) (Hb := (2, 0)) hL 5 0 6 0 200 T1 T2 F1 F2 [] [] (by decide) (by decide) S1 S2 (by decide) (by decide)
    rw [nI_0] at e2
    obtain ⟨a, x, r1, t1', w1, q1, -, d1, x1, -⟩ := R1
    obtain ⟨b, y, r2, t2', w2, q2, -, d2, y1, -⟩ := R2
    have lr1 : lrO T1 = 2 * n1 := by
      unfold lrO
      rw [t1, show (2 : Int32) * nI n1 = nI (2 * n1) from nI_mul 2 n1]
      exact nI_clamp (by omega)
    have lr2 : lrO T2 = 2 * n2 := by
      unfold lrO
      rw [t2, show (2 : Int32) * nI n2 = nI (2 * n2) from nI_mul 2 n2]
      exact nI_clamp (by omega)
    have e3 := k_l (L := L) (xs := xs) (Hb := (2, 0)) (pt := nI i) hL rfl 4 0 5 _ x A1 B1 B2 Tr a b (by decide) (by decide) ⟨r1, w1, q1.ring⟩ ⟨r2, w2, q2.ring⟩ t1'.2.1 d1 (by omega) (by omega)
    rw [nI_0] at e3
    rw [l_t, if_neg (show ¬ (3 : Int32) ≤ nI i from nI_ge (b := 3) (by omega) (by decide)), e1, obd_s]
    dsimp only
    rw [lr1, lr2, f_acts, e2, obd_s]
    dsimp only
    rw [e3, obd_s, nI_1]
    exact ih (i + 1) g (by omega) (by omega)
/-- the law ends well on every script of at most 260 ints -/
theorem law_s {L : Nat} (xs : Nat → Int32) (hL : L ≤ 260) : f_law L xs = some () := by
  have e := t_l (xs := xs) hL 3 0 4 (by decide) (by decide)
  rw [nI_0] at e
  exact e
