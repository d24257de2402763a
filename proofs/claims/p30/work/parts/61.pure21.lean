-- the pure level, 21: off, an act, the acts
theorem i32_lN {a : Nat} : (lN a).toInt32 = nI a := lN_i a
theorem offJ_s {L k n m e c N : Nat} {xs : Nat → Int32} {nu nu0 : Int32} {a : AS} {T : TD} {Hb : HB} {F : FR} {K : KO} (h : rep k n a F) (t : trep k n a T) (hw : wf k n m a) (hm : m + 100000 < 2 ^ 21) (hq : keptJ k n K (kpt F)) (hc : K.length ≤ c) (hc1 : c < 11) (hd : tDr T = nI e) (hu : tNu T = nu) (h0 : nu0 = nu) (hN2 : N < 2 ^ 31) (hN : N < 10 ^ n ∨ N ≤ num n a) :
    Ok k n (m + 25000) e nu (c + 1) (if (99999999 : Int32) < nI N then (some (1, T, F, K)) else (bnd ((nI N).toInt64) fun (v5 : Int64) => obd (f_X3_digits v5 10) fun x6 => gd (gin (nI (tN T)) (Int32.toNatClampNeg 10)) <| bnd (x6 (Int32.toNatClampNeg (nI (tN T)))) fun (v9 : Int32) => if v9 ≤ 0 then (obd (f_X3_isTidy T) fun x11 => if x11 = 0 then (gd (gdec ((tNu T) = nu0)) <| obd (f_X2_off Hb F nu0 (nI N)) fun x14 => if x14.1 = (-2) then (some (1, T, x14.2, K)) else (some (0, T, x14.2, K))) else (bnd ((nI N).toInt64) fun (v16 : Int64) => obd (f_X3_total T) fun x17 => bnd (lg_cmp v16 x17) fun (v18 : Int32) => if v18 ≤ 0 then (gd (gin 0 5) <| bnd ((tSm T) (Int32.toNatClampNeg 0)) fun (v21 : Int32) => obd (f_X3_keep (2 * n) T K) fun x22 => bnd ((nI N).toInt64) fun (v25 : Int64) => obd (f_X3_digits v25 (nI (tN T))) fun x26 => bnd ((nI (tN T)) - 1) fun (v28 : Int32) => l_X3_off_126 (nI N) v21 Hb F x22 x6 x26 (Int32.toNatClampNeg 10) (Int32.toNatClampNeg (nI (tN T))) L xs (2 * n) (fun (a121 : Int32) (F122 : TD) => gd (gdec ((tNu F122) = nu0)) <| obd (f_X2_off Hb F nu0 (nI N)) fun x124 => gd (gin 0 5) <| bnd ((tSm F122) (Int32.toNatClampNeg 0)) fun (v126 : Int32) => bnd (v126 - v21) fun (v127 : Int32) => if x124.1 = v127 then (some (1, F122, x124.2, x22)) else (some (0, F122, x124.2, x22))) 16 v28 T) else (gd (gdec ((tNu T) = nu0)) <| obd (f_X2_off Hb F nu0 (nI N)) fun x130 => if x130.1 = (-2) then (some (1, T, x130.2, K)) else (some (0, T, x130.2, K))))) else (some (1, T, F, K)))) := by
  have hn := hw.2.2.1
  have hp := pow8 hn
  have hb := num_b hw
  have hV := fun i (hi : i < 8) => V_lt hw hi
  have hst : Ok k n (m + 25000) e nu (c + 1) (some (1, T, F, K)) := stay h t hw (by omega) hq hc hd (Nat.le_refl _) hu
  obtain ⟨A, eA, hA⟩ := digitsT_s (n := 10) (N := N) (by omega) (by omega)
  have eA : f_X3_digits (lN N) 10 = some A := eA
  refine ite_P (fun _ => hst) (fun _ => ?_)
  rw [bnd_k, nI_l hN2, eA, obd_s, t.2.1, gin_nI (show n < Int32.toNatClampNeg 10 by rw [show Int32.toNatClampNeg 10 = 10 by decide]; omega) (by decide), gd_t, bnd_k, nI_clamp (show n < 2 ^ 31 by omega), hA n (by omega)]
  by_cases c0 : N / 10 ^ n % 10 = 0
  · have hN10 : N < 10 ^ n := by
      rcases hN with q | q
      · exact q
      · have h1 : num n a < 2 * 10 ^ n := num_lt2 n fun i hi => V_lt hw (by omega)
        have h2 : N / 10 ^ n < 2 := Nat.div_lt_of_lt_mul (by omega)
        have h3 : N / 10 ^ n = 0 := by
          generalize N / 10 ^ n = y at c0 h2
          omega
        exact (Nat.div_eq_zero_iff_lt (Nat.pow_pos (by decide))).mp h3
    rw [if_pos (show nI (N / 10 ^ n % 10) ≤ 0 by rw [c0]; decide)]
    obtain ⟨b, eb, hb2⟩ := tidyT_q t hn hV n 0 16 1 (by omega) (by omega) (Or.inl ⟨rfl, fun r hr => by omega⟩)
    rw [nI_0] at eb
    have eb : f_X3_isTidy T = some (nI b) := eb
    rw [eb, obd_s, gdec_t (hu.trans h0.symm), gd_t]
    by_cases hT : tidy n a
    · obtain rfl : b = 1 := by
        rcases hb2 with q | q
        · exact q.1
        · exact absurd hT q.2
      rw [if_neg (by decide), bnd_k, total_s t hw, obd_s, bnd_k]
      by_cases hle : N ≤ num n a
      · obtain ⟨row, F1, f2, f3, r1, q1⟩ := keep2_s h t hw hq (by omega)
        obtain ⟨F2, f5, r2, q2⟩ := offX_s (Hb := Hb) (p0 := nu0) h hw (by omega) hN10 hT hle f3 r1
        obtain ⟨w2, -, -, -⟩ := takes_ok (N := N) n m a hw (Nat.le_refl _) hT (by rw [Nat.mod_eq_of_lt hN10]; exact hle)
        obtain ⟨A2, eA2, hA2⟩ := digitsT_s (n := n) (N := N) (by omega) (by omega)
        rw [if_pos ((lN_c (by omega) (by omega)).mpr hle), g05, gd_t, bnd_k, f2, obd_s, bnd_k, eA2, obd_s, bnd_k]
        have key : ∀ kk, ∃ T', l_X3_off_126 (nI N) (tSm T (Int32.toNatClampNeg 0)) Hb F (K ++ [row]) A A2 (Int32.toNatClampNeg 10) n L xs (2 * n) kk 16 (zI n) T = kk (zI 0) T' ∧ trep k n (aTakes k n N n a) T' ∧ tkp T' = tkp T := fun kk => offT_l hA2 rfl kk n 16 m a T t hw (Nat.le_refl _) (by omega) hT (by rw [Nat.mod_eq_of_lt hN10]; exact hle)
        rw [show nI n - 1 = zI n from rfl]
        obtain ⟨T2, e2, t2, k2⟩ := key _
        rw [e2, gdec_t ((tk2 k2).trans (hu.trans h0.symm)), gd_t, f5, obd_s, gd_t, bnd_k, bnd_k, z5_0, t2.2.2.2.1, t.2.2.2.1, if_pos rfl]
        exact ⟨T2, F2, K ++ [row], rfl, _, e, r2, t2, wf_mono w2 (by omega), by rw [q2]; exact q1, by rw [List.length_append]; exact Nat.add_le_add_right hc 1, (tk1 k2).trans hd, Nat.le_refl _, (tk2 k2).trans hu⟩
      · rw [if_neg (fun z => hle ((lN_c (by omega) (by omega)).mp z)), offX_n h hw hN10 (fun z => hle z.2), obd_s, if_pos rfl]
        exact hst
    · obtain rfl : b = 0 := by
        rcases hb2 with q | q
        · exact absurd q.2 hT
        · exact q.1
      rw [if_pos (by decide), offX_n h hw hN10 (fun z => hT z.1), obd_s, if_pos rfl]
      exact hst
  · rw [if_neg (nI_nle (by omega) (by omega))]
    exact hst
theorem offT_s {L k n m e c : Nat} {xs : Nat → Int32} {nu : Int32} {a : AS} {T : TD} {Hb : HB} {F : FR} {K : KO} (hL : L ≤ 260) (h : rep k n a F) (t : trep k n a T) (hw : wf k n m a) (hm : m + 100000 < 2 ^ 21) (hq : keptJ k n K (kpt F)) (hc : K.length ≤ c) (hc1 : c < 11) (hd : tDr T = nI e) (he : e + 100 < 2 ^ 20) (hu : tNu T = nu) : Ok k n (m + 25000) (e + 40) nu (c + 1) (f_X3_off L xs (2 * n) T Hb F K) := by
  have hn := hw.2.2.1
  have hn2 := hw.2.1
  have hp := pow8 hn
  have hb := num_b hw
  obtain ⟨q, hq2, eq⟩ := draw_s (L := L) (xs := xs) hL hd (by omega) (p := 2) (by decide) (by decide)
  have eq : f_X3_draw L xs T 2 = some (nI q, stDr T (nI (e + 1))) := eq
  have t1 : trep k n a (stDr T (nI (e + 1))) := t
  rw [f_X3_off, eq, obd_s]
  refine jn_Q (P := Ok k n (m + 25000) (e + 40) nu (c + 1)) (Q := fun J => ∀ N e', N < 2 ^ 31 → (N < 10 ^ n ∨ N ≤ num n a) → e' ≤ e + 40 → Ok k n (m + 25000) (e + 40) nu (c + 1) (J (nI N) (stDr T (nI e')))) ?_ ?_
  · intro N e' h1 h2 h3
    exact (offJ_s (T := stDr T (nI e')) (nu0 := tNu T) h t hw hm hq hc hc1 rfl hu hu h1 h2).mono (Nat.le_refl _) h3
  · intro J hJ
    refine ite_P (fun _ => ?_) (fun _ => ?_)
    · obtain ⟨N, e', f1, hN, he'⟩ := some_s (L := L) (xs := xs) (T := stDr T (nI (e + 1))) (e := e + 1) hL (by omega) hn t1.2.1 rfl (by omega)
      have f1 : f_X3_some L xs (stDr T (nI (e + 1))) = some (nI N, stDr T (nI e')) := f1
      rw [f1, obd_s]
      exact hJ N e' (by omega) (Or.inl hN) (by omega)
    · obtain ⟨r, hr, er⟩ := draw_s (L := L) (xs := xs) hL (T := stDr T (nI (e + 1))) (e := e + 1) rfl (by omega) (p := 9) (by decide) (by decide)
      have er : f_X3_draw L xs (stDr T (nI (e + 1))) 9 = some (nI r, stDr T (nI (e + 1 + 1))) := er
      rw [total_s t1 hw, obd_s, er, obd_s, bnd_k, show (1 : Int32) + nI r = nI (1 + r) from nI_add 1 r, nI_l (by omega), bnd_k, show nz64 (lN (1 + r)) = true by
        unfold nz64
        rw [decide_eq_true_iff]
        intro z
        have := (lN_eq (a := 1 + r) (b := 0) (by omega) (by decide)).mp z
        omega, gd_t, bnd_k, pk_lDiv (by omega) (by omega) (by omega), bnd_k, lN_i]
      exact hJ _ (e + 1 + 1) (Nat.lt_of_le_of_lt (Nat.div_le_self _ _) (by omega)) (Or.inr (Nat.div_le_self _ _)) (by omega)
theorem wrap_s {k n m d c : Nat} {nu : Int32} {r : Option (Int32 × TD × FR × KO)} (h : Ok k n m d nu c r) : Ok k n m d nu c (obd r fun x => gd (nbool x.1) <| some (x.1, x.2.1, x.2.2.1, x.2.2.2)) := by
  obtain ⟨T, F, K, e, S⟩ := h
  rw [e, obd_s, show nbool (1, T, F, K).1 = true from by show nbool 1 = true; decide, gd_t]
  exact ⟨T, F, K, rfl, S⟩
theorem act_s {L k n m e c : Nat} {xs : Nat → Int32} {nu : Int32} {T : TD} {Hb : HB} {F : FR} {K : KO} (hL : L ≤ 260) (h : St k n m e nu c T F K) (hm : m + 100000 < 2 ^ 21) (hc1 : c < 11) (he : e + 200 < 2 ^ 20) : Ok k n (m + 25000) (e + 50) nu (c + 1) (f_X3_act L xs (2 * n) T Hb F K) := by
  obtain ⟨a, e0, r, t, hw, hq, hc, hd, he0, hu⟩ := h
  obtain ⟨q, hq2, eq⟩ := draw_s (L := L) (xs := xs) hL hd (by omega) (p := 17) (by decide) (by decide)
  have eq : f_X3_draw L xs T 17 = some (nI q, stDr T (nI (e0 + 1))) := eq
  have t1 : trep k n a (stDr T (nI (e0 + 1))) := t
  have u1 : tNu (stDr T (nI (e0 + 1))) = nu := hu
  have d1 : tDr (stDr T (nI (e0 + 1))) = nI (e0 + 1) := rfl
  have gn : gdec (tNu (stDr T (nI (e0 + 1))) = tNu T) = true := gdec_t rfl
  have fin : ∀ {x}, Ok k n (m + 25000) (e0 + 1 + 40) nu (c + 1) x → Ok k n (m + 25000) (e + 50) nu (c + 1) x := fun h => h.mono (Nat.le_refl _) (by omega)
  rw [f_X3_act, eq, obd_s]
  dsimp only
  rw [gn]
  simp only [gd_t]
  have hadd := fin (wrap_s (addT_s (L := L) (xs := xs) (Hb := Hb) hL r t1 hw hm hq hc hc1 d1 (by omega) u1))
  have hoff := fin (wrap_s (offT_s (L := L) (xs := xs) (Hb := Hb) hL r t1 hw hm hq hc hc1 d1 (by omega) u1))
  have hset := fin (wrap_s (setsT_s (L := L) (xs := xs) (Hb := Hb) hL r t1 hw hm hq hc hc1 d1 (by omega) u1))
  have hpus := fin (wrap_s (pushT_s (L := L) (xs := xs) (Hb := Hb) hL r t1 hw hm hq hc hc1 d1 (by omega) u1))
  refine ite_P (fun _ => hadd) (fun _ => ite_P (fun _ => hadd) (fun _ => ite_P (fun _ => hadd) (fun _ => ite_P (fun _ => hadd) (fun _ => ite_P (fun _ => hoff) (fun _ => ite_P (fun _ => hoff) (fun _ => ite_P (fun _ => ?_) (fun _ => ite_P (fun _ => ?_) (fun _ => ite_P (fun _ => ?_) (fun _ => ite_P (fun _ => ?_) (fun _ => ite_P (fun _ => ?_) (fun _ => ite_P (fun _ => hset) (fun _ => ite_P (fun _ => hset) (fun _ => ite_P (fun _ => hpus) (fun _ => ite_P (fun _ => hpus) (fun _ => ite_P (fun _ => ?_) (fun _ => ?_))))))))))))))))
  · exact fin (wrap_s (timesT_s (L := L) (xs := xs) (Hb := Hb) hL r t1 hw hm hq hc hc1 d1 (by omega) u1))
  · exact fin (wrap_s (divideT_s (L := L) (xs := xs) (Hb := Hb) hL r t1 hw hm hq hc hc1 d1 (by omega) u1))
  · exact fin (wrap_s (shiftT_s (L := L) (xs := xs) (Hb := Hb) hL r t1 hw hm hq hc hc1 d1 (by omega) u1))
  · exact fin (wrap_s (tidyT_s (L := L) (xs := xs) (Hb := Hb) r t1 hw hm hq hc hc1 d1 u1))
  · obtain ⟨p, hp3, ep⟩ := draw_s (L := L) (xs := xs) hL (T := stDr T (nI (e0 + 1))) (e := e0 + 1) rfl (by omega) (p := 3) (by decide) (by decide)
    have ep : f_X3_draw L xs (stDr T (nI (e0 + 1))) 3 = some (nI p, stDr T (nI (e0 + 1 + 1))) := ep
    rw [ep, obd_s]
    refine ite_P (fun _ => ?_) (fun _ => ?_)
    · exact stay r t hw (by omega) hq hc rfl (by omega) hu
    · obtain ⟨T2, F2, K2, e2, S⟩ := clearT_s (L := L) (xs := xs) (T := stDr T (nI (e0 + 1 + 1))) (Hb := Hb) (nu := nu) r t hw hm hq hc hc1 rfl hu
      dsimp only
      rw [gdec_t (rfl : tNu (stDr T (nI (e0 + 1 + 1))) = tNu T), gd_t, e2, obd_s, if_neg (by show ¬ (1 : Int32) = 0; decide)]
      exact Ok.mono ⟨T2, F2, K2, rfl, S⟩ (Nat.le_refl _) (by omega)
  · exact fin (wrap_s (backT_s (Hb := Hb) r t1 hw hm hq hc d1 u1))
  · obtain ⟨p, hp3, ep⟩ := draw_s (L := L) (xs := xs) hL (T := stDr T (nI (e0 + 1))) (e := e0 + 1) rfl (by omega) (p := 2) (by decide) (by decide)
    have ep : f_X3_draw L xs (stDr T (nI (e0 + 1))) 2 = some (nI p, stDr T (nI (e0 + 1 + 1))) := ep
    rw [ep, obd_s]
    refine ite_P (fun _ => ?_) (fun _ => ?_)
    · exact stay r t hw (by omega) hq hc rfl (by omega) hu
    · obtain ⟨T2, F2, e2, S⟩ := greaseT_s (L := L) (xs := xs) (T := stDr T (nI (e0 + 1 + 1))) (Hb := Hb) (nu := nu) hL r t hw hm hq hc rfl (by omega) hu
      dsimp only
      rw [gdec_t (rfl : tNu (stDr T (nI (e0 + 1 + 1))) = tNu T), gd_t, e2, obd_s, if_neg (by show ¬ (1 : Int32) = 0; decide)]
      exact Ok.mono ⟨T2, F2, K, rfl, S⟩ (Nat.le_refl _) (by omega)
theorem acts_l {L k1 n1 k2 n2 : Nat} {xs : Nat → Int32} {Hb : HB} (hL : L ≤ 260) : ∀ (j i g m e : Nat) (T1 T2 : TD) (F1 F2 : FR) (K1 K2 : KO), i + j = 5 → j < g → St k1 n1 m e 0 i T1 F1 K1 → St k2 n2 m e 1 i T2 F2 K2 → m + 25000 * j + 200000 < 2 ^ 21 → e + 50 * j + 500 < 2 ^ 20 →
    ∃ T1' F1' T2' F2' K1' K2', l_acts L xs Hb (2 * n1) (2 * n2) g (nI i) T1 F1 K1 T2 F2 K2 = some (T1', F1', T2', F2') ∧ St k1 n1 (m + 25000 * j) (e + 50 * j) 0 5 T1' F1' K1' ∧ St k2 n2 (m + 25000 * j) (e + 50 * j) 1 5 T2' F2' K2' := by
  intro j
  induction j with
  | zero =>
    intro i g m e T1 T2 F1 F2 K1 K2 hi hg h1 h2 hm he
    obtain ⟨g, rfl⟩ : ∃ g', g = g' + 1 := ⟨g - 1, by omega⟩
    obtain rfl : i = 5 := by omega
    rw [l_acts, if_pos (by decide)]
    exact ⟨T1, F1, T2, F2, K1, K2, rfl, h1, h2⟩
  | succ j ih =>
    intro i g m e T1 T2 F1 F2 K1 K2 hi hg h1 h2 hm he
    obtain ⟨g, rfl⟩ : ∃ g', g = g' + 1 := ⟨g - 1, by omega⟩
    obtain ⟨A1, B1, C1, e1, S1⟩ := act_s (L := L) (xs := xs) (Hb := Hb) hL h1 (by omega) (by omega) (by omega)
    obtain ⟨A2, B2, C2, e2, S2⟩ := act_s (L := L) (xs := xs) (Hb := Hb) hL h2 (by omega) (by omega) (by omega)
    have n1 : tNu T1 = 0 := by
      obtain ⟨a, e0, x1, x2, x3, x4, x5, x6, x7, x8⟩ := h1
      exact x8
    have n2 : tNu T2 = 1 := by
      obtain ⟨a, e0, x1, x2, x3, x4, x5, x6, x7, x8⟩ := h2
      exact x8
    rw [l_acts, if_neg (show ¬ (5 : Int32) ≤ nI i from nI_ge (b := 5) (by omega) (by decide)), gdec_t n1, gd_t, e1, obd_s, if_neg (by show ¬ (1 : Int32) = 0; decide), gdec_t n2, gd_t, e2, obd_s, if_neg (by show ¬ (1 : Int32) = 0; decide), nI_1]
    obtain ⟨T1', F1', T2', F2', K1', K2', f, s1, s2⟩ := ih (i + 1) g (m + 25000) (e + 50) A1 A2 B1 B2 C1 C2 (by omega) (by omega) S1 S2 (by omega) (by omega)
    refine ⟨T1', F1', T2', F2', K1', K2', f, ?_, ?_⟩
    · rw [show m + 25000 * (j + 1) = m + 25000 + 25000 * j by omega, show e + 50 * (j + 1) = e + 50 + 50 * j by omega]
      exact s1
    · rw [show m + 25000 * (j + 1) = m + 25000 + 25000 * j by omega, show e + 50 * (j + 1) = e + 50 + 50 * j by omega]
      exact s2
