-- the pure level, 28: both go the same way
def Fr (k n m : Nat) (a : AS) (F : FR) : Prop := rep k n a F ∧ wf k n m a ∧ ringOk (kpt F)
theorem clearR {k n m : Nat} {a : AS} {F : FR} {Hb : HB} {p0 : Int32} (h : Fr k n m a F) (hm : m + 30000 < 2 ^ 21) :
    ∃ a' F' x, f_X2_clear Hb F p0 = some (nI x, F') ∧ x < 2 ^ 21 ∧ Fr k n (m + 800) a' F' ∧ num n a' = 0 ∧ tidy n a' ∧ aS a' = aS a := by
  obtain ⟨r, w, q⟩ := h
  obtain ⟨F1, f1, r1, q1⟩ := keepBeads_s r q
  obtain ⟨F2, f2, r2, k2⟩ := clearX_s (Hb := Hb) (p0 := p0) r w (by omega) f1 r1
  obtain ⟨s1, s2, s3, s4⟩ := sets_ok (N := 0) w (Nat.pow_pos (by decide))
  obtain ⟨p1, p2⟩ := pushes_s (mo_sets (k := k) (N := 0) n a) s4 (by omega)
  rw [p1] at f2
  exact ⟨_, F2, _, f2, p2, ⟨r2, s4, by rw [k2]; exact q1⟩, s1, s2, s3⟩
theorem addR {k n m N : Nat} {a : AS} {F : FR} {Hb : HB} {p0 : Int32} (h : Fr k n m a F) (hm : m + 30000 < 2 ^ 21) (ht : tidy n a) (hN : num n a + N < 10 ^ n) :
    ∃ a' F' x, f_X2_add Hb F p0 (nI N) = some (nI x, F') ∧ x < 2 ^ 21 ∧ Fr k n (m + 6400) a' F' ∧ num n a' = num n a + N ∧ tidy n a' ∧ aS a' = aS a := by
  obtain ⟨r, w, q⟩ := h
  obtain ⟨F1, f1, r1, q1⟩ := keepBeads_s r q
  obtain ⟨F2, f2, r2, k2⟩ := addX_s (Hb := Hb) (p0 := p0) r w (by omega) (N := N) (by omega) f1 r1
  obtain ⟨s1, s2, s3⟩ := adds_fit w ht hN
  have s4 := adds_wf (N := N) w
  obtain ⟨p1, p2⟩ := pushes_s (mo_adds (k := k) (n := n) (N := N) n a) s4 (by omega)
  rw [p1] at f2
  exact ⟨_, F2, _, f2, p2, ⟨r2, s4, by rw [k2]; exact q1⟩, s1, s3, s2⟩
theorem offR {k n m N : Nat} {a : AS} {F : FR} {Hb : HB} {p0 : Int32} (h : Fr k n m a F) (hm : m + 30000 < 2 ^ 21) (ht : tidy n a) (hN : N ≤ num n a) :
    ∃ a' F' x, f_X2_off Hb F p0 (nI N) = some (nI x, F') ∧ x < 2 ^ 21 ∧ Fr k n (m + 9600) a' F' ∧ num n a' = num n a - N ∧ tidy n a' ∧ aS a' = aS a := by
  obtain ⟨r, w, q⟩ := h
  have hlt : num n a < 10 ^ n := num_lt n ht
  obtain ⟨F1, f1, r1, q1⟩ := keepBeads_s r q
  obtain ⟨F2, f2, r2, k2⟩ := offX_s (Hb := Hb) (p0 := p0) r w (by omega) (N := N) (by omega) ht hN f1 r1
  obtain ⟨s1, s2, s3, s4, s5⟩ := takes_fit w ht hN
  obtain ⟨p1, p2⟩ := pushes_s s5 s4 (by omega)
  rw [p1] at f2
  exact ⟨_, F2, _, f2, p2, ⟨r2, s4, by rw [k2]; exact q1⟩, s1, s2, s3⟩
theorem divR {k n m d : Nat} {a : AS} {F : FR} {Hb : HB} {p0 : Int32} (h : Fr k n m a F) (hm : m + 30000 < 2 ^ 21) (ht : tidy n a) (hd0 : 0 < d) (hd : d ≤ 9) :
    ∃ a' F', f_X2_divide Hb F p0 (nI d) = some (nI (num n a % d), F') ∧ Fr k n (m + 800) a' F' ∧ num n a' = num n a / d ∧ tidy n a' ∧ aS a' = aS a := by
  obtain ⟨r, w, q⟩ := h
  obtain ⟨F1, f1, r1, q1⟩ := keepBeads_s r q
  obtain ⟨F2, f2, r2, k2⟩ := divideX_s (Hb := Hb) (p0 := p0) w (by omega) hd0 hd f1 r1
  obtain ⟨s1, s2, s3, s4, s5⟩ := div_fit w ht hd0 hd
  rw [s1] at f2
  exact ⟨_, F2, f2, ⟨r2, s5, by rw [k2]; exact q1⟩, s2, s3, s4⟩
theorem timesR {k n m d : Nat} {a : AS} {F : FR} {Hb : HB} {p0 : Int32} (h : Fr k n m a F) (hm : m + 30000 < 2 ^ 21) (ht : tidy n a) (hd0 : 0 < d) (hd : d ≤ 9) (hN : d * num n a < 10 ^ n) :
    ∃ a' F', f_X2_times Hb F p0 (nI d) = some (0, F') ∧ Fr k n (m + 20000) a' F' ∧ num n a' = d * num n a ∧ tidy n a' ∧ aS a' = aS a := by
  obtain ⟨r, w, q⟩ := h
  have hn := w.2.2.1
  obtain ⟨F1, f1, r1, q1⟩ := keepBeads_s r q
  obtain ⟨F2, f2, r2, k2⟩ := timesX_s (Hb := Hb) (p0 := p0) r w (by omega) hd f1 r1
  obtain ⟨s1, s2, s3⟩ := mul_fit w ht hd0 hd hN
  have s4 := mul_wf hd n m a w (Nat.le_refl _)
  rw [s2, nI_sub0] at f2
  exact ⟨_, F2, f2, ⟨r2, wf_mono s4 (by omega), by rw [k2]; exact q1⟩, s1, s3, s2⟩
theorem rightR {k n m : Nat} {a : AS} {F : FR} {Hb : HB} {p0 : Int32} (h : Fr k n m a F) (hm : m + 30000 < 2 ^ 21) (ht : tidy n a) :
    ∃ a' F', f_X2_shift Hb F p0 0 = some (nI (num n a % 10), F') ∧ Fr k n (m + 1000) a' F' ∧ num n a' = num n a / 10 ∧ tidy n a' ∧ aV a' (n - 1) = 0 ∧ aS a' = aS a := by
  obtain ⟨r, w, q⟩ := h
  obtain ⟨F1, f1, r1, q1⟩ := keepBeads_s r q
  obtain ⟨F2, f2, r2, k2⟩ := rightX_s (Hb := Hb) (p0 := p0) w (by omega) f1 r1
  obtain ⟨s1, s2, s3, s4, s5⟩ := right_fit w ht
  rw [s2] at f2
  exact ⟨_, F2, f2, ⟨r2, aRight_wf w, by rw [k2]; exact q1⟩, s1, s3, s4, s5⟩
theorem leftR {k n m : Nat} {a : AS} {F : FR} {Hb : HB} {p0 : Int32} (h : Fr k n m a F) (hm : m + 30000 < 2 ^ 21) (hz : aV a (n - 1) = 0) :
    ∃ a' F', f_X2_shift Hb F p0 1 = some (0, F') ∧ Fr k n (m + 1000) a' F' ∧ num n a' = 10 * num n a ∧ aS a' = aS a := by
  obtain ⟨r, w, q⟩ := h
  obtain ⟨F1, f1, r1, q1⟩ := keepBeads_s r q
  obtain ⟨F2, f2, r2, k2⟩ := leftX_s (Hb := Hb) (p0 := p0) w (by omega) f1 r1
  obtain ⟨s1, s2⟩ := left_fit w hz
  rw [hz] at f2
  exact ⟨_, F2, f2, ⟨r2, aLeft_wf w, by rw [k2]; exact q1⟩, s1, s2⟩
theorem showR {k n m k2 n2 m2 : Nat} {a b : AS} {F G : FR} {Hb : HB} {p0 p1 : Int32} (h : Fr k n m a F) (g : Fr k2 n2 m2 b G) (hm : m2 + 30000 < 2 ^ 21) (hN : num n a < 10 ^ n2) :
    ∃ b' G' x, f_X2_show Hb F G p0 p1 = some (nI x, G') ∧ x < 2 ^ 21 ∧ Fr k2 n2 (m2 + 800) b' G' ∧ num n2 b' = num n a ∧ tidy n2 b' ∧ aS b' = aS b := by
  obtain ⟨r, w, q⟩ := h
  obtain ⟨gr, gw, gq⟩ := g
  obtain ⟨F1, f1, r1, q1⟩ := keepBeads_s gr gq
  obtain ⟨F2, f2, r2, kq⟩ := showX_s (Hb := Hb) (p0 := p0) (p1 := p1) r w gr gw (by omega) hN f1 r1
  obtain ⟨s1, s2, s3, s4⟩ := sets_ok (N := num n a) gw hN
  obtain ⟨p1, p2⟩ := pushes_s (mo_sets (k := k2) (N := num n a) n2 b) s4 (by omega)
  rw [p1] at f2
  exact ⟨_, F2, _, f2, p2, ⟨r2, s4, by rw [kq]; exact q1⟩, s1, s2, s3⟩
theorem numberR {k n m : Nat} {a : AS} {F : FR} {Hb : HB} {p0 : Int32} (h : Fr k n m a F) : f_X2_number Hb F p0 = some (lN (num n a)) := by
  rw [f_X2_number, show f_X2_foundFrame Hb p0 = some () from rfl, obd_s, shown_s h.1 h.2.1, obd_s]
theorem many4 {k n m k2 n2 m2 : Nat} {a b : AS} {F G : FR} {Hb : HB} (h : Fr k n m a F) (g : Fr k2 n2 m2 b G) (e : num n a = num n2 b) : f_X2_many Hb F G 4 = some 1 := by
  rw [f_X2_many, show f_X2_refuseUnlessBelow 4 5 = some () from rfl, obd_s, f_X2_factOfHall, if_neg (by decide), if_neg (by decide), if_neg (by decide), if_neg (by decide), f_X2_pairsThatShowTheSame, shown_s h.1 h.2.1, obd_s, shown_s g.1 g.2.1, obd_s, bnd_k, if_pos ((lg_cmp_eq _ _).mpr (by rw [e])), obd_s, obd_s]
theorem many3 {k n m k2 n2 m2 : Nat} {a b : AS} {F G : FR} {Hb : HB} (h : Fr k n m a F) (g : Fr k2 n2 m2 b G) : f_X2_many Hb F G 3 = some (0 + nI (aS a) + nI (aS b)) := by
  rw [f_X2_many, show f_X2_refuseUnlessBelow 3 5 = some () from rfl, obd_s, f_X2_factOfHall, if_neg (by decide), if_neg (by decide), if_neg (by decide), if_pos rfl, f_X2_spilledByAll, bnd_k, bnd_k, h.1.2.2.2.2.2.2.2.2.2.2, g.1.2.2.2.2.2.2.2.2.2.2, obd_s, obd_s]
theorem toget_s {L k1 n1 k2 n2 m e : Nat} {xs : Nat → Int32} {a b : AS} {F G : FR} {T : TD} {Hb : HB} (hL : L ≤ 260) (h : Fr k1 n1 m a F) (g : Fr k2 n2 m b G) (hm : m + 100000 < 2 ^ 21) (hd : tDr T = nI e) (he : e + 100 < 2 ^ 20) :
    ∃ F' G' a' b' e', f_L_isTogether L xs T Hb F G = some (1, stDr T (nI e'), F', G') ∧ Fr k1 n1 (m + 60000) a' F' ∧ Fr k2 n2 (m + 60000) b' G' ∧ e' ≤ e + 10 := by
  have p1 : 10 ^ 2 ≤ 10 ^ n1 := Nat.pow_le_pow_right (by decide) h.2.1.2.1
  have p2 : 10 ^ 2 ≤ 10 ^ n2 := Nat.pow_le_pow_right (by decide) g.2.1.2.1
  obtain ⟨a1, F1, x1, e1, l1, r1, n1e, t1, s1⟩ := clearR (Hb := Hb) (p0 := 0) h (by omega)
  obtain ⟨b1, G1, y1, d1, j1, q1, m1, u1, v1⟩ := clearR (Hb := Hb) (p0 := 1) g (by omega)
  have c4a := many4 (Hb := Hb) r1 q1 (n1e.trans m1.symm)
  have c3a := many3 (Hb := Hb) r1 q1
  obtain ⟨N, hN, w1⟩ := draw_s (L := L) (xs := xs) hL hd (by omega) (p := 90) (by decide) (by decide)
  have w1 : f_X3_draw L xs T 90 = some (nI N, stDr T (nI (e + 1))) := w1
  obtain ⟨q, hq, w2⟩ := draw_s (L := L) (xs := xs) hL (T := stDr T (nI (e + 1))) (e := e + 1) rfl (by omega) (p := 8) (by decide) (by decide)
  have w2 : f_X3_draw L xs (stDr T (nI (e + 1))) 8 = some (nI q, stDr T (nI (e + 1 + 1))) := w2
  obtain ⟨z, hz, w3⟩ := draw_s (L := L) (xs := xs) hL (T := stDr T (nI (e + 1 + 1))) (e := e + 1 + 1) rfl (by omega) (p := N + 1) (by omega) (by omega)
  have w3 : f_X3_draw L xs (stDr T (nI (e + 1 + 1))) (nI (N + 1)) = some (nI z, stDr T (nI (e + 1 + 1 + 1))) := w3
  obtain ⟨a2, F2, x2, e2, l2, r2, n2e, t2, s2⟩ := addR (Hb := Hb) (p0 := 0) (N := N) r1 (by omega) t1 (by omega)
  obtain ⟨a3, F3, x3, e3, l3, r3, n3e, t3, s3⟩ := offR (Hb := Hb) (p0 := 0) (N := z) r2 (by omega) t2 (by omega)
  obtain ⟨b2, G2, y2, d2, j2, q2, m2, u2, v2⟩ := addR (Hb := Hb) (p0 := 1) (N := N) q1 (by omega) u1 (by omega)
  obtain ⟨b3, G3, y3, d3, j3, q3, m3, u3, v3⟩ := offR (Hb := Hb) (p0 := 1) (N := z) q2 (by omega) u2 (by omega)
  have na3 : num n1 a3 = N - z := by omega
  have nb3 : num n2 b3 = N - z := by omega
  have c5 := numberR (Hb := Hb) (p0 := 0) r3
  have c6 := numberR (Hb := Hb) (p0 := 1) q3
  rw [na3] at c5
  rw [nb3] at c6
  obtain ⟨a4, F4, e4, r4, n4e, t4, s4⟩ := divR (Hb := Hb) (p0 := 0) (d := 2 + q) r3 (by omega) t3 (by omega) (by omega)
  obtain ⟨b4, G4, d4, q4, m4, u4, v4⟩ := divR (Hb := Hb) (p0 := 1) (d := 2 + q) q3 (by omega) u3 (by omega) (by omega)
  rw [na3] at e4 n4e
  rw [nb3] at d4 m4
  have c7 := numberR (Hb := Hb) (p0 := 0) r4
  rw [n4e] at c7
  have c4b := many4 (Hb := Hb) r4 q4 (n4e.trans m4.symm)
  have c3b := many3 (Hb := Hb) r4 q4
  have hdm := Nat.div_add_mod (N - z) (2 + q)
  obtain ⟨a5, F5, e5, r5, n5e, t5, s5⟩ := timesR (Hb := Hb) (p0 := 0) (d := 2 + q) r4 (by omega) t4 (by omega) (by omega) (by rw [n4e]; omega)
  rw [n4e] at n5e
  obtain ⟨a6, F6, x6, e6, l6, r6, n6e, t6, s6⟩ := addR (Hb := Hb) (p0 := 0) (N := (N - z) % (2 + q)) r5 (by omega) t5 (by rw [n5e]; omega)
  have na6 : num n1 a6 = N - z := by omega
  have c8 := numberR (Hb := Hb) (p0 := 0) r6
  rw [na6] at c8
  obtain ⟨b5, G5, y5, d5, j5, q5, m5, u5, v5⟩ := showR (Hb := Hb) (p0 := 0) (p1 := 1) r6 q4 (by omega) (by omega)
  have c4c := many4 (Hb := Hb) r6 q5 m5.symm
  obtain ⟨a7, F7, e7, r7, n7e, t7, z7, s7⟩ := rightR (Hb := Hb) (p0 := 0) r6 (by omega) t6
  rw [na6] at e7 n7e
  have c9 := numberR (Hb := Hb) (p0 := 0) r7
  rw [n7e] at c9
  obtain ⟨a8, F8, e8, r8, n8e, s8⟩ := leftR (Hb := Hb) (p0 := 0) r7 (by omega) z7
  have c10 := numberR (Hb := Hb) (p0 := 0) r8
  rw [n8e, n7e] at c10
  have c3c := many3 (Hb := Hb) r8 q5
  have sA : aS a4 = aS a1 := s4.trans (s3.trans s2)
  have sB : aS b4 = aS b1 := v4.trans (v3.trans v2)
  have sA8 : aS a8 = aS a1 := s8.trans (s7.trans (s6.trans (s5.trans sA)))
  have sB5 : aS b5 = aS b1 := v5.trans sB
  rw [sA, sB] at c3b
  rw [sA8, sB5] at c3c
  have hX : nI N - nI z = nI (N - z) := nI_subN (by omega)
  have nz : nz32 (nI (2 + q)) = true := by
    unfold nz32
    rw [decide_eq_true_iff]
    exact nI_ne0 (by omega) (by omega)
  have lc : ∀ x : Int64, lg_cmp x x = 0 := fun x => (lg_cmp_eq x x).mpr rfl
  refine ⟨F8, G5, a8, b5, e + 1 + 1 + 1, ?_, ⟨r8.1, wf_mono r8.2.1 (by omega), r8.2.2⟩, ⟨q5.1, wf_mono q5.2.1 (by omega), q5.2.2⟩, by omega⟩
  rw [f_L_isTogether, e1, obd_s, if_neg (lt0 (by omega)), d1, obd_s, if_neg (lt0 (by omega)), c4a, obd_s, if_pos rfl, w1, obd_s, w2, obd_s, bnd_k, show (2 : Int32) + nI q = nI (2 + q) from nI_add 2 q, c3a, obd_s, bnd_k, nI_1, w3, obd_s]
  dsimp only
  rw [e2, obd_s, if_neg (lt0 (by omega)), e3, obd_s, if_neg (lt0 (by omega))]
  dsimp only
  rw [c5, obd_s, bnd_k, hX, bnd_k, nI_l (by omega), bnd_k, if_pos (lc _)]
  rw [d2, obd_s, if_neg (lt0 (by omega)), d3, obd_s, if_neg (lt0 (by omega))]
  dsimp only
  rw [c6, obd_s, bnd_k, bnd_k, nI_l (by omega), bnd_k, if_pos (lc _)]
  rw [e4, obd_s, d4, obd_s, if_pos rfl, bnd_k, nz, gd_t, bnd_k, pk_rem (by omega) (by omega) (by omega), if_pos rfl]
  dsimp only
  rw [c7, obd_s, bnd_k, gd_t, bnd_k, pk_div (by omega) (by omega) (by omega), bnd_k, nI_l (Nat.lt_of_le_of_lt (Nat.div_le_self _ _) (by omega)), bnd_k, if_pos (lc _)]
  rw [c4b, obd_s, if_pos rfl, c3b, obd_s, if_pos rfl, e5, obd_s, if_pos rfl]
  dsimp only
  rw [e6, obd_s, if_neg (lt0 (by omega))]
  dsimp only
  rw [c8, obd_s, bnd_k, bnd_k, nI_l (by omega), bnd_k, if_pos (lc _)]
  rw [d5, obd_s, if_neg (lt0 (by omega))]
  dsimp only
  rw [c4c, obd_s, if_pos rfl, e7, obd_s, bnd_k, bnd_k, show nI (N - z) - nI (N - z) / 10 * 10 = nI ((N - z) % 10) from pk_rem (d := 10) (by omega) (by decide) (by decide), if_pos rfl]
  dsimp only
  rw [c9, obd_s, bnd_k, bnd_k, show nI (N - z) / 10 = nI ((N - z) / 10) from pk_div (d := 10) (by omega) (by decide) (by decide), bnd_k, nI_l (by omega), bnd_k, if_pos (lc _)]
  rw [e8, obd_s, if_pos rfl]
  dsimp only
  rw [c3c, obd_s, if_pos rfl, c10, obd_s, bnd_k, bnd_k, bnd_k, show nI (N - z) / 10 = nI ((N - z) / 10) from pk_div (d := 10) (by omega) (by decide) (by decide), show nI ((N - z) / 10) * 10 = nI (10 * ((N - z) / 10)) from by rw [Nat.mul_comm]; exact nI_mul _ 10, bnd_k, nI_l (by omega), bnd_k, if_pos (lc _)]
