-- the pure level, 18: the teller divides, multiplies, tidies, sets, pushes
theorem divT_l {L k n lr d : Nat} {xs : Nat → Int32} {R1 : HB} {R2 : FR} {R3 : KO} (hd0 : 0 < d) (hd : d ≤ 9) (kk : Int32 → Int32 → TD → Option (Int32 × TD × FR × KO)) : ∀ (j g m rest : Nat) (a : AS) (T : TD), trep k n a T → wf k n m a → j ≤ n → j < g → rest < d →
    ∃ T', l_X3_divide_23 (nI d) R1 R2 R3 L xs lr kk g (nI rest) (zI j) T = kk (nI (aDiv k d j rest a).1) (zI 0) T' ∧ trep k n (aDiv k d j rest a).2 T' ∧ tkp T' = tkp T := by
  intro j
  induction j with
  | zero =>
    intro g m rest a T h hw hj hg hr
    obtain ⟨g, rfl⟩ : ∃ g', g = g' + 1 := ⟨g - 1, by omega⟩
    rw [l_X3_divide_23, if_pos zI_0]
    exact ⟨T, rfl, h, rfl⟩
  | succ j ih =>
    intro g m rest a T h hw hj hg hr
    obtain ⟨g, rfl⟩ : ∃ g', g = g' + 1 := ⟨g - 1, by omega⟩
    have hn := hw.2.2.1
    have g3 := V_lt hw (show j < 8 by omega)
    have hq := div_most hw.1 (aV_le hw (show j < 8 by omega)) hr hd
    have nz : nz32 (nI d) = true := by
      unfold nz32
      rw [decide_eq_true_iff]
      exact nI_ne0 hd0 (by omega)
    obtain ⟨T1, f1, r1, k1⟩ := setT_s h hw (r := j) (v := (10 * rest + aV a j) / d) (by omega) hq
    rw [l_X3_divide_23, zI_s, if_neg (lt0 (by omega)), bnd_k, value_s h hn (by omega), obd_s, bnd_k, nz, gd_t, bnd_k, show (10 : Int32) * nI rest = nI (10 * rest) from nI_mul 10 rest, nI_add, pk_div (by omega) hd0 (by omega), f1, obd_s, gd_t, bnd_k, bnd_k, bnd_k, bnd_k, zI_m]
    rw [show nI (10 * rest + aV a j) - nI ((10 * rest + aV a j) / d) * nI d = nI ((10 * rest + aV a j) % d) by
      rw [← pk_div (a := 10 * rest + aV a j) (d := d) (by omega) hd0 (by omega)]
      exact pk_rem (by omega) hd0 (by omega)]
    obtain ⟨T2, f2, r2, k2⟩ := ih g (m + 100) ((10 * rest + aV a j) % d) _ T1 r1 (aSet_wf hw (by omega) hq) (by omega) (by omega) (Nat.mod_lt _ hd0)
    exact ⟨T2, f2, r2, k2.trans k1⟩
theorem divideT_s {L k n m e c : Nat} {xs : Nat → Int32} {nu : Int32} {a : AS} {T : TD} {Hb : HB} {F : FR} {K : KO} (hL : L ≤ 260) (h : rep k n a F) (t : trep k n a T) (hw : wf k n m a) (hm : m + 100000 < 2 ^ 21) (hq : keptJ k n K (kpt F)) (hc : K.length ≤ c) (hc1 : c < 11) (hd : tDr T = nI e) (he : e + 100 < 2 ^ 20) (hu : tNu T = nu) : Ok k n (m + 25000) (e + 40) nu (c + 1) (f_X3_divide L xs (2 * n) T Hb F K) := by
  have hn := hw.2.2.1
  obtain ⟨q, hq9, eq⟩ := draw_s (L := L) (xs := xs) hL hd (by omega) (p := 9) (by decide) (by decide)
  have eq : f_X3_draw L xs T 9 = some (nI q, stDr T (nI (e + 1))) := eq
  have t1 : trep k n a (stDr T (nI (e + 1))) := t
  obtain ⟨row, F1, f2, f3, r1, q1⟩ := keep2_s h t1 hw hq (by omega)
  obtain ⟨F2, f5, r2, q2⟩ := divideX_s (Hb := Hb) (p0 := tNu T) (d := 1 + q) hw (by omega) (by omega) (by omega) f3 r1
  rw [f_X3_divide, eq, obd_s, bnd_k, show (1 : Int32) + nI q = nI (1 + q) from nI_add 1 q, f2, obd_s, bnd_k, t1.2.1]
  obtain ⟨T2, f4, t2, k2⟩ := divT_l (L := L) (lr := 2 * n) (xs := xs) (d := 1 + q) (R1 := Hb) (R2 := F) (R3 := K ++ [row]) (by omega) (by omega) (fun (a40 : Int32) (a41 : Int32) (F42 : TD) => gd (gdec ((tNu F42) = (tNu T))) <| obd (f_X2_divide Hb F (tNu T) (nI (1 + q))) fun x44 => if x44.1 = a40 then (some (1, F42, x44.2, K ++ [row])) else (some (0, F42, x44.2, K ++ [row]))) n 16 m 0 a _ t1 hw (Nat.le_refl _) (by omega) (by omega)
  rw [nI_0] at f4
  refine ⟨T2, F2, K ++ [row], Eq.trans f4 ?_, _, e + 1, r2, t2, wf_mono (div_wf (by omega) (by omega) n m 0 a hw (Nat.le_refl _) (by omega)) (by omega), by rw [q2]; exact q1, by rw [List.length_append]; exact Nat.add_le_add_right hc 1, tk1 k2, by omega, (tk2 k2).trans hu⟩
  rw [gdec_t (tk2 k2), gd_t, f5, obd_s, if_pos rfl]
theorem mulT3 {L k n m lr j v d : Nat} {xs : Nat → Int32} {c1 c2 : Int32} {R1 : HB} {R2 : FR} {R3 : KO} {R4 : Nat → Int32} {a : AS} {T : TD} (h4 : ∀ r, r < 3 → R4 r = nI (v * d / 10 ^ r % 10)) (kk : Int32 → TD → Option (Int32 × TD × FR × KO)) (h : trep k n a T) (hw : wf k n m a) (hj : j < 8) (hp : v * d ≤ 135) :
    ∃ T', l_X3_times_53 c1 c2 (nI j) R1 R2 R3 R4 3 L xs lr kk 16 0 T = kk 3 T' ∧ trep k n (aBring k (n - (j + 2)) (j + 2) (v * d / 100) (aBring k (n - (j + 1)) (j + 1) (v * d / 10 % 10) (aBring k (n - j) j (v * d % 10) a))) T' ∧ tkp T' = tkp T := by
  obtain ⟨T1, f1, r1, k1⟩ := bringT_s h hw (i := j) (more := v * d % 10) (by omega) (by omega)
  have w1 := bring_wf (i := j) (more := v * d % 10) hw (by omega)
  obtain ⟨T2, f2, r2, k2⟩ := bringT_s r1 w1 (i := j + 1) (more := v * d / 10 % 10) (by omega) (by omega)
  have w2 := bring_wf (i := j + 1) (more := v * d / 10 % 10) w1 (by omega)
  obtain ⟨T3, f3, r3, k3⟩ := bringT_s r2 w2 (i := j + 2) (more := v * d / 100) (by omega) (by omega)
  have e0 : R4 0 = nI (v * d % 10) := by
    rw [h4 0 (by decide), Nat.pow_zero, Nat.div_one]
  have e1 : R4 1 = nI (v * d / 10 % 10) := by
    rw [h4 1 (by decide)]
  have e2 : R4 2 = nI (v * d / 100) := by
    rw [h4 2 (by decide)]
    congr 1
    show v * d / 100 % 10 = _
    omega
  rw [l_X3_times_53, if_neg (by decide), bnd_k, Int32.add_zero, show gin 0 3 = true by decide, gd_t, bnd_k, z5_0, e0, f1, obd_s, bnd_k, show (0 : Int32) + 1 = 1 by decide]
  rw [l_X3_times_53, if_neg (by decide), bnd_k, nI_1, show gin 1 3 = true by decide, gd_t, bnd_k, show Int32.toNatClampNeg 1 = 1 by decide, e1, f2, obd_s, bnd_k, show (1 : Int32) + 1 = 2 by decide]
  rw [l_X3_times_53, if_neg (by decide), bnd_k, show nI j + 2 = nI (j + 2) from nI_add j 2, show gin 2 3 = true by decide, gd_t, bnd_k, cl2, e2, f3, obd_s, bnd_k, show (2 : Int32) + 1 = 3 by decide]
  rw [l_X3_times_53, if_pos (by decide)]
  exact ⟨T3, rfl, r3, k3.trans (k2.trans k1)⟩
theorem mulT_l {L k n lr d : Nat} {xs : Nat → Int32} {c2 : Int32} {R1 : HB} {R2 : FR} {R3 : KO} (hd : d ≤ 9) (kk : Int32 → TD → Option (Int32 × TD × FR × KO)) : ∀ (j g m : Nat) (a : AS) (T : TD), trep k n a T → wf k n m a → j ≤ n → j < g →
    ∃ T', l_X3_times_26 (nI d) c2 R1 R2 R3 L xs lr kk g (zI j) T = kk (zI 0) T' ∧ trep k n (aMul k n d j a) T' ∧ tkp T' = tkp T := by
  intro j
  induction j with
  | zero =>
    intro g m a T h hw hj hg
    obtain ⟨g, rfl⟩ : ∃ g', g = g' + 1 := ⟨g - 1, by omega⟩
    rw [l_X3_times_26, if_pos zI_0]
    exact ⟨T, rfl, h, rfl⟩
  | succ j ih =>
    intro g m a T h hw hj hg
    obtain ⟨g, rfl⟩ : ∃ g', g = g' + 1 := ⟨g - 1, by omega⟩
    have hn := hw.2.2.1
    have g3 := V_lt hw (show j < 8 by omega)
    have hm2 := most_ge hw.1
    have hp := mul15 g3 hd
    obtain ⟨A, hA1, hA2⟩ := digitsT_s (n := 3) (N := aV a j * d) (by omega) (by omega)
    have hA1 : f_X3_digits (lN (aV a j * d)) 3 = some A := hA1
    obtain ⟨T1, f1, r1, k1⟩ := setT_s h hw (r := j) (v := 0) (by omega) (by omega)
    have w1 := aSet_wf hw (r := j) (v := 0) (by omega) (by omega)
    rw [l_X3_times_26, zI_s, if_neg (lt0 (by omega)), value_s h hn (by omega), obd_s, bnd_k, nI_mul, Nat.mul_comm d, bnd_k, nI_l (by omega), hA1, obd_s, show f_X3_set T (nI j) 0 = some T1 from f1, obd_s]
    obtain ⟨T2, f2, r2, k2⟩ := mulT3 (L := L) (lr := lr) (xs := xs) (c1 := nI d) (c2 := c2) (R1 := R1) (R2 := R2) (R3 := R3) (j := j) hA2 (fun (a35 : Int32) (F36 : TD) => bnd (nI j + (-1)) fun (v37 : Int32) => l_X3_times_26 (nI d) c2 R1 R2 R3 L xs lr kk g v37 F36) r1 w1 (by omega) hp
    obtain ⟨T3, f3, r3, k3⟩ := ih g (m + 2500) _ T2 r2 (aMul_step_wf hw (by omega) hd) (by omega) (by omega)
    refine ⟨T3, Eq.trans f2 ?_, r3, k3.trans (k2.trans k1)⟩
    rw [bnd_k, zI_m]
    exact f3
theorem timesT_s {L k n m e c : Nat} {xs : Nat → Int32} {nu : Int32} {a : AS} {T : TD} {Hb : HB} {F : FR} {K : KO} (hL : L ≤ 260) (h : rep k n a F) (t : trep k n a T) (hw : wf k n m a) (hm : m + 100000 < 2 ^ 21) (hq : keptJ k n K (kpt F)) (hc : K.length ≤ c) (hc1 : c < 11) (hd : tDr T = nI e) (he : e + 100 < 2 ^ 20) (hu : tNu T = nu) : Ok k n (m + 25000) (e + 40) nu (c + 1) (f_X3_times L xs (2 * n) T Hb F K) := by
  have hn := hw.2.2.1
  obtain ⟨q, hq9, eq⟩ := draw_s (L := L) (xs := xs) hL hd (by omega) (p := 10) (by decide) (by decide)
  have eq : f_X3_draw L xs T 10 = some (nI q, stDr T (nI (e + 1))) := eq
  have t1 : trep k n a (stDr T (nI (e + 1))) := t
  obtain ⟨row, F1, f2, f3, r1, q1⟩ := keep2_s h t1 hw hq (by omega)
  obtain ⟨F2, f5, r2, q2⟩ := timesX_s (Hb := Hb) (p0 := tNu T) (d := q) h hw (by omega) (by omega) f3 r1
  rw [f_X3_times, eq, obd_s, g45, gd_t, bnd_k, cl4, f2, obd_s, bnd_k, t1.2.1]
  obtain ⟨T2, f4, t2, k2⟩ := mulT_l (L := L) (lr := 2 * n) (xs := xs) (d := q) (c2 := tSm T 4) (R1 := Hb) (R2 := F) (R3 := K ++ [row]) (by omega) (fun (a62 : Int32) (F63 : TD) => gd (gdec ((tNu F63) = (tNu T))) <| obd (f_X2_times Hb F (tNu T) (nI q)) fun x65 => gd true <| bnd ((tSm F63) 4) fun (v67 : Int32) => bnd (v67 - tSm T 4) fun (v68 : Int32) => if x65.1 = v68 then (some (1, F63, x65.2, K ++ [row])) else (some (0, F63, x65.2, K ++ [row]))) n 16 m a _ t1 hw (Nat.le_refl _) (by omega)
  refine ⟨T2, F2, K ++ [row], Eq.trans f4 ?_, _, e + 1, r2, t2, wf_mono (mul_wf (by omega) n m a hw (Nat.le_refl _)) (by omega), by rw [q2]; exact q1, by rw [List.length_append]; exact Nat.add_le_add_right hc 1, tk1 k2, by omega, (tk2 k2).trans hu⟩
  rw [gdec_t (tk2 k2), gd_t, f5, obd_s, gd_t, bnd_k, bnd_k, t2.2.2.2.2.2.2.2, t.2.2.2.2.2.2.2, if_pos rfl]
theorem tidyT_l {L k n lr : Nat} {xs : Nat → Int32} {c1 : Int32} {R1 : HB} {R2 : FR} {R3 : KO} (kk : Int32 → TD → Option (Int32 × TD × FR × KO)) : ∀ (f i g m : Nat) (a : AS) (T : TD), trep k n a T → wf k n m a → i + f = n → f < g →
    ∃ T', l_X3_tidy_13 c1 R1 R2 R3 L xs lr kk g (nI i) T = kk (nI n) T' ∧ trep k n (aTidy k n f i a) T' ∧ tkp T' = tkp T := by
  intro f
  induction f with
  | zero =>
    intro i g m a T h hw hi hg
    obtain ⟨g, rfl⟩ : ∃ g', g = g' + 1 := ⟨g - 1, by omega⟩
    have hn := hw.2.2.1
    obtain rfl : i = n := by omega
    rw [l_X3_tidy_13, h.2.1, if_pos (nI_le (Nat.le_refl _) (by omega))]
    exact ⟨T, rfl, h, rfl⟩
  | succ f ih =>
    intro i g m a T h hw hi hg
    obtain ⟨g, rfl⟩ : ∃ g', g = g' + 1 := ⟨g - 1, by omega⟩
    have hn := hw.2.2.1
    obtain ⟨g1, g2⟩ := most_ge hw.1
    have g3 := V_lt hw (show i < 8 by omega)
    rw [l_X3_tidy_13, h.2.1, if_neg (nI_ge (by omega) (by omega)), value_s h hn (by omega), obd_s]
    unfold aTidy
    by_cases c9 : aV a i ≤ 9
    · rw [if_neg (show ¬ (10 : Int32) ≤ nI (aV a i) from nI_ge (b := 10) (by omega) (by decide)), if_pos c9, bnd_k, nI_1]
      exact ih (i + 1) g m a T h hw (by omega) (by omega)
    · obtain ⟨T1, f1, r1, k1⟩ := setT_s h hw (r := i) (v := aV a i - 10) (by omega) (by omega)
      have w1 := wf_ca (aSet_wf hw (r := i) (v := aV a i - 10) (by omega) (by omega))
      obtain ⟨T2, f2, r2, k2⟩ := bringT_s (trep_ca r1) w1 (i := i + 1) (more := 1) (by omega) (by omega)
      have w2 := bring_wf (i := i + 1) (more := 1) w1 (by omega)
      rw [if_pos (show (10 : Int32) ≤ nI (aV a i) from nI_le (a := 10) (by omega) (by omega)), if_neg c9, obd_s, bnd_k, show nI (aV a i) - 10 = nI (aV a i - 10) from nI_subN (b := 10) (by omega), f1, obd_s, g25, gd_t, bnd_k, bnd_k, gd_t, bnd_k, cl2, nI_1, show f_X3_bring (stSm T1 (upd (tSm T1) 2 (tSm T1 2 + 1))) (nI (i + 1)) 1 = some T2 from f2, obd_s, bnd_k]
      obtain ⟨T3, f3, r3, k3⟩ := ih (i + 1) g (m + 1000) _ T2 r2 (wf_mono w2 (by omega)) (by omega) (by omega)
      exact ⟨T3, f3, r3, k3.trans (k2.trans k1)⟩
theorem tidyT_s {L k n m e c : Nat} {xs : Nat → Int32} {nu : Int32} {a : AS} {T : TD} {Hb : HB} {F : FR} {K : KO} (h : rep k n a F) (t : trep k n a T) (hw : wf k n m a) (hm : m + 100000 < 2 ^ 21) (hq : keptJ k n K (kpt F)) (hc : K.length ≤ c) (hc1 : c < 11) (hd : tDr T = nI e) (hu : tNu T = nu) : Ok k n (m + 25000) (e + 40) nu (c + 1) (f_X3_tidy L xs (2 * n) T Hb F K) := by
  have hn := hw.2.2.1
  obtain ⟨row, F1, f2, f3, r1, q1⟩ := keep2_s h t hw hq (by omega)
  obtain ⟨F2, f5, r2, q2⟩ := tidyX_s (Hb := Hb) (p0 := tNu T) h hw (by omega) f3 r1
  obtain ⟨-, -, -, -, w2⟩ := tidyRods_s h hw (by omega)
  rw [f_X3_tidy, g25, gd_t, bnd_k, cl2, f2, obd_s]
  obtain ⟨T2, f4, t2, k2⟩ := tidyT_l (L := L) (lr := 2 * n) (xs := xs) (c1 := tSm T 2) (R1 := Hb) (R2 := F) (R3 := K ++ [row]) (fun (a40 : Int32) (F41 : TD) => gd (gdec ((tNu F41) = (tNu T))) <| obd (f_X2_tidy Hb F (tNu T)) fun x43 => gd true <| bnd ((tSm F41) 2) fun (v45 : Int32) => bnd (v45 - tSm T 2) fun (v46 : Int32) => if x43.1 = v46 then (some (1, F41, x43.2, K ++ [row])) else (some (0, F41, x43.2, K ++ [row]))) n 0 16 m a T t hw (by omega) (by omega)
  rw [nI_0] at f4
  refine ⟨T2, F2, K ++ [row], Eq.trans f4 ?_, _, e, r2, t2, wf_mono w2 (by omega), by rw [q2]; exact q1, by rw [List.length_append]; exact Nat.add_le_add_right hc 1, (tk1 k2).trans hd, by omega, (tk2 k2).trans hu⟩
  rw [gdec_t (tk2 k2), gd_t, f5, obd_s, gd_t, bnd_k, bnd_k, t2.2.2.2.2.2.1, t.2.2.2.2.2.1, if_pos rfl]
theorem most_s {k n : Nat} {a : AS} {T : TD} (t : trep k n a T) (hk : k < 3) : f_X3_most T = some (nI (5 * ABk k + BEk k)) := by
  rw [f_X3_most, ups_s t.1 hk, obd_s, bnd_k, downs_s t.1 hk, obd_s, bnd_k, show nI (ABk k) * 5 = nI (ABk k * 5) from nI_mul _ 5, nI_add, Nat.mul_comm]
theorem setsT_s {L k n m e c : Nat} {xs : Nat → Int32} {nu : Int32} {a : AS} {T : TD} {Hb : HB} {F : FR} {K : KO} (hL : L ≤ 260) (h : rep k n a F) (t : trep k n a T) (hw : wf k n m a) (hm : m + 100000 < 2 ^ 21) (hq : keptJ k n K (kpt F)) (hc : K.length ≤ c) (hc1 : c < 11) (hd : tDr T = nI e) (he : e + 100 < 2 ^ 20) (hu : tNu T = nu) : Ok k n (m + 25000) (e + 40) nu (c + 1) (f_X3_sets L xs (2 * n) T Hb F K) := by
  have hn := hw.2.2.1
  have hn2 := hw.2.1
  have hm2 := most_ge hw.1
  obtain ⟨r, hr, er⟩ := draw_s (L := L) (xs := xs) hL hd (by omega) (p := n) (by omega) (by omega)
  obtain ⟨v, hv, ev⟩ := draw_s (L := L) (xs := xs) hL (T := stDr T (nI (e + 1))) (e := e + 1) rfl (by omega) (p := 5 * ABk k + BEk k + 1) (by omega) (by omega)
  have ev : f_X3_draw L xs (stDr T (nI (e + 1))) (nI (5 * ABk k + BEk k + 1)) = some (nI v, stDr T (nI (e + 1 + 1))) := ev
  have t1 : trep k n a (stDr T (nI (e + 1))) := t
  have t2 : trep k n a (stDr T (nI (e + 1 + 1))) := t
  obtain ⟨row, F1, f2, f3, r1, q1⟩ := keep2_s h t2 hw hq (by omega)
  obtain ⟨F2, f5, r2, q2⟩ := setX_s (Hb := Hb) (p0 := tNu T) (r := r) (v := v) h hw (by omega) hr (by omega) f3 r1
  obtain ⟨T2, f4, t3, k2⟩ := setT_s t2 hw (r := r) (v := v) hr (by omega)
  rw [f_X3_sets, t.2.1, er, obd_s, most_s t1 hw.1, obd_s, bnd_k, nI_1, ev, obd_s, g05, gd_t, bnd_k, z5_0, f2, obd_s, f4, obd_s, gdec_t (tk2 k2), gd_t, f5, obd_s, gd_t, bnd_k, bnd_k, t3.2.2.2.1, t2.2.2.2.1, if_pos rfl]
  exact ⟨T2, F2, K ++ [row], rfl, _, e + 1 + 1, r2, t3, wf_mono (aSet_wf hw (by omega) (by omega)) (by omega), by rw [q2]; exact q1, by rw [List.length_append]; exact Nat.add_le_add_right hc 1, tk1 k2, by omega, (tk2 k2).trans hu⟩
