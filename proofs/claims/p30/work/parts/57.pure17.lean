-- the pure level, 17: the teller draws; the state of a frame and its teller
theorem and31 (v : Int32) : ∃ z, z < 2 ^ 31 ∧ v &&& 2147483647 = nI z := by
  refine ⟨v.toBitVec.toNat % 2 ^ 31, Nat.mod_lt _ (by decide), ?_⟩
  apply Int32.toBitVec_inj.mp
  apply BitVec.eq_of_toNat_eq
  rw [Int32.toBitVec_and, BitVec.toNat_and]
  show v.toBitVec.toNat &&& 2147483647 = (BitVec.ofNat 32 (v.toBitVec.toNat % 2 ^ 31)).toNat
  rw [BitVec.toNat_ofNat, show 2147483647 = 2 ^ 31 - 1 from rfl, Nat.and_two_pow_sub_one_eq_mod]
  omega
theorem below_s (v : Int32) {p : Nat} (h0 : 0 < p) (hp : p < 2 ^ 31) : ∃ r, r < p ∧ f_L_below v (nI p) = some (nI r) := by
  obtain ⟨z, hz, ez⟩ := and31 v
  refine ⟨z % p, Nat.mod_lt _ h0, ?_⟩
  have nz : nz32 (nI p) = true := by
    unfold nz32
    rw [decide_eq_true_iff]
    exact nI_ne0 h0 hp
  rw [f_L_below, bnd_k, ez, nz, gd_t, bnd_k, pk_rem hz h0 hp]
theorem cell_s {L c : Nat} (xs : Nat → Int32) (hL : L ≤ 260) (hc : c < 1000) : ∃ v, f_L_cell L xs (nI c) = some v := by
  rw [f_L_cell]
  by_cases h : L ≤ c
  · rw [if_pos (show Int32.ofNat L ≤ nI c from nI_le h (by omega))]
    exact ⟨_, rfl⟩
  · rw [if_neg (show ¬ Int32.ofNat L ≤ nI c from nI_ge (by omega) (by omega)), gin_nI (by omega) (by omega)]
    exact ⟨_, rfl⟩
theorem draw_s {L : Nat} {xs : Nat → Int32} (hL : L ≤ 260) {T : TD} {e p : Nat} (hd : tDr T = nI e) (he : e < 2 ^ 20) (h0 : 0 < p) (hp : p < 2 ^ 31) : ∃ r, r < p ∧ f_X3_draw L xs T (nI p) = some (nI r, stDr T (nI (e + 1))) := by
  obtain ⟨v, hv⟩ := cell_s xs hL (c := e % 24) (by omega)
  have key : ∀ w : Int32, ∃ r, r < p ∧ obd (f_L_below w (nI p)) (fun x11 => bnd (nI e + 1) fun (v12 : Int32) => some (x11, stDr T v12)) = some (nI r, stDr T (nI (e + 1))) := by
    intro w
    obtain ⟨r, hr, er⟩ := below_s w h0 hp
    refine ⟨r, hr, ?_⟩
    rw [er, obd_s, bnd_k, nI_1]
  rw [f_X3_draw, hd, bnd_k, show nI e - nI e / 24 * 24 = nI (e % 24) from pk_rem (d := 24) (by omega) (by decide) (by decide), hv, obd_s]
  exact key _
theorem some_l {L c : Nat} {xs : Nat → Int32} {T : TD} (hL : L ≤ 260) (hc : c ≤ 8) : ∀ (j i g A e : Nat), A < 10 ^ i → i + j = c → e + 2 * j < 2 ^ 20 → j < g →
    ∃ N e', l_X3_some_16 (nI c) L xs (fun (a32 : Int32) (a33 : Int32) (F34 : TD) => some (a32, F34)) g (nI A) (nI i) (stDr T (nI e)) = some (nI N, stDr T (nI e')) ∧ N < 10 ^ c ∧ e' ≤ e + 2 * j := by
  intro j
  induction j with
  | zero =>
    intro i g A e hA hi he hg
    obtain ⟨g, rfl⟩ : ∃ g', g = g' + 1 := ⟨g - 1, by omega⟩
    obtain rfl : i = c := by omega
    rw [l_X3_some_16, if_pos (nI_le (Nat.le_refl _) (by omega))]
    exact ⟨A, e, rfl, hA, by omega⟩
  | succ j ih =>
    intro i g A e hA hi he hg
    obtain ⟨g, rfl⟩ : ∃ g', g = g' + 1 := ⟨g - 1, by omega⟩
    obtain ⟨r, hr, er⟩ := draw_s (L := L) (xs := xs) hL (T := stDr T (nI e)) (e := e) (p := 3) rfl (by omega) (by decide) (by decide)
    have er : f_X3_draw L xs (stDr T (nI e)) 3 = some (nI r, stDr T (nI (e + 1))) := er
    rw [l_X3_some_16, if_neg (nI_ge (by omega) (by omega)), bnd_k, show (10 : Int32) * nI A = nI (10 * A) from nI_mul 10 A, er, obd_s]
    have e10 : 10 ^ (i + 1) = 10 ^ i * 10 := Nat.pow_succ ..
    by_cases c0 : nI r = 0
    · rw [if_pos c0]
      obtain ⟨q, hq, eq⟩ := draw_s (L := L) (xs := xs) hL (T := stDr T (nI (e + 1))) (e := e + 1) (p := 3) rfl (by omega) (by decide) (by decide)
      have eq : f_X3_draw L xs (stDr T (nI (e + 1))) 3 = some (nI q, stDr T (nI (e + 1 + 1))) := eq
      rw [eq, obd_s, bnd_k, nI_add, bnd_k, nI_1]
      obtain ⟨N, e', f1, f2, f3⟩ := ih (i + 1) g (10 * A + q) (e + 1 + 1) (by omega) (by omega) (by omega) (by omega)
      exact ⟨N, e', f1, f2, by omega⟩
    · rw [if_neg c0]
      obtain ⟨q, hq, eq⟩ := draw_s (L := L) (xs := xs) hL (T := stDr T (nI (e + 1))) (e := e + 1) (p := 10) rfl (by omega) (by decide) (by decide)
      have eq : f_X3_draw L xs (stDr T (nI (e + 1))) 10 = some (nI q, stDr T (nI (e + 1 + 1))) := eq
      rw [eq, obd_s, bnd_k, nI_add, bnd_k, nI_1]
      obtain ⟨N, e', f1, f2, f3⟩ := ih (i + 1) g (10 * A + q) (e + 1 + 1) (by omega) (by omega) (by omega) (by omega)
      exact ⟨N, e', f1, f2, by omega⟩
theorem some_s {L n e : Nat} {xs : Nat → Int32} {T : TD} (hL : L ≤ 260) (hn0 : 0 < n) (hn : n ≤ 8) (hN : tN T = n) (hd : tDr T = nI e) (he : e + 17 < 2 ^ 20) : ∃ N e', f_X3_some L xs T = some (nI N, stDr T (nI e')) ∧ N < 10 ^ n ∧ e' ≤ e + 17 := by
  obtain ⟨r, hr, er⟩ := draw_s (L := L) (xs := xs) hL hd (by omega) hn0 (by omega)
  rw [f_X3_some, hN, er, obd_s, bnd_k, show (1 : Int32) + nI r = nI (1 + r) from nI_add 1 r]
  obtain ⟨N, e', f1, f2, f3⟩ := some_l (L := L) (xs := xs) (T := T) hL (c := 1 + r) (by omega) (1 + r) 0 16 0 (e + 1) (by decide) (by omega) (by omega) (by omega)
  exact ⟨N, e', f1, Nat.lt_of_lt_of_le f2 (Nat.pow_le_pow_right (by decide) (by omega)), by omega⟩
/-- the frame F and its teller T (with what it keeps) tell the same -/
def St (k n m d : Nat) (nu : Int32) (c : Nat) (T : TD) (F : FR) (K : KO) : Prop := ∃ a e, rep k n a F ∧ trep k n a T ∧ wf k n m a ∧ keptJ k n K (kpt F) ∧ K.length ≤ c ∧ tDr T = nI e ∧ e ≤ d ∧ tNu T = nu
def Ok (k n m d : Nat) (nu : Int32) (c : Nat) (r : Option (Int32 × TD × FR × KO)) : Prop := ∃ T F K, r = some (1, T, F, K) ∧ St k n m d nu c T F K
theorem z5_0 : Int32.toNatClampNeg 0 = 0 := by decide
theorem g05 : gin 0 5 = true := by decide
theorem tk1 {T S : TD} (h : tkp T = tkp S) : tDr T = tDr S := (Prod.mk.inj (show (tDr T, tNu T) = (tDr S, tNu S) from h)).1
theorem tk2 {T S : TD} (h : tkp T = tkp S) : tNu T = tNu S := (Prod.mk.inj (show (tDr T, tNu T) = (tDr S, tNu S) from h)).2
theorem adds_wf {k n m N : Nat} {a : AS} (hw : wf k n m a) : wf k n (m + 6400) (aAdds k n N n a) := by
  have hn := hw.2.2.1
  exact wf_mono (aAdds_wf hn n m a hw (Nat.le_refl _)) (by omega)
theorem sets_wf {k N : Nat} {n : Nat} : ∀ (j m : Nat) (a : AS), wf k n m a → j ≤ n → wf k n (m + 100 * j) (aSets k N j a) := by
  intro j
  induction j with
  | zero => intro m a h _; exact h
  | succ j ih =>
    intro m a h hj
    have hn := h.2.2.1
    have hm := most_ge h.1
    exact wf_mono (ih (m + 100) _ (aSet_wf h (r := j) (by omega) (by omega)) (by omega)) (by omega)
theorem div_wf {k n d : Nat} (hd0 : 0 < d) (hd : d ≤ 9) : ∀ (j m rest : Nat) (a : AS), wf k n m a → j ≤ n → rest < d → wf k n (m + 100 * j) (aDiv k d j rest a).2 := by
  intro j
  induction j with
  | zero => intro m rest a h _ _; exact h
  | succ j ih =>
    intro m rest a h hj hr
    have hn := h.2.2.1
    have hq := div_most h.1 (aV_le h (show j < 8 by omega)) hr hd
    exact wf_mono (ih (m + 100) _ _ (aSet_wf h (r := j) (by omega) hq) (by omega) (Nat.mod_lt _ hd0)) (by omega)
theorem mul_wf {k n d : Nat} (hd : d ≤ 9) : ∀ (j m : Nat) (a : AS), wf k n m a → j ≤ n → wf k n (m + 2500 * j) (aMul k n d j a) := by
  intro j
  induction j with
  | zero => intro m a h _; exact h
  | succ j ih =>
    intro m a h hj
    exact wf_mono (ih (m + 2500) _ (aMul_step_wf h (by omega) hd) (by omega)) (by omega)
theorem addT_s {L k n m e c : Nat} {xs : Nat → Int32} {nu : Int32} {a : AS} {T : TD} {Hb : HB} {F : FR} {K : KO} (hL : L ≤ 260) (h : rep k n a F) (t : trep k n a T) (hw : wf k n m a) (hm : m + 100000 < 2 ^ 21) (hq : keptJ k n K (kpt F)) (hc : K.length ≤ c) (hc1 : c < 11) (hd : tDr T = nI e) (he : e + 100 < 2 ^ 20) (hu : tNu T = nu) : Ok k n (m + 25000) (e + 40) nu (c + 1) (f_X3_add L xs (2 * n) T Hb F K) := by
  have hn := hw.2.2.1
  have hn2 := hw.2.1
  have hp := pow8 hn
  obtain ⟨N, e', f1, hN, he'⟩ := some_s (L := L) (xs := xs) hL (by omega) hn t.2.1 hd (by omega)
  have t1 : trep k n a (stDr T (nI e')) := t
  obtain ⟨row, F1, f2, f3, r1, q1⟩ := keep2_s h t1 hw hq (by omega)
  obtain ⟨T2, f4, t2, k2⟩ := adds_s t1 hw (N := N) (by omega)
  obtain ⟨F2, f5, r2, q2⟩ := addX_s (Hb := Hb) (p0 := tNu T) h hw (by omega) hN f3 r1
  rw [f_X3_add, f1, obd_s, g05, gd_t, bnd_k, f2, obd_s, f4, obd_s, gdec_t (tk2 k2), gd_t, f5, obd_s, gd_t, bnd_k, bnd_k, z5_0, t2.2.2.2.1, t1.2.2.2.1, if_pos rfl]
  refine ⟨T2, F2, K ++ [row], rfl, _, e', r2, t2, wf_mono (adds_wf hw) (by omega), by rw [q2]; exact q1, by rw [List.length_append]; exact Nat.add_le_add_right hc 1, tk1 k2, by omega, (tk2 k2).trans hu⟩
theorem clear_l {L k n lr : Nat} {xs : Nat → Int32} {c1 : Int32} {R1 : HB} {R2 : FR} {R3 : KO} (kk : Int32 → TD → Option (Int32 × TD × FR × KO)) : ∀ (j g m : Nat) (a : AS) (T : TD), trep k n a T → wf k n m a → j ≤ n → j < g →
    ∃ T', l_X3_clear_19 c1 R1 R2 R3 L xs lr kk g (zI j) T = kk (zI 0) T' ∧ trep k n (aSets k 0 j a) T' ∧ tkp T' = tkp T := by
  intro j
  induction j with
  | zero =>
    intro g m a T h hw hj hg
    obtain ⟨g, rfl⟩ : ∃ g', g = g' + 1 := ⟨g - 1, by omega⟩
    rw [l_X3_clear_19, if_pos zI_0]
    exact ⟨T, rfl, h, rfl⟩
  | succ j ih =>
    intro g m a T h hw hj hg
    obtain ⟨g, rfl⟩ : ∃ g', g = g' + 1 := ⟨g - 1, by omega⟩
    have hn := hw.2.2.1
    have hm := most_ge hw.1
    obtain ⟨T1, f1, r1, k1⟩ := setT_s h hw (r := j) (v := 0) (by omega) (by omega)
    rw [l_X3_clear_19, zI_s, if_neg (lt0 (by omega)), show f_X3_set T (nI j) 0 = some T1 from f1, obd_s, bnd_k, zI_m]
    obtain ⟨T2, f2, r2, k2⟩ := ih g (m + 100) _ T1 r1 (aSet_wf hw (by omega) (by omega)) (by omega) (by omega)
    refine ⟨T2, f2, ?_, k2.trans k1⟩
    show trep k n (aSets k 0 j (aSet k j (0 / 10 ^ j % 10) a)) T2
    rw [Nat.zero_div]
    exact r2
theorem clearT_s {L k n m e c : Nat} {xs : Nat → Int32} {nu : Int32} {a : AS} {T : TD} {Hb : HB} {F : FR} {K : KO} (h : rep k n a F) (t : trep k n a T) (hw : wf k n m a) (hm : m + 100000 < 2 ^ 21) (hq : keptJ k n K (kpt F)) (hc : K.length ≤ c) (hc1 : c < 11) (hd : tDr T = nI e) (hu : tNu T = nu) : Ok k n (m + 25000) (e + 40) nu (c + 1) (f_X3_clear L xs (2 * n) T Hb F K) := by
  have hn := hw.2.2.1
  obtain ⟨row, F1, f2, f3, r1, q1⟩ := keep2_s h t hw hq (by omega)
  obtain ⟨F2, f5, r2, q2⟩ := clearX_s (Hb := Hb) (p0 := tNu T) h hw (by omega) f3 r1
  rw [f_X3_clear, g05, gd_t, bnd_k, f2, obd_s, bnd_k, t.2.1]
  obtain ⟨T2, f4, t2, k2⟩ := clear_l (L := L) (lr := 2 * n) (xs := xs) (c1 := tSm T (Int32.toNatClampNeg 0)) (R1 := Hb) (R2 := F) (R3 := K ++ [row]) (fun (a19 : Int32) (F20 : TD) => gd (gdec ((tNu F20) = (tNu T))) <| obd (f_X2_clear Hb F (tNu T)) fun x22 => gd true <| bnd ((tSm F20) (Int32.toNatClampNeg 0)) fun (v24 : Int32) => bnd (v24 - (tSm T (Int32.toNatClampNeg 0))) fun (v25 : Int32) => if x22.1 = v25 then (some (1, F20, x22.2, K ++ [row])) else (some (0, F20, x22.2, K ++ [row]))) n 16 m a T t hw (Nat.le_refl _) (by omega)
  refine ⟨T2, F2, K ++ [row], Eq.trans f4 ?_, _, e, r2, t2, wf_mono (sets_wf n m a hw (Nat.le_refl _)) (by omega), by rw [q2]; exact q1, by rw [List.length_append]; exact Nat.add_le_add_right hc 1, (tk1 k2).trans hd, by omega, (tk2 k2).trans hu⟩
  rw [gdec_t (tk2 k2), gd_t, f5, obd_s, gd_t, bnd_k, bnd_k, z5_0, t2.2.2.2.1, t.2.2.2.1, if_pos rfl]
