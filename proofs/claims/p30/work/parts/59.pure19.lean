-- the pure level, 19: the teller pushes, greases, goes back, shifts
theorem stay {k n m m2 e e2 c : Nat} {nu : Int32} {a : AS} {T : TD} {F : FR} {K : KO} (h : rep k n a F) (t : trep k n a T) (hw : wf k n m a) (hm : m ≤ m2) (hq : keptJ k n K (kpt F)) (hc : K.length ≤ c) (hd : tDr T = nI e) (he : e ≤ e2) (hu : tNu T = nu) : Ok k n m2 e2 nu (c + 1) (some (1, T, F, K)) :=
  ⟨T, F, K, rfl, a, e, h, t, wf_mono hw hm, hq, Nat.le_succ_of_le hc, hd, he, hu⟩
/-- the teller's push below, behind its draws -/
theorem pushT_B {L k n m e c r x : Nat} {xs : Nat → Int32} {nu nu0 : Int32} {a : AS} {T : TD} {Hb : HB} {F : FR} {K : KO} (h : rep k n a F) (t : trep k n a T) (hw : wf k n m a) (hm : m + 100000 < 2 ^ 21) (hq : keptJ k n K (kpt F)) (hc : K.length ≤ c) (hc1 : c < 11) (hd : tDr T = nI e) (hu : tNu T = nu) (h0 : nu0 = nu) (hr : r < n) (hx : x ≤ BEk k) :
    Ok k n (m + 25000) e nu (c + 1) (if nI x = nI (aD a r) then (some (1, T, F, K)) else (obd (f_X3_keep (2 * n) T K) fun x10 => bnd (nI x - nI (aD a r)) fun (v13 : Int32) => obd (f_X3_moveB T (nI r) v13) fun x14 => gd (gdec ((tNu x14) = nu0)) <| bnd (nI x - nI (aD a r)) fun (v16 : Int32) => obd (f_X2_push Hb F nu0 (nI r) 0 v16) fun x17 => obd (f_X3_value x14 (nI r)) fun x18 => if x17.1 = x18 then (some (1, x14, x17.2, x10)) else (some (0, x14, x17.2, x10)))) := by
  have hn := hw.2.2.1
  have hB := BEk_le k
  have hd2 := (hw.2.2.2.1 r (by omega)).2
  have q := nI_eq (a := x) (b := aD a r) (by omega) (by omega)
  by_cases c0 : x = aD a r
  · rw [if_pos (q.mpr c0)]
    exact stay h t hw (by omega) hq hc hd (Nat.le_refl _) hu
  · obtain ⟨row, F1, f2, f3, r1, q1⟩ := keep2_s h t hw hq (by omega)
    obtain ⟨T2, f4, t2, k2⟩ := moveB_s t hn hr (x := x) (by omega) (by omega)
    obtain ⟨F2, f5, r2, q2⟩ := pushXB_s (Hb := Hb) (p0 := nu0) (r := r) (x := x) h hw (by omega) hr hx c0 f3 r1
    rw [if_neg (fun z => c0 (q.mp z)), f2, obd_s, bnd_k, f4, obd_s, gdec_t ((tk2 k2).trans (hu.trans h0.symm)), gd_t, bnd_k, f5, obd_s, value_s t2 hn hr, obd_s, if_pos rfl]
    exact ⟨T2, F2, K ++ [row], rfl, _, e, r2, t2, wf_mono (Pd_wf hw (by omega) hx) (by omega), by rw [q2]; exact q1, by rw [List.length_append]; exact Nat.add_le_add_right hc 1, (tk1 k2).trans hd, Nat.le_refl _, (tk2 k2).trans hu⟩
theorem pushT_A {L k n m e c r x : Nat} {xs : Nat → Int32} {nu nu0 : Int32} {a : AS} {T : TD} {Hb : HB} {F : FR} {K : KO} (h : rep k n a F) (t : trep k n a T) (hw : wf k n m a) (hm : m + 100000 < 2 ^ 21) (hq : keptJ k n K (kpt F)) (hc : K.length ≤ c) (hc1 : c < 11) (hd : tDr T = nI e) (hu : tNu T = nu) (h0 : nu0 = nu) (hr : r < n) (hx : x ≤ ABk k) :
    Ok k n (m + 25000) e nu (c + 1) (if nI x = nI (aU a r) then (some (1, T, F, K)) else (obd (f_X3_keep (2 * n) T K) fun x10 => bnd (nI x - nI (aU a r)) fun (v13 : Int32) => obd (f_X3_move T (nI r) v13) fun x14 => gd (gdec ((tNu x14) = nu0)) <| bnd (nI x - nI (aU a r)) fun (v16 : Int32) => obd (f_X2_push Hb F nu0 (nI r) 1 v16) fun x17 => obd (f_X3_value x14 (nI r)) fun x18 => if x17.1 = x18 then (some (1, x14, x17.2, x10)) else (some (0, x14, x17.2, x10)))) := by
  have hn := hw.2.2.1
  have hA := ABk_le k
  have hd2 := (hw.2.2.2.1 r (by omega)).1
  have q := nI_eq (a := x) (b := aU a r) (by omega) (by omega)
  by_cases c0 : x = aU a r
  · rw [if_pos (q.mpr c0)]
    exact stay h t hw (by omega) hq hc hd (Nat.le_refl _) hu
  · obtain ⟨row, F1, f2, f3, r1, q1⟩ := keep2_s h t hw hq (by omega)
    obtain ⟨T2, f4, t2, k2⟩ := moveA_s t hn hr (x := x) (by omega) (by omega)
    obtain ⟨F2, f5, r2, q2⟩ := pushXA_s (Hb := Hb) (p0 := nu0) (r := r) (x := x) h hw (by omega) hr hx c0 f3 r1
    rw [if_neg (fun z => c0 (q.mp z)), f2, obd_s, bnd_k, f4, obd_s, gdec_t ((tk2 k2).trans (hu.trans h0.symm)), gd_t, bnd_k, f5, obd_s, value_s t2 hn hr, obd_s, if_pos rfl]
    exact ⟨T2, F2, K ++ [row], rfl, _, e, r2, t2, wf_mono (Pu_wf hw (by omega) hx) (by omega), by rw [q2]; exact q1, by rw [List.length_append]; exact Nat.add_le_add_right hc 1, (tk1 k2).trans hd, Nat.le_refl _, (tk2 k2).trans hu⟩
theorem Ok.mono {k n m m2 d d2 c : Nat} {nu : Int32} {r : Option (Int32 × TD × FR × KO)} (h : Ok k n m d nu c r) (hm : m ≤ m2) (hd : d ≤ d2) : Ok k n m2 d2 nu c r := by
  obtain ⟨T, F, K, e, a, x, h1, h2, h3, h4, h5, h6, h7, h8⟩ := h
  exact ⟨T, F, K, e, a, x, h1, h2, wf_mono h3 hm, h4, h5, h6, Nat.le_trans h7 hd, h8⟩
theorem pushT_s {L k n m e c : Nat} {xs : Nat → Int32} {nu : Int32} {a : AS} {T : TD} {Hb : HB} {F : FR} {K : KO} (hL : L ≤ 260) (h : rep k n a F) (t : trep k n a T) (hw : wf k n m a) (hm : m + 100000 < 2 ^ 21) (hq : keptJ k n K (kpt F)) (hc : K.length ≤ c) (hc1 : c < 11) (hd : tDr T = nI e) (he : e + 100 < 2 ^ 20) (hu : tNu T = nu) : Ok k n (m + 25000) (e + 40) nu (c + 1) (f_X3_push L xs (2 * n) T Hb F K) := by
  have hn := hw.2.2.1
  have hn2 := hw.2.1
  have hA := ABk_le k
  have hB := BEk_le k
  obtain ⟨r, hr, er⟩ := draw_s (L := L) (xs := xs) hL hd (by omega) (p := n) (by omega) (by omega)
  have t1 : trep k n a (stDr T (nI (e + 1))) := t
  have t2 : trep k n a (stDr T (nI (e + 1 + 1))) := t
  have t3 : trep k n a (stDr T (nI (e + 1 + 1 + 1))) := t
  have gr : gin (nI r) n = true := gin_nI hr (by omega)
  obtain ⟨q1, q2, q3, q4⟩ := t.2.2.1 r hr
  rw [f_X3_push, t.2.1, er, obd_s, ups_s t1.1 hw.1, obd_s]
  by_cases cu : ABk k = 0
  · obtain ⟨x, hx, ex⟩ := draw_s (L := L) (xs := xs) hL (T := stDr T (nI (e + 1))) (e := e + 1) rfl (by omega) (p := BEk k + 1) (by omega) (by omega)
    have ex : f_X3_draw L xs (stDr T (nI (e + 1))) (nI (BEk k + 1)) = some (nI x, stDr T (nI (e + 1 + 1))) := ex
    rw [if_pos (show nI (ABk k) ≤ 0 by rw [cu]; decide), t1.2.1, gr, gd_t, bnd_k, clampI (by omega), (t1.2.2.1 r hr).2.1, downs_s t1.1 hw.1, obd_s, bnd_k, nI_1, ex, obd_s]
    exact (pushT_B (L := L) (xs := xs) (T := stDr T (nI (e + 1 + 1))) h t2 hw hm hq hc hc1 rfl hu hu hr (by omega)).mono (Nat.le_refl _) (by omega)
  · obtain ⟨y, hy, ey⟩ := draw_s (L := L) (xs := xs) hL (T := stDr T (nI (e + 1))) (e := e + 1) rfl (by omega) (p := 2) (by decide) (by decide)
    have ey : f_X3_draw L xs (stDr T (nI (e + 1))) 2 = some (nI y, stDr T (nI (e + 1 + 1))) := ey
    rw [if_neg (nI_nle (by omega) (by omega)), ey, obd_s]
    by_cases cy : nI y = 0
    · obtain ⟨x, hx, ex⟩ := draw_s (L := L) (xs := xs) hL (T := stDr T (nI (e + 1 + 1))) (e := e + 1 + 1) rfl (by omega) (p := ABk k + 1) (by omega) (by omega)
      have ex : f_X3_draw L xs (stDr T (nI (e + 1 + 1))) (nI (ABk k + 1)) = some (nI x, stDr T (nI (e + 1 + 1 + 1))) := ex
      rw [if_pos cy, t2.2.1, gr, gd_t, bnd_k, clampI (by omega), (t2.2.2.1 r hr).1, ups_s t2.1 hw.1, obd_s, bnd_k, nI_1, ex, obd_s]
      exact (pushT_A (L := L) (xs := xs) (T := stDr T (nI (e + 1 + 1 + 1))) h t3 hw hm hq hc hc1 rfl hu hu hr (by omega)).mono (Nat.le_refl _) (by omega)
    · obtain ⟨x, hx, ex⟩ := draw_s (L := L) (xs := xs) hL (T := stDr T (nI (e + 1 + 1))) (e := e + 1 + 1) rfl (by omega) (p := BEk k + 1) (by omega) (by omega)
      have ex : f_X3_draw L xs (stDr T (nI (e + 1 + 1))) (nI (BEk k + 1)) = some (nI x, stDr T (nI (e + 1 + 1 + 1))) := ex
      rw [if_neg cy, t2.2.1, gr, gd_t, bnd_k, clampI (by omega), (t2.2.2.1 r hr).2.1, downs_s t2.1 hw.1, obd_s, bnd_k, nI_1, ex, obd_s]
      exact (pushT_B (L := L) (xs := xs) (T := stDr T (nI (e + 1 + 1 + 1))) h t3 hw hm hq hc hc1 rfl hu hu hr (by omega)).mono (Nat.le_refl _) (by omega)
/-- grease keeps nothing -/
theorem greaseT_s {L k n m e c : Nat} {xs : Nat → Int32} {nu : Int32} {a : AS} {T : TD} {Hb : HB} {F : FR} {K : KO} (hL : L ≤ 260) (h : rep k n a F) (t : trep k n a T) (hw : wf k n m a) (hm : m + 100000 < 2 ^ 21) (hq : keptJ k n K (kpt F)) (hc : K.length ≤ c) (hd : tDr T = nI e) (he : e + 100 < 2 ^ 20) (hu : tNu T = nu) :
    ∃ T' F', f_X3_grease L xs T Hb F = some (1, T', F') ∧ St k n (m + 25000) (e + 40) nu (c + 1) T' F' K := by
  have hn := hw.2.2.1
  have hn2 := hw.2.1
  obtain ⟨r, hr, er⟩ := draw_s (L := L) (xs := xs) hL hd (by omega) (p := n) (by omega) (by omega)
  obtain ⟨t1, t2, t3, t4, t5, t6, t7, t8⟩ := t
  obtain ⟨q1, q2, q3, q4⟩ := t3 r hr
  have gr : gin (nI r) (tN (stDr T (nI (e + 1)))) = true := by
    rw [show tN (stDr T (nI (e + 1))) = n from t2]
    exact gin_nI hr (by omega)
  obtain ⟨F2, f5, r2, k2⟩ := greaseX_s (Hb := Hb) (p0 := tNu T) (r := r) h hw (by omega) hr
  rw [f_X3_grease, show tN T = n from t2, er, obd_s, gr, gd_t, bnd_k, gd_t, bnd_k, bnd_k, gd_t, gd_t, bnd_k, gdec_t rfl, gd_t, clampI (by omega), f5, obd_s, show tWa (stDr T (nI (e + 1))) r = nI (aWu a r) from q3, show tWb (stDr T (nI (e + 1))) r = nI (aWd a r) from q4, nI_add, if_pos rfl]
  refine ⟨_, F2, rfl, aGr r a, e + 1, r2, ⟨t1, t2, fun j hj => ?_, t4, t5, t6, t7, t8⟩, wf_mono (aGr_wf hw) (by omega), by rw [k2]; exact hq, by omega, rfl, by omega, hu⟩
  obtain ⟨p1, p2, p3, p4⟩ := t3 j hj
  refine ⟨p1, p2, ?_, ?_⟩
  · show upd (tWa T) r 0 j = nI (updN (aWu a) r 0 j)
    rw [updI_at, updN_at]
    split
    · rfl
    · exact p3
  · show upd (tWb T) r 0 j = nI (updN (aWd a) r 0 j)
    rw [updI_at, updN_at]
    split
    · rfl
    · exact p4
theorem olast_s {β : Type} {K : KO} {r : Nat → Int32} (f : KO → (Nat → Int32) → Option β) : olast (K ++ [r]) f = f K r := by
  unfold olast
  rw [List.reverse_append]
  show f K.reverse.reverse r = _
  rw [List.reverse_reverse]
theorem backT_s {k n m e c : Nat} {nu : Int32} {a : AS} {T : TD} {Hb : HB} {F : FR} {K : KO} (h : rep k n a F) (t : trep k n a T) (hw : wf k n m a) (hm : m + 100000 < 2 ^ 21) (hq : keptJ k n K (kpt F)) (hc : K.length ≤ c) (hd : tDr T = nI e) (hu : tNu T = nu) : Ok k n (m + 25000) (e + 40) nu (c + 1) (f_X3_back (2 * n) T Hb F K) := by
  have hn := hw.2.2.1
  rcases List.eq_nil_or_concat K with rfl | ⟨K0, row, rfl⟩
  · rw [f_X3_back, if_pos (show nI (List.length ([] : KO)) = 0 from rfl)]
    exact stay h t hw (by omega) hq hc hd (by omega) hu
  · rw [List.concat_eq_append] at hq hc ⊢
    have hlen : (K0 ++ [row]).length = K0.length + 1 := by rw [List.length_append]; rfl
    have hK := hq.1
    rw [hlen] at hK hc
    obtain ⟨F2, u, d, f5, r2, w2, q2, hrow⟩ := backX_s (Hb := Hb) (p0 := tNu T) h hw hq
    have z0 : (0 : Int32) = nI 0 := nI_0.symm
    rw [f_X3_back, hlen, if_neg (nI_ne0 (by omega) (by omega)), gdec_t (by omega), gd_t, olast_s, bnd_k, nI_pred, gin_nI (by omega) (by omega), gd_t, t.2.1, show gcp 0 0 (nI n) (2 * n) n = true by rw [z0]; exact gcp_nI (by omega) (by omega) (by omega) (by omega) (by omega), gd_t, show gcp (nI n) 0 (nI n) (2 * n) n = true by rw [z0]; exact gcp_nI (by omega) (by omega) (by omega) (by omega) (by omega), gd_t, bnd_k, nI_clamp (show K0.length < 2 ^ 31 by omega), glen_nI (show K0.length ≤ 13 by omega) (by decide), gd_t, show gcp 0 0 (nI K0.length) (K0.length + 1) K0.length = true by rw [z0]; exact gcp_nI (by omega) (by omega) (by omega) (by omega) (by omega), gd_t, f5, obd_s, if_pos rfl, z5_0, nI_clamp (show n < 2 ^ 31 by omega)]
    obtain ⟨t1, t2, t3, t4, t5, t6, t7, t8⟩ := t
    refine ⟨_, F2, K0, rfl, _, e, r2, ⟨t1, t2, fun j hj => ?_, t4, t5, t6, t7, t8⟩, wf_mono w2 (by omega), q2, by omega, hd, by omega, hu⟩
    obtain ⟨p1, p2, p3, p4⟩ := t3 j hj
    refine ⟨?_, ?_, p3, p4⟩
    · show va_cpy row (tUp T) 0 0 n j = nI (u j)
      rw [pk_cpy_in (Nat.zero_le _) (by omega), show 0 + (j - 0) = j by omega]
      exact (hrow j hj).1
    · show va_cpy row (tDn T) n 0 n j = nI (d j)
      rw [pk_cpy_in (Nat.zero_le _) (by omega), show n + (j - 0) = n + j by omega]
      exact (hrow j hj).2
-- the shifts
theorem get_l {L k n lr : Nat} {xs : Nat → Int32} {R1 : HB} {R2 : FR} {R3 : KO} {a : AS} {T : TD} {N4 : Nat} (hN : N4 = n) (h : trep k n a T) (hn : n ≤ 8) (kk : Int32 → TD → (Nat → Int32) → Option (Int32 × TD × FR × KO)) : ∀ (f i g : Nat) (A : Nat → Int32), i + f = n → f < g → (∀ j, j < i → A j = nI (aV a j)) →
    ∃ A', l_X3_shift_24 R1 R2 R3 N4 L xs lr kk g (nI i) T A = kk (nI n) T A' ∧ ∀ j, j < n → A' j = nI (aV a j) := by
  subst hN
  intro f
  induction f with
  | zero =>
    intro i g A hi hg hA
    obtain ⟨g, rfl⟩ : ∃ g', g = g' + 1 := ⟨g - 1, by omega⟩
    obtain rfl : i = N4 := by omega
    rw [l_X3_shift_24, if_pos (nI_le (Nat.le_refl _) (by omega))]
    exact ⟨A, rfl, hA⟩
  | succ f ih =>
    intro i g A hi hg hA
    obtain ⟨g, rfl⟩ : ∃ g', g = g' + 1 := ⟨g - 1, by omega⟩
    rw [l_X3_shift_24, if_neg (nI_ge (by omega) (by omega)), value_s h hn (by omega), obd_s, gin_nI (by omega) (by omega), gd_t, bnd_k, nI_1, clampI (by omega)]
    refine ih (i + 1) g _ (by omega) (by omega) fun j hj => ?_
    rw [updI_at]
    split
    · rename_i e; rw [e]
    · exact hA j (by omega)
theorem getb_l {L k n lr : Nat} {xs : Nat → Int32} {R1 : HB} {R2 : FR} {R3 : KO} {a : AS} {T : TD} {N4 : Nat} (hN : N4 = n) (h : trep k n a T) (hn : n ≤ 8) (kk : Int32 → TD → (Nat → Int32) → Option (Int32 × TD × FR × KO)) : ∀ (f i g : Nat) (A : Nat → Int32), i + f = n → f < g → (∀ j, j < i → A j = nI (aV a j)) →
    ∃ A', l_X3_shift_24b R1 R2 R3 N4 L xs lr kk g (nI i) T A = kk (nI n) T A' ∧ ∀ j, j < n → A' j = nI (aV a j) := by
  subst hN
  intro f
  induction f with
  | zero =>
    intro i g A hi hg hA
    obtain ⟨g, rfl⟩ : ∃ g', g = g' + 1 := ⟨g - 1, by omega⟩
    obtain rfl : i = N4 := by omega
    rw [l_X3_shift_24b, if_pos (nI_le (Nat.le_refl _) (by omega))]
    exact ⟨A, rfl, hA⟩
  | succ f ih =>
    intro i g A hi hg hA
    obtain ⟨g, rfl⟩ : ∃ g', g = g' + 1 := ⟨g - 1, by omega⟩
    rw [l_X3_shift_24b, if_neg (nI_ge (by omega) (by omega)), value_s h hn (by omega), obd_s, gin_nI (by omega) (by omega), gd_t, bnd_k, nI_1, clampI (by omega)]
    refine ih (i + 1) g _ (by omega) (by omega) fun j hj => ?_
    rw [updI_at]
    split
    · rename_i e; rw [e]
    · exact hA j (by omega)
theorem shLT_l {L k n lr N4 : Nat} {xs : Nat → Int32} {c3 : Int32} {R1 : HB} {R2 : FR} {R3 : KO} {R4 : Nat → Int32} (hN : N4 = n) (kk : Int32 → TD → Option (Int32 × TD × FR × KO)) : ∀ (j g m : Nat) (a : AS) (T : TD), trep k n a T → wf k n m a → j < n → j + 1 < g → (∀ i, i < j → R4 i = nI (aV a i)) →
    ∃ T', l_X3_shift_56b c3 R1 R2 R3 R4 N4 L xs lr kk g (nI j) T = kk (zI 0) T' ∧ trep k n (aSet k 0 0 (aShL k j a)) T' ∧ tkp T' = tkp T := by
  subst hN
  intro j
  induction j with
  | zero =>
    intro g m a T h hw hj hg hA
    obtain ⟨g, rfl⟩ : ∃ g', g = g' + 1 + 1 := ⟨g - 2, by omega⟩
    have hm2 := most_ge hw.1
    obtain ⟨T1, f1, r1, k1⟩ := setT_s h hw (r := 0) (v := 0) (by omega) (by omega)
    rw [l_X3_shift_56b, if_neg (lt0 (by omega)), if_pos (by decide), show f_X3_set T (nI 0) 0 = some T1 from f1, obd_s, bnd_k, zI_m, l_X3_shift_56b, if_pos zI_0]
    exact ⟨T1, rfl, r1, k1⟩
  | succ j ih =>
    intro g m a T h hw hj hg hA
    obtain ⟨g, rfl⟩ : ∃ g', g = g' + 1 := ⟨g - 1, by omega⟩
    have hn := hw.2.2.1
    have hv := aV_le hw (show j < 8 by omega)
    obtain ⟨T1, f1, r1, k1⟩ := setT_s h hw (r := j + 1) (v := aV a j) (by omega) hv
    rw [l_X3_shift_56b, if_neg (lt0 (by omega)), if_neg (nI_ne0 (by omega) (by omega)), bnd_k, nI_pred, gin_nI (by omega) (by omega), gd_t, bnd_k, clampI (by omega), hA j (by omega), f1, obd_s, bnd_k, zI_m, zI_s]
    obtain ⟨T2, f2, r2, k2⟩ := ih g (m + 100) _ T1 r1 (aSet_wf hw (by omega) hv) (by omega) (by omega) fun i hi => by
      rw [aV_set hw (by omega) hv, updN_at, if_neg (by omega)]
      exact hA i (by omega)
    exact ⟨T2, f2, r2, k2.trans k1⟩
theorem shRT_l {L k n lr N4 : Nat} {xs : Nat → Int32} {R1 : HB} {R2 : FR} {R3 : KO} {R4 : Nat → Int32} (hN : N4 = n) (kk : Int32 → TD → Option (Int32 × TD × FR × KO)) : ∀ (f i g m : Nat) (a : AS) (T : TD), trep k n a T → wf k n m a → i + f + 1 = n → f + 1 < g → (∀ j, i < j → j < n → R4 j = nI (aV a j)) →
    ∃ T', l_X3_shift_95 (nI (n - 1)) R1 R2 R3 R4 N4 L xs lr kk g (nI i) T = kk (nI n) T' ∧ trep k n (aSet k (n - 1) 0 (aShR k f i a)) T' ∧ tkp T' = tkp T := by
  subst hN
  intro f
  induction f with
  | zero =>
    intro i g m a T h hw hj hg hA
    obtain ⟨g, rfl⟩ : ∃ g', g = g' + 1 + 1 := ⟨g - 2, by omega⟩
    have hn := hw.2.2.1
    have hm2 := most_ge hw.1
    obtain rfl : i = N4 - 1 := by omega
    obtain ⟨T1, f1, r1, k1⟩ := setT_s h hw (r := N4 - 1) (v := 0) (by omega) (by omega)
    rw [l_X3_shift_95, if_neg (nI_nlt (Nat.le_refl _) (by omega)), if_pos rfl, show f_X3_set T (nI (N4 - 1)) 0 = some T1 from f1, obd_s, bnd_k, nI_1, show N4 - 1 + 1 = N4 by omega, l_X3_shift_95, if_pos (nI_lt (by omega) (by omega))]
    exact ⟨T1, rfl, r1, k1⟩
  | succ f ih =>
    intro i g m a T h hw hj hg hA
    obtain ⟨g, rfl⟩ : ∃ g', g = g' + 1 := ⟨g - 1, by omega⟩
    have hn := hw.2.2.1
    have hv := aV_le hw (show i + 1 < 8 by omega)
    obtain ⟨T1, f1, r1, k1⟩ := setT_s h hw (r := i) (v := aV a (i + 1)) (by omega) hv
    rw [l_X3_shift_95, if_neg (nI_nlt (by omega) (by omega)), if_neg (fun z => by have := (nI_eq (by omega) (by omega)).mp z; omega), bnd_k, nI_1, gin_nI (by omega) (by omega), gd_t, bnd_k, clampI (by omega), hA (i + 1) (by omega) (by omega), f1, obd_s, bnd_k]
    obtain ⟨T2, f2, r2, k2⟩ := ih (i + 1) g (m + 100) _ T1 r1 (aSet_wf hw (by omega) hv) (by omega) (by omega) fun j hj hj2 => by
      rw [aV_set hw (by omega) hv, updN_at, if_neg (by omega)]
      exact hA j (by omega) hj2
    exact ⟨T2, f2, r2, k2.trans k1⟩
