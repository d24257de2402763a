-- the pure level, 22: the start; a frame is tried out
def a0 : AS := (fun _ => 0, fun _ => 0, fun _ => 0, fun _ => 0, 0, 0, 0, 0, 0, 0, 0)
theorem init_s {k n : Nat} (hk : k < 3) : f_X1_init (nI k) (nI n) = some (nI k, nI n, dkS (ABk k), dkS (BEk k), 0, 0, 0, 0, 0, 0, 0, 0, 0) := by
  rcases (show k = 0 ∨ k = 1 ∨ k = 2 by omega) with rfl | rfl | rfl <;> rfl
theorem rep0 {k n : Nat} : rep k n a0 (nI k, nI n, dkS (ABk k), dkS (BEk k), 0, 0, 0, 0, 0, 0, 0, 0, 0) :=
  ⟨rfl, rfl, ⟨rfl, fun _ _ => rfl, fun _ _ => rfl⟩, ⟨rfl, fun _ _ => rfl, fun _ _ => rfl⟩, rfl, f0l, rfl, rfl, rfl, rfl, rfl⟩
theorem wf0 {k n : Nat} (hk : k < 3) (h2 : 2 ≤ n) (h8 : n ≤ 8) : wf k n 0 a0 :=
  ⟨hk, h2, h8, fun _ _ => ⟨Nat.zero_le _, Nat.zero_le _⟩, fun _ _ => ⟨Nat.le_refl _, Nat.le_refl _⟩, by decide, Nat.le_refl _⟩
theorem drawF_s {L : Nat} {xs : Nat → Int32} (hL : L ≤ 260) {T : TF} {e p : Nat} (hd : zDr T = nI e) (he : e < 2 ^ 20) (h0 : 0 < p) (hp : p < 2 ^ 31) : ∃ r, r < p ∧ f_X3_drawF L xs T (nI p) = some (nI r, szDr T (nI (e + 1))) := by
  obtain ⟨v, hv⟩ := cell_s xs hL (c := e % 24) (by omega)
  have key : ∀ w : Int32, ∃ r, r < p ∧ obd (f_L_below w (nI p)) (fun x11 => bnd (nI e + 1) fun (v12 : Int32) => some (x11, szDr T v12)) = some (nI r, szDr T (nI (e + 1))) := by
    intro w
    obtain ⟨r, hr, er⟩ := below_s w h0 hp
    refine ⟨r, hr, ?_⟩
    rw [er, obd_s, bnd_k, nI_1]
  rw [f_X3_drawF, hd, bnd_k, show nI e - nI e / 24 * 24 = nI (e % 24) from pk_rem (d := 24) (by omega) (by decide) (by decide), hv, obd_s]
  exact key _
theorem frame_s {L e f : Nat} {xs : Nat → Int32} {rf : Int32} (hL : L ≤ 260) (he : e + 10 < 2 ^ 20) (hf : f < 2) :
    ∃ k n T F, f_X3_frame L xs (nI e, 0, 0, fun _ => 0) (nI f, rf) (nI f) = some (1, T, (nI (f + 1), rf), F) ∧ St k n 0 (e + 2) (nI f) 0 T F [] ∧ tN T = n ∧ n ≤ 8 := by
  obtain ⟨k, hk, ek⟩ := drawF_s (L := L) (xs := xs) hL (T := szNu (nI e, 0, 0, fun _ => 0) (nI f)) (e := e) (p := 3) rfl (by omega) (by decide) (by decide)
  have ek : f_X3_drawF L xs (szNu (nI e, 0, 0, fun _ => 0) (nI f)) 3 = some (nI k, (nI (e + 1), nI f, 0, fun _ => 0)) := ek
  obtain ⟨r, hr, er⟩ := drawF_s (L := L) (xs := xs) hL (T := (nI (e + 1), nI f, nI k, fun _ => 0)) (e := e + 1) (p := 7) rfl (by omega) (by decide) (by decide)
  have er : f_X3_drawF L xs (szKi (nI (e + 1), nI f, 0, fun _ => 0) (nI k)) 7 = some (nI r, (nI (e + 1 + 1), nI f, nI k, fun _ => 0)) := er
  have g := glen_nI (show 2 + r ≤ 8 by omega) (by decide)
  have hF : f_X2_frame (nI f, rf) (zKi (nI (e + 1 + 1), nI f, nI k, fun _ => 0)) (nI (2 + r)) = some (nI f, (nI (f + 1), rf), (nI k, nI (2 + r), dkS (ABk k), dkS (BEk k), 0, 0, 0, 0, 0, 0, 0, 0, 0)) := by
    show f_X2_frame (nI f, rf) (nI k) (nI (2 + r)) = _
    rw [f_X2_frame, if_neg (lt0 (by omega)), if_neg (show ¬ (3 : Int32) ≤ nI k from nI_ge (b := 3) hk (by decide)), if_neg (show ¬ nI (2 + r) < 2 from nI_nlt (b := 2) (by omega) (by omega)), if_pos (show nI (2 + r) ≤ (8 : Int32) from nI_le (b := 8) (by omega) (by decide)), if_neg (show ¬ hFc (nI f, rf) < 0 from lt0 (by omega)), if_pos (show hFc (nI f, rf) < 4 from nI_lt (b := 4) (by omega) (by decide)), init_s hk, obd_s, show gin (hFc (nI f, rf)) 4 = true from gin_nI (by omega) (by decide), gd_t, bnd_k, show hFc (nI f, rf) + 1 = nI (f + 1) from nI_1 f]
  refine ⟨k, 2 + r, (nI (e + 1 + 1), nI f, nI k, 2 + r, (fun _ => 0), (fun _ => 0), (fun _ => 0), (fun _ => 0), (fun _ => 0), 0, 0), _, ?_, ⟨a0, e + 1 + 1, rep0, ⟨rfl, rfl, fun j _ => ⟨rfl, rfl, rfl, rfl⟩, rfl, rfl, rfl, rfl, rfl⟩, wf0 hk (by omega) (by omega), ⟨by decide, rfl, rfl, fun i r h => by cases h⟩, Nat.le_refl _, rfl, Nat.le_refl _, rfl⟩, rfl, by omega⟩
  rw [f_X3_frame, ek, obd_s, er, obd_s, bnd_k, show (2 : Int32) + nI r = nI (2 + r) from nI_add 2 r, g, gd_t, gd_t, gd_t, hF, obd_s, if_pos rfl, nI_clamp (show 2 + r < 2 ^ 31 by omega)]
theorem A1_s {L p : Nat} {xs : Nat → Int32} (hL : L ≤ 260) (hp : p < 3) :
    ∃ k1 n1 k2 n2 T1 T2 F1 F2 Tr, f_A1 L xs (nI p) = some (T1, T2, (2, 0), F1, F2, Tr) ∧ St k1 n1 0 200 0 0 T1 F1 [] ∧ St k2 n2 0 200 1 0 T2 F2 [] ∧ tN T1 = n1 ∧ tN T2 = n2 ∧ n1 ≤ 8 ∧ n2 ≤ 8 := by
  obtain ⟨k1, n1, T1, F1, f1, s1, t1, b1⟩ := frame_s (L := L) (e := 31 * p + 7) (f := 0) (xs := xs) (rf := 0) hL (by omega) (by decide)
  obtain ⟨k2, n2, T2, F2, f2, s2, t2, b2⟩ := frame_s (L := L) (e := 31 * p + 111) (f := 1) (xs := xs) (rf := 0) hL (by omega) (by decide)
  have f1 : f_X3_frame L xs (nI (31 * p + 7), 0, 0, fun _ => 0) (0, 0) 0 = some (1, T1, (1, 0), F1) := f1
  have f2 : f_X3_frame L xs (nI (31 * p + 111), 0, 0, fun _ => 0) (1, 0) 1 = some (1, T2, (2, 0), F2) := f2
  have i1 : f_X2_init = some ((0, 0), (nI 0, nI 2, dkS (ABk 0), dkS (BEk 0), 0, 0, 0, 0, 0, 0, 0, 0, 0)) := by
    rw [f_X2_init, show f_X1_init 0 2 = _ from init_s (k := 0) (n := 2) (by decide), obd_s]
  have u1 : tNu T1 = 0 := by
    obtain ⟨a, e0, x1, x2, x3, x4, x5, x6, x7, x8⟩ := s1
    exact x8
  have u2 : tNu T2 = 1 := by
    obtain ⟨a, e0, x1, x2, x3, x4, x5, x6, x7, x8⟩ := s2
    exact x8
  have s1 : St k1 n1 0 200 0 0 T1 F1 [] := by
    obtain ⟨a, e0, x1, x2, x3, x4, x5, x6, x7, x8⟩ := s1
    exact ⟨a, e0, x1, x2, x3, x4, x5, x6, by omega, x8⟩
  have s2 : St k2 n2 0 200 1 0 T2 F2 [] := by
    obtain ⟨a, e0, x1, x2, x3, x4, x5, x6, x7, x8⟩ := s2
    exact ⟨a, e0, x1, x2, x3, x4, x5, x6, by omega, x8⟩
  refine ⟨k1, n1, k2, n2, T1, T2, F1, F2, (nI 0, nI 2, dkS (ABk 0), dkS (BEk 0), 0, 0, 0, 0, 0, 0, 0, 0, 0), ?_, s1, s2, t1, t2, b1, b2⟩
  rw [f_A1, i1, obd_s, bnd_k, bnd_k, show (31 : Int32) * nI p + 7 = nI (31 * p + 7) by rw [show (31 : Int32) * nI p = nI (31 * p) from nI_mul 31 p]; exact nI_add _ 7, f_X3_init, obd_s, bnd_k, bnd_k, show (31 : Int32) * nI p + 111 = nI (31 * p + 111) by rw [show (31 : Int32) * nI p = nI (31 * p) from nI_mul 31 p]; exact nI_add _ 111, f_X3_init, obd_s, f1, obd_s, if_neg (by show ¬ (1 : Int32) = 0; decide), f2, obd_s, if_neg (by show ¬ (1 : Int32) = 0; decide), gdec_t rfl, gd_t, gdec_t rfl, gd_t, gdec_t u1, gd_t, gdec_t u2, gd_t, gdec_t rfl, gd_t]
-- a frame is copied
theorem cpA_l {sz : Nat} {u w : Nat → Nat} {D2 : DK} (h : repD sz u w D2) (kk : Int32 → DK → Option DK) : ∀ (j i g : Nat) (D : DK), i + j = 8 → j < g → (∀ y, y < i → dCn D y = nI (u y)) →
    ∃ cn, l_X0_copyFrom_10 D2 kk g (nI i) D = kk 8 (sdCn D cn) ∧ ∀ y, y < 8 → cn y = nI (u y) := by
  intro j
  induction j with
  | zero =>
    intro i g D hi hg hD
    obtain ⟨g, rfl⟩ : ∃ g', g = g' + 1 := ⟨g - 1, by omega⟩
    obtain rfl : i = 8 := by omega
    rw [l_X0_copyFrom_10, if_pos (by decide)]
    exact ⟨dCn D, rfl, hD⟩
  | succ j ih =>
    intro i g D hi hg hD
    obtain ⟨g, rfl⟩ : ∃ g', g = g' + 1 := ⟨g - 1, by omega⟩
    rw [l_X0_copyFrom_10, if_neg (le8 (by omega)), countAt_s h (by omega), obd_s, gin_nI (by omega) (by decide), gd_t, bnd_k, nI_1, clampI (by omega)]
    obtain ⟨cn, e, hc⟩ := ih (i + 1) g (sdCn D (upd (dCn D) i (nI (u i)))) (by omega) (by omega) fun y hy => by
      show upd (dCn D) i (nI (u i)) y = _
      rw [updI_at]
      split
      · rename_i c; rw [c]
      · exact hD y (by omega)
    exact ⟨cn, e, hc⟩
theorem cpB_l {sz : Nat} {u w : Nat → Nat} {D2 : DK} (h : repD sz u w D2) (kk : Int32 → DK → Option DK) : ∀ (j i g : Nat) (D : DK), i + j = 8 → j < g → (∀ y, y < i → dWe D y = nI (w y)) →
    ∃ cn, l_X0_copyFrom_38 D2 kk g (nI i) D = kk 8 (sdWe D cn) ∧ ∀ y, y < 8 → cn y = nI (w y) := by
  intro j
  induction j with
  | zero =>
    intro i g D hi hg hD
    obtain ⟨g, rfl⟩ : ∃ g', g = g' + 1 := ⟨g - 1, by omega⟩
    obtain rfl : i = 8 := by omega
    rw [l_X0_copyFrom_38, if_pos (by decide)]
    exact ⟨dWe D, rfl, hD⟩
  | succ j ih =>
    intro i g D hi hg hD
    obtain ⟨g, rfl⟩ : ∃ g', g = g' + 1 := ⟨g - 1, by omega⟩
    rw [l_X0_copyFrom_38, if_neg (le8 (by omega)), wearAt_s h (by omega), obd_s, gin_nI (by omega) (by decide), gd_t, bnd_k, nI_1, clampI (by omega)]
    obtain ⟨cn, e, hc⟩ := ih (i + 1) g (sdWe D (upd (dWe D) i (nI (w i)))) (by omega) (by omega) fun y hy => by
      show upd (dWe D) i (nI (w i)) y = _
      rw [updI_at]
      split
      · rename_i c; rw [c]
      · exact hD y (by omega)
    exact ⟨cn, e, hc⟩
theorem copyD_s {sz : Nat} {u w : Nat → Nat} {D D2 : DK} (h : repD sz u w D2) : ∃ D', f_X0_copyFrom D D2 = some D' ∧ repD sz u w D' := by
  have k1 : ∀ kk, ∃ cn, l_X0_copyFrom_10 D2 kk 16 0 (sdSz D (dSz D2)) = kk 8 (sdCn (sdSz D (dSz D2)) cn) ∧ ∀ y, y < 8 → cn y = nI (u y) := fun kk => by
    have := cpA_l h kk 8 0 16 (sdSz D (dSz D2)) (by omega) (by omega) fun y hy => by omega
    rw [nI_0] at this
    exact this
  obtain ⟨cn, e1, h1⟩ := k1 (fun (a15 : Int32) (F16 : DK) => l_X0_copyFrom_38 D2 (fun (a31 : Int32) (F32 : DK) => some F32) 16 0 F16)
  obtain ⟨cw, e2, h2⟩ := cpB_l h (fun (a31 : Int32) (F32 : DK) => some F32) 8 0 16 (sdCn (sdSz D (dSz D2)) cn) (by omega) (by omega) fun y hy => by omega
  rw [nI_0] at e2
  rw [f_X0_copyFrom]
  exact ⟨_, Eq.trans e1 e2, h.1, h1, h2⟩
theorem copy_s {k n : Nat} {a : AS} {F : FR} (h : rep k n a F) (Tr : FR) : ∃ X, f_X1_copyFrom Tr F = some X ∧ rep k n a X := by
  obtain ⟨h1, h2, h3, h4, h5, h6, h7, h8, h9, h10, h11⟩ := h
  obtain ⟨D1, f1, r1⟩ := copyD_s (D := fAb Tr) h3
  obtain ⟨D2, f2, r2⟩ := copyD_s (D := fBe Tr) h4
  rw [f_X1_copyFrom, f1, obd_s, f2, obd_s]
  exact ⟨_, rfl, h1, h2, r1, r2, h5, h6, h7, h8, h9, h10, h11⟩
/-- what a count by adding tells -/
def cnt (w : Nat) (a : AS) : Nat := if w = 0 then aP a else if w = 1 then aB a else if w = 2 then aC a else aS a
theorem countBy_s {k n m N w : Nat} {a : AS} {F : FR} {Hb : HB} (h : rep k n a F) (hw : wf k n m a) (hm : m + 8000 < 2 ^ 21) (hN : N < 2 ^ 31) (hw4 : w < 4) (Tr : FR) :
    ∃ Tr', f_X2_countByAdding Hb F Tr (nI N) (nI w) = some (nI (cnt w (aAdds k n N n a)) - nI (cnt w a), Tr') := by
  obtain ⟨X, e1, r1⟩ := copy_s h Tr
  obtain ⟨Y, e2, r2, -⟩ := bringNumber_s r1 hw hm (N := N) (by omega)
  obtain ⟨h1, h2, h3, h4, h5, h6, h7, h8, h9, h10, h11⟩ := h
  obtain ⟨g1, g2, g3, g4, g5, g6, g7, g8, g9, g10, g11⟩ := r2
  rw [f_X2_countByAdding, e1, obd_s, bnd_k, nI_l hN, e2, obd_s, g7, g8, g9, g11, h7, h8, h9, h11]
  refine ⟨Y, ?_⟩
  rcases (show w = 0 ∨ w = 1 ∨ w = 2 ∨ w = 3 by omega) with rfl | rfl | rfl | rfl <;> rfl
theorem secondsBy_s {k n m N : Nat} {a : AS} {F : FR} {Hb : HB} (h : rep k n a F) (hw : wf k n m a) (hm : m + 8000 < 2 ^ 21) (hN : N < 2 ^ 31) (Tr : FR) :
    ∃ z Tr', f_X2_secondsByAdding Hb F Tr (nI N) = some (z, Tr') ∧ D16 ((aT (aAdds k n N n a) : Int) - (aT a : Int)) z := by
  obtain ⟨X, e1, r1⟩ := copy_s h Tr
  obtain ⟨Y, e2, r2, -⟩ := bringNumber_s r1 hw hm (N := N) (by omega)
  have t1 := hw.2.2.2.2.2.2
  have t2 := (adds_wf (N := N) hw).2.2.2.2.2.2
  have d1 := F16_f2d h.2.2.2.2.2.1 (by omega)
  have d2 := F16_f2d r2.2.2.2.2.2.1 (by omega)
  have d3 := D16_sub d2 d1 (by omega)
  rw [f_X2_secondsByAdding, e1, obd_s, bnd_k, nI_l hN, e2, obd_s, D16_nn d2, gd_t, bnd_k, D16_nn d1, gd_t, bnd_k, D16_nn d3, gd_t, bnd_k]
  exact ⟨_, Y, rfl, d3⟩
theorem would_s {k n m N w : Nat} {a : AS} {F : FR} {Hb : HB} {p0 : Int32} (h : rep k n a F) (hw : wf k n m a) (hm : m + 8000 < 2 ^ 21) (hN : N < 10 ^ n) (hw4 : w < 4) (Tr : FR) :
    ∃ Tr', f_X2_would Hb F Tr p0 (nI N) (nI w) = some (nI (cnt w (aAdds k n N n a)) - nI (cnt w a), Tr') := by
  have hn := hw.2.2.1
  have hp := pow8 hn
  obtain ⟨Tr', e⟩ := countBy_s (Hb := Hb) h hw hm (show N < 2 ^ 31 by omega) hw4 Tr
  rw [f_X2_would, show f_X2_foundFrame Hb p0 = some () from rfl, obd_s, refuse_s h hn hN, obd_s, f_X2_refuseUnlessBelow, if_neg (lt0 (by omega)), if_pos (show nI w < 4 from nI_lt (b := 4) hw4 (by decide)), obd_s, e, obd_s]
  exact ⟨Tr', rfl⟩
theorem wouldTake_s {k n m N : Nat} {a : AS} {F : FR} {Hb : HB} {p0 : Int32} (h : rep k n a F) (hw : wf k n m a) (hm : m + 8000 < 2 ^ 21) (hN : N < 10 ^ n) (Tr : FR) :
    ∃ z Tr', f_X2_wouldTake Hb F Tr p0 (nI N) = some (z, Tr') ∧ D16 ((aT (aAdds k n N n a) : Int) - (aT a : Int)) z := by
  have hn := hw.2.2.1
  have hp := pow8 hn
  obtain ⟨z, Tr', e, d⟩ := secondsBy_s (Hb := Hb) h hw hm (show N < 2 ^ 31 by omega) Tr
  rw [f_X2_wouldTake, show f_X2_foundFrame Hb p0 = some () from rfl, obd_s, refuse_s h hn hN, obd_s, e, obd_s]
  exact ⟨z, Tr', rfl, d⟩
/-- who is quicker: 0 if not slower than 1 -/
def quick (x y : Int) : Nat := if x ≤ y then 0 else 1
theorem cmp_l {x y : Int} {z1 z2 : UInt64} {op : CmpOp} (d1 : D16 x z1) (d2 : D16 y z2) : (x < y ∧ Op.cmpValue (FP.dcmp z1 z2) op = -1) ∨ (x = y ∧ Op.cmpValue (FP.dcmp z1 z2) op = 0) ∨ (y < x ∧ Op.cmpValue (FP.dcmp z1 z2) op = 1) := by
  rw [dcmp16 d1 d2]
  rcases Int.lt_trichotomy x y with c | c | c
  · refine Or.inl ⟨c, ?_⟩
    rw [show compare x y = .lt from by rw [Int.compare_eq_lt]; exact c]
    rfl
  · refine Or.inr (Or.inl ⟨c, ?_⟩)
    rw [show compare x y = .eq from by rw [Int.compare_eq_eq]; exact c]
    rfl
  · refine Or.inr (Or.inr ⟨c, ?_⟩)
    rw [show compare x y = .gt from by rw [Int.compare_eq_gt]; exact c]
    rfl
theorem quickTo_s {k1 n1 k2 n2 m N : Nat} {a b : AS} {F G : FR} {Hb : HB} (h : rep k1 n1 a F) (hw : wf k1 n1 m a) (g : rep k2 n2 b G) (gw : wf k2 n2 m b) (hm : m + 8000 < 2 ^ 21) (hN : N < 2 ^ 31) (Tr : FR) :
    ∃ Tr', f_X2_quickerToAdd Hb F G Tr (nI N) = some (nI (quick ((aT (aAdds k1 n1 N n1 a) : Int) - (aT a : Int)) ((aT (aAdds k2 n2 N n2 b) : Int) - (aT b : Int))), Tr') := by
  obtain ⟨z1, T1, e1, d1⟩ := secondsBy_s (Hb := Hb) h hw hm hN Tr
  obtain ⟨z2, T2, e2, d2⟩ := secondsBy_s (Hb := Hb) g gw hm hN T1
  rw [f_X2_quickerToAdd, e1, obd_s, e2, obd_s]
  dsimp only
  refine ⟨T2, ?_⟩
  unfold quick
  rcases cmp_l (op := CmpOp.l) d1 d2 with ⟨c, e⟩ | ⟨c, e⟩ | ⟨c, e⟩
  · rcases cmp_l (op := CmpOp.g) d1 d2 with ⟨c2, f⟩ | ⟨c2, f⟩ | ⟨c2, f⟩
    · rw [e, f, bnd_k, if_neg (by decide), bnd_k, if_neg (by decide), if_pos (by omega)]
      rfl
    · omega
    · omega
  · rw [e, bnd_k, if_pos rfl, bnd_k, if_neg (by decide), if_pos (by omega)]
    rfl
  · rcases cmp_l (op := CmpOp.g) d1 d2 with ⟨c2, f⟩ | ⟨c2, f⟩ | ⟨c2, f⟩
    · omega
    · omega
    · rw [e, f, bnd_k, if_neg (by decide), bnd_k, if_pos (by decide), if_neg (by omega)]
      rfl
