-- the pure level, 24: the digest
theorem sum_l {k n m : Nat} {a : AS} {F : FR} (h : rep k n a F) (hw : wf k n m a) : ∀ (j i g : Nat) (a1 : Int32), i + j = n → j < g → ∃ v, l_X1_sumOfValues_4 F (fun (a15 : Int32) (a16 : Int32) => some a15) g a1 (nI i) = some v := by
  have hn := hw.2.2.1
  intro j
  induction j with
  | zero =>
    intro i g a1 hi hg
    obtain ⟨g, rfl⟩ : ∃ g', g = g' + 1 := ⟨g - 1, by omega⟩
    rw [l_X1_sumOfValues_4, h.2.1, if_pos (nI_le (by omega) (by omega))]
    exact ⟨_, rfl⟩
  | succ j ih =>
    intro i g a1 hi hg
    obtain ⟨g, rfl⟩ : ∃ g', g = g' + 1 := ⟨g - 1, by omega⟩
    rw [l_X1_sumOfValues_4, h.2.1, if_neg (nI_ge (by omega) (by omega)), valueAt_s h (by omega), obd_s, bnd_k, bnd_k, nI_1]
    exact ih _ _ _ (by omega) (by omega)
theorem btc_l {k n m : Nat} {a : AS} {F : FR} (h : rep k n a F) (hw : wf k n m a) : ∀ (j i g : Nat) (a1 : Int32), i + j = n → j < g → ∃ v, l_X1_beadsThatCount_4 F (fun (a15 : Int32) (a16 : Int32) => some a15) g a1 (nI i) = some v := by
  have hn := hw.2.2.1
  intro j
  induction j with
  | zero =>
    intro i g a1 hi hg
    obtain ⟨g, rfl⟩ : ∃ g', g = g' + 1 := ⟨g - 1, by omega⟩
    rw [l_X1_beadsThatCount_4, h.2.1, if_pos (nI_le (by omega) (by omega))]
    exact ⟨_, rfl⟩
  | succ j ih =>
    intro i g a1 hi hg
    obtain ⟨g, rfl⟩ : ∃ g', g = g' + 1 := ⟨g - 1, by omega⟩
    rw [l_X1_beadsThatCount_4, h.2.1, if_neg (nI_ge (by omega) (by omega)), countAt_s h.2.2.1 (by omega), obd_s, countAt_s h.2.2.2.1 (by omega), obd_s, bnd_k, bnd_k, bnd_k, nI_1]
    exact ih _ _ _ (by omega) (by omega)
theorem fact_s {k n m : Nat} {a : AS} {F : FR} (h : rep k n a F) (hw : wf k n m a) (p : Int32) : ∃ v, f_X1_factOfFrame F p = some v := by
  have hn := hw.2.2.1
  rw [f_X1_factOfFrame]
  refine ite_P (P := fun x => ∃ v, x = some v) (fun _ => ⟨_, rfl⟩) (fun _ => ite_P (P := fun x => ∃ v, x = some v) (fun _ => ⟨_, rfl⟩) (fun _ => ite_P (P := fun x => ∃ v, x = some v) (fun _ => ⟨_, rfl⟩) (fun _ => ite_P (P := fun x => ∃ v, x = some v) (fun _ => ⟨_, rfl⟩) (fun _ => ite_P (P := fun x => ∃ v, x = some v) (fun _ => ⟨_, rfl⟩) (fun _ => ite_P (P := fun x => ∃ v, x = some v) (fun _ => ⟨_, rfl⟩) (fun _ => ite_P (P := fun x => ∃ v, x = some v) (fun _ => ⟨_, rfl⟩) (fun _ => ite_P (P := fun x => ∃ v, x = some v) (fun _ => ⟨_, rfl⟩) (fun _ => ite_P (P := fun x => ∃ v, x = some v) (fun _ => ⟨_, rfl⟩) (fun _ => ite_P (P := fun x => ∃ v, x = some v) (fun _ => ?_) (fun _ => ite_P (P := fun x => ∃ v, x = some v) (fun _ => ?_) (fun _ => ite_P (P := fun x => ∃ v, x = some v) (fun _ => ?_) (fun _ => ?_))))))))))))
  · obtain ⟨b, e, -⟩ := isTidy_s h hw
    rw [e, obd_s]
    exact ite_P (P := fun x => ∃ v, x = some v) (fun _ => ⟨_, rfl⟩) (fun _ => ⟨_, rfl⟩)
  · obtain ⟨v, e⟩ := sum_l h hw n 0 16 0 (by omega) (by omega)
    rw [nI_0] at e
    rw [f_X1_sumOfValues, e, obd_s]
    exact ⟨_, rfl⟩
  · rw [shown_s h hw, obd_s]
    exact ⟨_, rfl⟩
  · obtain ⟨v, e⟩ := btc_l h hw n 0 16 0 (by omega) (by omega)
    rw [nI_0] at e
    rw [f_X1_beadsThatCount, e, obd_s]
    exact ⟨_, rfl⟩
theorem worn_s {sz r : Nat} {u w : Nat → Nat} {D : DK} (h : repD sz u w D) (hr : r < 8) : ∃ v, f_X0_isWornAt D (nI r) = some v := by
  rw [f_X0_isWornAt, wearAt_s h hr, obd_s]
  exact ite_P (P := fun x => ∃ v, x = some v) (fun _ => ⟨_, rfl⟩) (fun _ => ⟨_, rfl⟩)
theorem factR_s {k n r : Nat} {a : AS} {F : FR} (h : rep k n a F) (hr : r < 8) (p : Int32) : ∃ v, f_X1_factOfRod F (nI r) p = some v := by
  obtain ⟨x, ex⟩ := worn_s h.2.2.1 hr
  obtain ⟨y, ey⟩ := worn_s h.2.2.2.1 hr
  rw [f_X1_factOfRod, valueAt_s h hr, obd_s, countAt_s h.2.2.1 hr, obd_s, countAt_s h.2.2.2.1 hr, obd_s, wearAt_s h.2.2.1 hr, obd_s, wearAt_s h.2.2.2.1 hr, obd_s, ex, obd_s, ey, obd_s, obd_s]
  refine ite_P (P := fun x => ∃ v, x = some v) (fun _ => ⟨_, rfl⟩) (fun _ => ite_P (P := fun x => ∃ v, x = some v) (fun _ => ⟨_, rfl⟩) (fun _ => ite_P (P := fun x => ∃ v, x = some v) (fun _ => ⟨_, rfl⟩) (fun _ => ite_P (P := fun x => ∃ v, x = some v) (fun _ => ⟨_, rfl⟩) (fun _ => ite_P (P := fun x => ∃ v, x = some v) (fun _ => ⟨_, rfl⟩) (fun _ => ite_P (P := fun x => ∃ v, x = some v) (fun _ => ite_P (P := fun x => ∃ v, x = some v) (fun _ => ⟨_, rfl⟩) (fun _ => ⟨_, rfl⟩)) (fun _ => ite_P (P := fun x => ∃ v, x = some v) (fun _ => ⟨_, rfl⟩) (fun _ => ⟨_, rfl⟩)))))))
theorem mix_s (x y : Int64) : f_X2_mixed x y = some (x * 31 + y) := rfl
theorem mxA_l {k n m : Nat} {a : AS} {F : FR} {Hb : HB} (h : rep k n a F) (hw : wf k n m a) : ∀ (j i g : Nat) (s : Int64), i + j = 13 → j < g → ∃ v, ∀ kk Tr, l_X2_mixedWithFrame_6 Hb F kk g s (nI i) Tr = kk v 13 Tr := by
  intro j
  induction j with
  | zero =>
    intro i g s hi hg
    obtain ⟨g, rfl⟩ : ∃ g', g = g' + 1 := ⟨g - 1, by omega⟩
    obtain rfl : i = 13 := by omega
    refine ⟨s, fun kk Tr => ?_⟩
    rw [l_X2_mixedWithFrame_6, if_pos (by decide)]
    rfl
  | succ j ih =>
    intro i g s hi hg
    obtain ⟨g, rfl⟩ : ∃ g', g = g' + 1 := ⟨g - 1, by omega⟩
    obtain ⟨x, ex⟩ := fact_s h hw (nI i)
    obtain ⟨v, hv⟩ := ih (i + 1) g (s * 31 + x.toInt64) (by omega) (by omega)
    refine ⟨v, fun kk Tr => ?_⟩
    rw [l_X2_mixedWithFrame_6, if_neg (show ¬ (13 : Int32) ≤ nI i from nI_ge (b := 13) (by omega) (by decide)), ex, obd_s, bnd_k, mix_s, obd_s, bnd_k, nI_1]
    exact hv kk Tr
theorem mxB_l {k n m : Nat} {a : AS} {F : FR} {Hb : HB} (h : rep k n a F) (hw : wf k n m a) (hm : m + 8000 < 2 ^ 21) : ∀ (j i g : Nat) (s : Int64), i + j = 4 → j < g → ∃ v, ∀ Tr, ∃ Tr', ∀ kk, l_X2_mixedWithFrame_87 Hb F kk g s (nI i) Tr = kk v 4 Tr' := by
  intro j
  induction j with
  | zero =>
    intro i g s hi hg
    obtain ⟨g, rfl⟩ : ∃ g', g = g' + 1 := ⟨g - 1, by omega⟩
    obtain rfl : i = 4 := by omega
    refine ⟨s, fun Tr => ⟨Tr, fun kk => ?_⟩⟩
    rw [l_X2_mixedWithFrame_87, if_pos (by decide)]
    rfl
  | succ j ih =>
    intro i g s hi hg
    obtain ⟨g, rfl⟩ : ∃ g', g = g' + 1 := ⟨g - 1, by omega⟩
    obtain ⟨v, hv⟩ := ih (i + 1) g (s * 31 + (nI (cnt i (aAdds k n 7 n a)) - nI (cnt i a)).toInt64) (by omega) (by omega)
    refine ⟨v, fun Tr => ?_⟩
    obtain ⟨T1, e1⟩ := countBy_s (Hb := Hb) h hw hm (N := 7) (w := i) (by decide) (by omega) Tr
    have e1 : f_X2_countByAdding Hb F Tr 7 (nI i) = _ := e1
    obtain ⟨T2, h2⟩ := hv T1
    refine ⟨T2, fun kk => ?_⟩
    rw [l_X2_mixedWithFrame_87, if_neg (show ¬ (4 : Int32) ≤ nI i from nI_ge (b := 4) (by omega) (by decide)), e1, obd_s, bnd_k, mix_s, obd_s, bnd_k, nI_1]
    exact h2 kk
theorem mxC_l {k n r : Nat} {a : AS} {F : FR} {Hb : HB} (h : rep k n a F) (hr : r < 8) : ∀ (j i g : Nat) (s : Int64), i + j = 6 → j < g → ∃ v, ∀ kk Tr, l_X2_mixedWithFrame_150 (nI r) Hb F kk g s (nI i) Tr = kk v 6 Tr := by
  intro j
  induction j with
  | zero =>
    intro i g s hi hg
    obtain ⟨g, rfl⟩ : ∃ g', g = g' + 1 := ⟨g - 1, by omega⟩
    obtain rfl : i = 6 := by omega
    refine ⟨s, fun kk Tr => ?_⟩
    rw [l_X2_mixedWithFrame_150, if_pos (by decide)]
    rfl
  | succ j ih =>
    intro i g s hi hg
    obtain ⟨g, rfl⟩ : ∃ g', g = g' + 1 := ⟨g - 1, by omega⟩
    obtain ⟨x, ex⟩ := factR_s h hr (nI i)
    obtain ⟨v, hv⟩ := ih (i + 1) g (s * 31 + x.toInt64) (by omega) (by omega)
    refine ⟨v, fun kk Tr => ?_⟩
    rw [l_X2_mixedWithFrame_150, if_neg (show ¬ (6 : Int32) ≤ nI i from nI_ge (b := 6) (by omega) (by decide)), ex, obd_s, bnd_k, mix_s, obd_s, bnd_k, nI_1]
    exact hv kk Tr
theorem mxD_l {k n m : Nat} {a : AS} {F : FR} {Hb : HB} (h : rep k n a F) (hw : wf k n m a) (hm : m + 8000 < 2 ^ 21) : ∀ (j i g : Nat) (s : Int64), i + j = n → j < g → ∃ v, ∀ Tr, ∃ Tr', ∀ kk, l_X2_mixedWithFrame_138 Hb F kk g s (nI i) Tr = kk v (nI n) Tr' := by
  have hn := hw.2.2.1
  intro j
  induction j with
  | zero =>
    intro i g s hi hg
    obtain ⟨g, rfl⟩ : ∃ g', g = g' + 1 := ⟨g - 1, by omega⟩
    obtain rfl : i = n := by omega
    refine ⟨s, fun Tr => ⟨Tr, fun kk => ?_⟩⟩
    rw [l_X2_mixedWithFrame_138, h.2.1, if_pos (nI_le (by omega) (by omega))]
  | succ j ih =>
    intro i g s hi hg
    obtain ⟨g, rfl⟩ : ∃ g', g = g' + 1 := ⟨g - 1, by omega⟩
    obtain ⟨x, hx⟩ := mxC_l (Hb := Hb) h (show i < 8 by omega) 6 0 16 s (by decide) (by decide)
    rw [nI_0] at hx
    obtain ⟨v, hv⟩ := ih (i + 1) g (x * 31 + (nI (hardN (PB k n i a) 8)).toInt64) (by omega) (by omega)
    refine ⟨v, fun Tr => ?_⟩
    obtain ⟨T1, e1⟩ := hardD_s (Hb := Hb) h hw hm (r := i) (by omega) Tr
    obtain ⟨T2, h2⟩ := hv T1
    refine ⟨T2, fun kk => ?_⟩
    rw [l_X2_mixedWithFrame_138, h.2.1, if_neg (nI_ge (by omega) (by omega)), hx, e1, obd_s, bnd_k, mix_s, obd_s, bnd_k, nI_1]
    exact h2 kk
theorem mxF_s {k n m : Nat} {a : AS} {F : FR} {Hb : HB} (h : rep k n a F) (hw : wf k n m a) (hm : m + 8000 < 2 ^ 21) (s : Int64) : ∃ v, ∀ Tr, ∃ Tr', f_X2_mixedWithFrame Hb F Tr s = some (v, Tr') := by
  have hn := hw.2.2.1
  have ht := hw.2.2.2.2.2.2
  have ht2 := (adds_wf (N := 7) hw).2.2.2.2.2.2
  obtain ⟨v1, h1⟩ := mxA_l (Hb := Hb) h hw 13 0 16 s (by decide) (by decide)
  have d1 := F16_f2d h.2.2.2.2.2.1 (by omega)
  obtain ⟨nn1, -⟩ := d2l16 d1 (by omega)
  obtain ⟨v3, e3⟩ := wts_s h hw
  obtain ⟨v4, e4⟩ := fts_s h hw
  obtain ⟨v5, h5⟩ := mxB_l (Hb := Hb) h hw hm 4 0 16 ((((v1 * 31 + lN (num n a)) * 31 + FP.d2l (FP.dmul 4625196817309499392 (FP.f2d (fSe F)))) * 31 + v3) * 31 + v4.toInt64) (by decide) (by decide)
  obtain ⟨v6, h6⟩ := mxD_l (Hb := Hb) h hw hm n 0 16 (v5 * 31 + Int64.ofInt ((aT (aAdds k n 7 n a) : Int) - (aT a : Int))) (by omega) (by omega)
  rw [nI_0] at h1 h5 h6
  refine ⟨v6, fun Tr => ?_⟩
  obtain ⟨T1, g1⟩ := h5 Tr
  obtain ⟨z, T2, e2, d2⟩ := secondsBy_s (Hb := Hb) h hw hm (N := 7) (by decide) T1
  have e2 : f_X2_secondsByAdding Hb F T1 7 = some (z, T2) := e2
  obtain ⟨nn2, dd2⟩ := d2l16 d2 (by omega)
  obtain ⟨T3, g3⟩ := h6 T2
  refine ⟨T3, ?_⟩
  rw [f_X2_mixedWithFrame, h1, shown_s h hw, obd_s, mix_s, obd_s, D16_nn d1, gd_t, bnd_k, nn1, gd_t, bnd_k, bnd_k, mix_s, obd_s, e3, obd_s, mix_s, obd_s, e4, obd_s, bnd_k, mix_s, obd_s, g1, e2, obd_s]
  dsimp only
  rw [nn2, gd_t, bnd_k, bnd_k, dd2, mix_s, obd_s, g3]
theorem hall_s {k1 n1 k2 n2 m : Nat} {a b : AS} {F G : FR} {Hb : HB} (h : rep k1 n1 a F) (hw : wf k1 n1 m a) (g : rep k2 n2 b G) (gw : wf k2 n2 m b) (p : Int32) : ∃ v, f_X2_factOfHall Hb F G p = some v := by
  rw [f_X2_factOfHall, f_X2_pushesOfAll, bnd_k, bnd_k, obd_s, f_X2_spilledByAll, bnd_k, bnd_k, obd_s, f_X2_pairsThatShowTheSame, shown_s h hw, obd_s, shown_s g gw, obd_s, bnd_k]
  refine ite_P (P := fun x => ∃ v, x = some v) (fun _ => ⟨_, rfl⟩) (fun _ => ite_P (P := fun x => ∃ v, x = some v) (fun _ => ⟨_, rfl⟩) (fun _ => ite_P (P := fun x => ∃ v, x = some v) (fun _ => ⟨_, rfl⟩) (fun _ => ite_P (P := fun x => ∃ v, x = some v) (fun _ => ⟨_, rfl⟩) (fun _ => ?_))))
  split
  · exact ⟨_, rfl⟩
  · exact ⟨_, rfl⟩
theorem dg_l {k1 n1 k2 n2 m : Nat} {a b : AS} {F G : FR} {Hb : HB} (h : rep k1 n1 a F) (hw : wf k1 n1 m a) (g : rep k2 n2 b G) (gw : wf k2 n2 m b) : ∀ (j i q : Nat) (s : Int64), i + j = 5 → j < q → ∃ v, ∀ kk Tr, l_X2_digest_6 Hb F G kk q s (nI i) Tr = kk v 5 Tr := by
  intro j
  induction j with
  | zero =>
    intro i q s hi hg
    obtain ⟨q, rfl⟩ : ∃ g', q = g' + 1 := ⟨q - 1, by omega⟩
    obtain rfl : i = 5 := by omega
    refine ⟨s, fun kk Tr => ?_⟩
    rw [l_X2_digest_6, if_pos (by decide)]
    rfl
  | succ j ih =>
    intro i q s hi hg
    obtain ⟨q, rfl⟩ : ∃ g', q = g' + 1 := ⟨q - 1, by omega⟩
    obtain ⟨x, ex⟩ := hall_s (Hb := Hb) h hw g gw (nI i)
    obtain ⟨v, hv⟩ := ih (i + 1) q (s * 31 + x.toInt64) (by omega) (by omega)
    refine ⟨v, fun kk Tr => ?_⟩
    rw [l_X2_digest_6, if_neg (show ¬ (5 : Int32) ≤ nI i from nI_ge (b := 5) (by omega) (by decide)), ex, obd_s, bnd_k, mix_s, obd_s, bnd_k, nI_1]
    exact hv kk Tr
/-- the digest tells the same, whatever was tried out before -/
theorem digest_s {k1 n1 k2 n2 m : Nat} {a b : AS} {F G : FR} {Hb : HB} (h : rep k1 n1 a F) (hw : wf k1 n1 m a) (g : rep k2 n2 b G) (gw : wf k2 n2 m b) (hm : m + 8000 < 2 ^ 21) (hF : hFc Hb = 2) : ∃ v, ∀ Tr, ∃ Tr', f_X2_digest Hb F G Tr = some (v, Tr') := by
  obtain ⟨v1, h1⟩ := dg_l (Hb := Hb) h hw g gw 5 0 16 58320 (by decide) (by decide)
  obtain ⟨v2, h2⟩ := mxF_s (Hb := Hb) h hw hm v1
  obtain ⟨v3, h3⟩ := mxF_s (Hb := Hb) g gw hm v2
  rw [nI_0] at h1
  refine ⟨v3 * 31 + (nI (quick ((aT (aAdds k1 n1 25 n1 a) : Int) - (aT a : Int)) ((aT (aAdds k2 n2 25 n2 b) : Int) - (aT b : Int)))).toInt64, fun Tr => ?_⟩
  obtain ⟨T2, e2⟩ := h2 Tr
  obtain ⟨T3, e3⟩ := h3 T2
  obtain ⟨T4, e4⟩ := quickTo_s (Hb := Hb) h hw g gw hm (N := 25) (by decide) T3
  have e4 : f_X2_quickerToAdd Hb F G T3 25 = _ := e4
  refine ⟨T4, ?_⟩
  rw [f_X2_digest, h1, e2, obd_s, e3, obd_s, hF, if_neg (by decide), bnd_k, e4, obd_s, bnd_k, mix_s, obd_s]
