-- the pure level, 16: what is kept, with its bounds; the hall's back, push, grease
def keptJ (k n : Nat) (K : KO) (q : KP) : Prop := K.length < 12 ∧ q.2.2.1 = nI K.length ∧ q.2.2.2 = nI K.length ∧ ∀ i (r : Nat → Int32), K[i]? = some r → ∃ u d : Nat → Nat, (∀ j, j < 8 → (u j ≤ ABk k ∧ d j ≤ BEk k) ∧ q.1 (i * 8 + j) = nI (u j) ∧ q.2.1 (i * 8 + j) = nI (d j)) ∧ ∀ j, j < n → r j = nI (u j) ∧ r (n + j) = nI (d j)
theorem keepJ_s {k n m : Nat} {a : AS} {F : FR} {K : KO} {row : Nat → Int32} (h : rep k n a F) (hw : wf k n m a) (hq : keptJ k n K (kpt F)) (hK : K.length < 11) (hrow : ∀ j, j < n → row j = nI (aU a j) ∧ row (n + j) = nI (aD a j)) :
    ∃ F', f_X1_keepBeads F = some F' ∧ rep k n a F' ∧ keptJ k n (K ++ [row]) (kpt F') := by
  obtain ⟨-, e1, e2, e3⟩ := hq
  have e1 : fKc F = nI K.length := e1
  have e2 : fNs F = nI K.length := e2
  obtain ⟨h1, h2, h3, h4, h5, h6, h7, h8, h9, h10, h11⟩ := h
  obtain ⟨kpA, f1, a1, a2⟩ := keepIn_s (show K.length < 12 by omega) (fAb F)
  obtain ⟨kpB, f2, b1, b2⟩ := keepIn_s (show K.length < 12 by omega) (fBe F)
  rw [f_X1_keepBeads, e2, f1, obd_s, f2, obd_s, bnd_k, nI_1]
  rw [show nI (K.length + 1) - nI (K.length + 1) / 12 * 12 = nI ((K.length + 1) % 12) from pk_rem (d := 12) (by omega) (by decide) (by decide), e1, bnd_k, if_neg (show ¬ (12 : Int32) ≤ nI K.length from nI_ge (b := 12) (by omega) (by decide)), bnd_k, nI_1]
  refine ⟨_, rfl, ⟨h1, h2, h3, h4, h5, h6, h7, h8, h9, h10, h11⟩, ?_, ?_, ?_, ?_⟩
  · rw [List.length_append]
    show K.length + 1 < 12
    omega
  · rw [List.length_append]
    rfl
  · rw [List.length_append]
    show nI ((K.length + 1) % 12) = nI (K.length + 1)
    rw [Nat.mod_eq_of_lt (by omega)]
  · intro i r hr
    by_cases c : i = K.length
    · subst c
      rw [List.getElem?_append_right (Nat.le_refl _), Nat.sub_self] at hr
      obtain rfl : row = r := Option.some.inj hr
      refine ⟨aU a, aD a, fun j hj => ⟨hw.2.2.2.1 j hj, ?_⟩, hrow⟩
      show kpA (K.length * 8 + j) = _ ∧ kpB (K.length * 8 + j) = _
      rw [a1 j hj, b1 j hj]
      exact ⟨h3.2.1 j hj, h4.2.1 j hj⟩
    · have hi : i < K.length := by
        have := (List.getElem?_eq_some_iff.mp hr).1
        rw [List.length_append] at this
        have : i < K.length + 1 := this
        omega
      rw [List.getElem?_append_left hi] at hr
      obtain ⟨u, d, q1, q2⟩ := e3 i r hr
      refine ⟨u, d, fun j hj => ⟨(q1 j hj).1, ?_⟩, q2⟩
      show kpA (i * 8 + j) = _ ∧ kpB (i * 8 + j) = _
      rw [a2 (i * 8 + j) (Or.inl (by omega)), b2 (i * 8 + j) (Or.inl (by omega))]
      exact (q1 j hj).2
theorem keptJ.ring {k n : Nat} {K : KO} {q : KP} (h : keptJ k n K q) : ringOk q := ⟨K.length, K.length, by have := h.1; omega, h.1, h.2.1, h.2.2.1⟩
/-- both keep -/
theorem keep2_s {k n m : Nat} {a : AS} {F : FR} {T : TD} {K : KO} (h : rep k n a F) (t : trep k n a T) (hw : wf k n m a) (hq : keptJ k n K (kpt F)) (hK : K.length < 11) :
    ∃ row F', f_X3_keep (2 * n) T K = some (K ++ [row]) ∧ f_X1_keepBeads F = some F' ∧ rep k n a F' ∧ keptJ k n (K ++ [row]) (kpt F') := by
  obtain ⟨row, e, hr⟩ := keepT_s t hw.2.2.1 hK
  obtain ⟨F', f, r, q⟩ := keepJ_s h hw hq hK hr
  exact ⟨row, F', e, f, r, q⟩
def aBack (u d : Nat → Nat) (a : AS) : AS := (u, d, aWu a, aWd a, aHd a, aT a, aP a, aB a, aC a, aL a, aS a)
theorem backX_s {k n m : Nat} {a : AS} {F : FR} {Hb : HB} {p0 : Int32} {K : KO} {row : Nat → Int32} (h : rep k n a F) (hw : wf k n m a) (hq : keptJ k n (K ++ [row]) (kpt F)) :
    ∃ F' u d, f_X2_back Hb F p0 = some (nI K.length, F') ∧ rep k n (aBack u d a) F' ∧ wf k n m (aBack u d a) ∧ keptJ k n K (kpt F') ∧ ∀ j, j < n → row j = nI (u j) ∧ row (n + j) = nI (d j) := by
  obtain ⟨e0, e1, e2, e3⟩ := hq
  rw [List.length_append] at e0 e1 e2
  have e0 : K.length + 1 < 12 := e0
  have e1 : fKc F = nI (K.length + 1) := e1
  have e2 : fNs F = nI (K.length + 1) := e2
  obtain ⟨h1, h2, h3, h4, h5, h6, h7, h8, h9, h10, h11⟩ := h
  obtain ⟨w1, w2, w3, w4, w5, w6, w7⟩ := hw
  obtain ⟨u, d, q1, q2⟩ := e3 K.length row (by rw [List.getElem?_append_right (Nat.le_refl _), Nat.sub_self]; rfl)
  have hK : K.length < 12 := by omega
  obtain ⟨cA, f1, a1⟩ := restoreIn_s hK (fAb F)
  obtain ⟨cB, f2, b1⟩ := restoreIn_s hK (fBe F)
  have es : fNs F + 12 - 1 - (fNs F + 12 - 1) / 12 * 12 = nI K.length := by
    rw [e2, show nI (K.length + 1) + 12 = nI (K.length + 12 + 1) by rw [show K.length + 12 + 1 = K.length + 1 + 12 by omega]; exact nI_add _ 12, nI_pred, show nI (K.length + 12) - nI (K.length + 12) / 12 * 12 = nI ((K.length + 12) % 12) from pk_rem (d := 12) (by omega) (by decide) (by decide)]
    congr 1
    omega
  refine ⟨sfNs (sfKc (sfBe (sfAb F (sdCn (fAb F) cA)) (sdCn (fBe F) cB)) (fKc F - 1)) (nI K.length), u, d, ?_, ⟨h1, h2, ⟨h3.1, fun j hj => ?_, h3.2.2⟩, ⟨h4.1, fun j hj => ?_, h4.2.2⟩, h5, h6, h7, h8, h9, h10, h11⟩, ⟨w1, w2, w3, fun j hj => (q1 j hj).1, w5, w6, w7⟩, ⟨hK, ?_, rfl, fun i r hr => ?_⟩, q2⟩
  · rw [f_X2_back, show f_X2_foundFrame Hb p0 = some () from rfl, obd_s, if_pos (by rw [e1]; exact nI_lt (a := 0) (by omega) (by omega)), f_X1_restoreBeads, bnd_k, bnd_k, bnd_k, es, f1, obd_s, f2, obd_s, bnd_k, obd_s]
    show some (fKc F - 1, _) = _
    rw [e1, nI_pred]
  · show cA j = nI (u j)
    rw [a1 j hj]
    exact (q1 j hj).2.1
  · show cB j = nI (d j)
    rw [b1 j hj]
    exact (q1 j hj).2.2
  · show fKc F - 1 = nI K.length
    rw [e1, nI_pred]
  · have hi : i < K.length := (List.getElem?_eq_some_iff.mp hr).1
    exact e3 i r (by rw [List.getElem?_append_left hi]; exact hr)
theorem mv64 : ∀ x : Fin 16, ∀ c : Fin 16, (nI c.val).toInt64 + (nI x.val - nI c.val).toInt64 = lN x.val := by decide +kernel
theorem canMove_s {sz x r : Nat} {u w : Nat → Nat} {D : DK} (h : repD sz u w D) (hs : sz < 16) (hr : r < 8) (hu : u r < 16) (hx : x ≤ sz) : f_X0_canMove D (nI r) (nI x - nI (u r)) = some 1 := by
  rw [f_X0_canMove, countAt_s h hr, obd_s, bnd_k, bnd_k, bnd_k, mv64 ⟨x, by omega⟩ ⟨u r, hu⟩, bnd_k, if_neg (fun z => by
    have := (lg_cmp_lt _ _).mp z
    exact Nat.not_lt_zero x ((lN_lt (a := x) (b := 0) (by omega) (by decide)).mp this)), bnd_k, h.1, nI_l (by omega), bnd_k, if_neg (fun z => by
    have := (lN_lt (a := sz) (b := x) (by omega) (by omega)).mp ((lg_cmp_gt _ _).mp z)
    omega)]
theorem pushXB_s {k n m r x : Nat} {a : AS} {F F1 : FR} {Hb : HB} {p0 : Int32} (h : rep k n a F) (hw : wf k n m a) (hm : m + 2000 < 2 ^ 21) (hr : r < n) (hx : x ≤ BEk k) (hne : x ≠ aD a r) (hk : f_X1_keepBeads F = some F1) (h1 : rep k n a F1) :
    ∃ F', f_X2_push Hb F p0 (nI r) 0 (nI x - nI (aD a r)) = some (nI (aV (aPd r x a) r), F') ∧ rep k n (aPd r x a) F' ∧ kpt F' = kpt F1 := by
  have hn := hw.2.2.1
  have hB := BEk_le k
  have hd := (hw.2.2.2.1 r (by omega)).2
  obtain ⟨F2, f2, r2, k2⟩ := mv_s h1 hw (by omega) (r := r) (by omega)
  obtain ⟨F3, f3, r3, k3⟩ := pd_s r2 (mv_wf hw (by omega)) (by omega) (r := r) (x := x) (by omega) (by omega)
  have f3 : f_X1_pushDeckB F2 (nI r) (nI x - nI (aD a r)) = some F3 := f3
  have q := nI_inj16 (a := x) (b := aD a r) (by omega) (by omega)
  rw [show aPd r x a = pd r x (aMv r a) from if_neg hne]
  rw [f_X2_push, hasRod_s h hn hr, obd_s, if_neg (fun z => hne (q.mp z)), if_pos rfl, canMove_s h.2.2.2.1 (by omega) (by omega) (by omega) hx, obd_s, if_neg (by decide), hk, obd_s, f2, obd_s, f3, obd_s, valueAt_s r3 (by omega), obd_s]
  exact ⟨F3, rfl, r3, k3.trans k2⟩
theorem pushXA_s {k n m r x : Nat} {a : AS} {F F1 : FR} {Hb : HB} {p0 : Int32} (h : rep k n a F) (hw : wf k n m a) (hm : m + 2000 < 2 ^ 21) (hr : r < n) (hx : x ≤ ABk k) (hne : x ≠ aU a r) (hk : f_X1_keepBeads F = some F1) (h1 : rep k n a F1) :
    ∃ F', f_X2_push Hb F p0 (nI r) 1 (nI x - nI (aU a r)) = some (nI (aV (aPu r x a) r), F') ∧ rep k n (aPu r x a) F' ∧ kpt F' = kpt F1 := by
  have hn := hw.2.2.1
  have hA := ABk_le k
  have hd := (hw.2.2.2.1 r (by omega)).1
  obtain ⟨F2, f2, r2, k2⟩ := mv_s h1 hw (by omega) (r := r) (by omega)
  obtain ⟨F3, f3, r3, k3⟩ := pu_s r2 (mv_wf hw (by omega)) (by omega) (r := r) (x := x) (by omega) (by omega)
  have f3 : f_X1_pushDeck F2 (nI r) (nI x - nI (aU a r)) = some F3 := f3
  have q := nI_inj16 (a := x) (b := aU a r) (by omega) (by omega)
  rw [show aPu r x a = pu r x (aMv r a) from if_neg hne]
  rw [f_X2_push, hasRod_s h hn hr, obd_s, if_neg (fun z => hne (q.mp z)), if_neg (by decide), canMove_s h.2.2.1 (by omega) (by omega) (by omega) hx, obd_s, if_neg (by decide), hk, obd_s, f2, obd_s, f3, obd_s, valueAt_s r3 (by omega), obd_s]
  exact ⟨F3, rfl, r3, k3.trans k2⟩
theorem Pd_wf {k n m r x : Nat} {a : AS} (hw : wf k n m a) (hr : r < 8) (hx : x ≤ BEk k) : wf k n (m + 100) (aPd r x a) := by
  unfold aPd
  split
  · exact wf_mono hw (by omega)
  · exact wf_mono (pd_wf (mv_wf hw hr) hr hx) (by omega)
theorem Pu_wf {k n m r x : Nat} {a : AS} (hw : wf k n m a) (hr : r < 8) (hx : x ≤ ABk k) : wf k n (m + 100) (aPu r x a) := by
  unfold aPu
  split
  · exact wf_mono hw (by omega)
  · exact wf_mono (pu_wf (mv_wf hw hr) hr hx) (by omega)
def aGr (r : Nat) (a : AS) : AS := (aU a, aD a, updN (aWu a) r 0, updN (aWd a) r 0, aHd a, aT a + 32, aP a, aB a, aC a, aL a, aS a)
theorem aGr_wf {k n m r : Nat} {a : AS} (hw : wf k n m a) : wf k n (m + 100) (aGr r a) := by
  obtain ⟨w1, w2, w3, w4, w5, w6, w7⟩ := hw
  refine ⟨w1, w2, w3, w4, fun j hj => ?_, w6, ?_⟩
  · have := w5 j hj
    show updN (aWu a) r 0 j ≤ _ ∧ updN (aWd a) r 0 j ≤ _
    rw [updN_at, updN_at]
    split <;> omega
  · show aT a + 32 ≤ m + 100
    omega
theorem freshen_s {sz r : Nat} {u w : Nat → Nat} {D : DK} (h : repD sz u w D) (hr : r < 8) : ∃ D', f_X0_freshen D (nI r) = some D' ∧ repD sz u (updN w r 0) D' ∧ dKp D' = dKp D := by
  rw [f_X0_freshen, if_neg (lt0 (by omega)), if_neg (le8 hr), gin_nI hr (by decide), gd_t, clampI hr]
  refine ⟨_, rfl, ⟨h.1, h.2.1, fun j hj => ?_⟩, rfl⟩
  have e := upd_nI h.2.2 (r := r) 0 j hj
  rw [nI_0] at e
  exact e
theorem greaseX_s {k n m r : Nat} {a : AS} {F : FR} {Hb : HB} {p0 : Int32} (h : rep k n a F) (hw : wf k n m a) (hm : m + 2000 < 2 ^ 21) (hr : r < n) :
    ∃ F', f_X2_grease Hb F p0 (nI r) = some (nI (aWu a r + aWd a r), F') ∧ rep k n (aGr r a) F' ∧ kpt F' = kpt F := by
  have hn := hw.2.2.1
  have h0 := h
  obtain ⟨h1, h2, h3, h4, h5, h6, h7, h8, h9, h10, h11⟩ := h
  obtain ⟨w1, w2, w3, w4, w5, w6, w7⟩ := hw
  obtain ⟨D1, f1, r1, k1⟩ := freshen_s h3 (r := r) (by omega)
  obtain ⟨D2, f2, r2, k2⟩ := freshen_s h4 (r := r) (by omega)
  have q := F16_add h6 f2p (by omega)
  rw [f_X2_grease, hasRod_s h0 hn hr, obd_s, f_X1_greaseRod, wearAt_s h3 (by omega), obd_s, wearAt_s h4 (by omega), obd_s, bnd_k, nI_add, f1, obd_s, f2, obd_s, F16_nn q, gd_t, bnd_k, obd_s]
  refine ⟨_, rfl, ⟨h1, h2, r1, r2, h5, F16_at q (by show (aT a : Int) + 32 = ((aT a + 32 : Nat) : Int); omega), h7, h8, h9, h10, h11⟩, ?_⟩
  show (dKp D1, dKp D2, fKc F, fNs F) = _
  rw [k1, k2]
  rfl
