-- the pure level, 3: a rod is set
def aMv (r : Nat) (a : AS) : AS := (aU a, aD a, aWu a, aWd a, r, aT a + 2 * dist r (aHd a), aP a, aB a, aC a, aL a, aS a)
def pu (r x : Nat) (a : AS) : AS := (updN (aU a) r x, aD a, updN (aWu a) r (aWu a r + dist x (aU a r)), aWd a, aHd a, aT a + (4 + dist x (aU a r)) * (if 40 ≤ aWu a r then 2 else 1), aP a + 1, aB a + dist x (aU a r), aC a, aL a, aS a)
def pd (r x : Nat) (a : AS) : AS := (aU a, updN (aD a) r x, aWu a, updN (aWd a) r (aWd a r + dist x (aD a r)), aHd a, aT a + (4 + dist x (aD a r)) * (if 40 ≤ aWd a r then 2 else 1), aP a + 1, aB a + dist x (aD a r), aC a, aL a, aS a)
def aPu (r x : Nat) (a : AS) : AS := if x = aU a r then a else pu r x (aMv r a)
def aPd (r x : Nat) (a : AS) : AS := if x = aD a r then a else pd r x (aMv r a)
def aSet (k r v : Nat) (a : AS) : AS := aPd r (v - 5 * best k v (aU a r) (aD a r)) (aPu r (best k v (aU a r) (aD a r)) a)
/-- what is kept in the frame's own cells -/
abbrev KP : Type := (Nat → Int32) × (Nat → Int32) × Int32 × Int32
def kpt (F : FR) : KP := (dKp (fAb F), dKp (fBe F), fKc F, fNs F)
theorem dist_self (r : Nat) : dist r r = 0 := by unfold dist; omega
theorem aMv_id {r : Nat} {a : AS} (h : aHd a = r) : aMv r a = a := by
  subst h
  unfold aMv
  rw [dist_self]
  rfl
theorem upd_nI {f : Nat → Int32} {g : Nat → Nat} {r : Nat} (h : ∀ j, j < 8 → f j = nI (g j)) (x : Nat) : ∀ j, j < 8 → upd f r (nI x) j = nI (updN g r x j) := by
  intro j hj
  unfold upd updN
  by_cases c : j = r
  · rw [if_pos c, if_pos c]
  · rw [if_neg c, if_neg c]
    exact h j hj
theorem mv_s {k n m : Nat} {a : AS} {F : FR} (h : rep k n a F) (hw : wf k n m a) (hm : m < 2 ^ 22) {r : Nat} (hr : r < 8) : ∃ F', f_X1_moveHand F (nI r) = some F' ∧ rep k n (aMv r a) F' ∧ kpt F' = kpt F := by
  obtain ⟨h1, h2, h3, h4, h5, h6, h7, h8, h9, h10, h11⟩ := h
  obtain ⟨w1, w2, w3, w4, w5, w6, w7⟩ := hw
  obtain ⟨z, e, hz⟩ := moveHand_s hr w6 h5 h6 (by omega)
  exact ⟨_, e, ⟨h1, h2, h3, h4, rfl, hz, h7, h8, h9, h10, h11⟩, rfl⟩
theorem pu_s {k n m : Nat} {a : AS} {F : FR} (h : rep k n a F) (hw : wf k n m a) (hm : m < 2 ^ 22) {r x : Nat} (hr : r < 8) (hx : x < 16) : ∃ F', f_X1_pushDeck F (nI r) (nI x - nI (aU a r)) = some F' ∧ rep k n (pu r x a) F' ∧ kpt F' = kpt F := by
  obtain ⟨h1, h2, h3, h4, h5, h6, h7, h8, h9, h10, h11⟩ := h
  obtain ⟨w1, w2, w3, w4, w5, w6, w7⟩ := hw
  have hA := ABk_le k
  obtain ⟨z, e, hz⟩ := pushDeckA_s (F := F) (c := aU a r) (x := x) (w := aWu a r) hr (by have := (w4 r hr).1; omega) hx (h3.2.1 r hr) (h3.2.2 r hr) (by have := (w5 r hr).1; omega) h6 (by omega)
  refine ⟨_, e, ⟨h1, h2, ⟨h3.1, upd_nI h3.2.1 x, upd_nI h3.2.2 _⟩, h4, h5, hz, ?_, ?_, h9, h10, h11⟩, rfl⟩
  · show fPu F + 1 = nI (aP a + 1)
    rw [h7, nI_1]
  · show fBd F + nI _ = nI (aB a + _)
    rw [h8, nI_add]
theorem pd_s {k n m : Nat} {a : AS} {F : FR} (h : rep k n a F) (hw : wf k n m a) (hm : m < 2 ^ 22) {r x : Nat} (hr : r < 8) (hx : x < 16) : ∃ F', f_X1_pushDeckB F (nI r) (nI x - nI (aD a r)) = some F' ∧ rep k n (pd r x a) F' ∧ kpt F' = kpt F := by
  obtain ⟨h1, h2, h3, h4, h5, h6, h7, h8, h9, h10, h11⟩ := h
  obtain ⟨w1, w2, w3, w4, w5, w6, w7⟩ := hw
  have hA := BEk_le k
  obtain ⟨z, e, hz⟩ := pushDeckB_s (F := F) (c := aD a r) (x := x) (w := aWd a r) hr (by have := (w4 r hr).2; omega) hx (h4.2.1 r hr) (h4.2.2 r hr) (by have := (w5 r hr).2; omega) h6 (by omega)
  refine ⟨_, e, ⟨h1, h2, h3, ⟨h4.1, upd_nI h4.2.1 x, upd_nI h4.2.2 _⟩, h5, hz, ?_, ?_, h9, h10, h11⟩, rfl⟩
  · show fPu F + 1 = nI (aP a + 1)
    rw [h7, nI_1]
  · show fBd F + nI _ = nI (aB a + _)
    rw [h8, nI_add]
theorem mv_wf {k n m : Nat} {a : AS} (hw : wf k n m a) {r : Nat} (hr : r < 8) : wf k n (m + 14) (aMv r a) := by
  obtain ⟨w1, w2, w3, w4, w5, w6, w7⟩ := hw
  refine ⟨w1, w2, w3, w4, fun j hj => ⟨Nat.le_trans (w5 j hj).1 (by omega), Nat.le_trans (w5 j hj).2 (by omega)⟩, hr, ?_⟩
  show aT a + 2 * dist r (aHd a) ≤ m + 14
  unfold dist
  omega
theorem pu_wf {k n m : Nat} {a : AS} (hw : wf k n m a) {r x : Nat} (hr : r < 8) (hx : x ≤ ABk k) : wf k n (m + 28) (pu r x a) := by
  obtain ⟨w1, w2, w3, w4, w5, w6, w7⟩ := hw
  have hA := ABk_le k
  have hu := (w4 r hr).1
  have hd : dist x (aU a r) ≤ 10 := by unfold dist; omega
  refine ⟨w1, w2, w3, fun j hj => ⟨?_, (w4 j hj).2⟩, fun j hj => ⟨?_, Nat.le_trans (w5 j hj).2 (by omega)⟩, w6, ?_⟩
  · show updN (aU a) r x j ≤ _
    unfold updN
    split
    · exact hx
    · exact (w4 j hj).1
  · show updN (aWu a) r _ j ≤ _
    unfold updN
    have h1 := (w5 j hj).1
    have h2 := (w5 r hr).1
    split <;> omega
  · show aT a + (4 + dist x (aU a r)) * (if 40 ≤ aWu a r then 2 else 1) ≤ m + 28
    split <;> omega
theorem pd_wf {k n m : Nat} {a : AS} (hw : wf k n m a) {r x : Nat} (hr : r < 8) (hx : x ≤ BEk k) : wf k n (m + 28) (pd r x a) := by
  obtain ⟨w1, w2, w3, w4, w5, w6, w7⟩ := hw
  have hA := BEk_le k
  have hu := (w4 r hr).2
  have hd : dist x (aD a r) ≤ 10 := by unfold dist; omega
  refine ⟨w1, w2, w3, fun j hj => ⟨(w4 j hj).1, ?_⟩, fun j hj => ⟨Nat.le_trans (w5 j hj).1 (by omega), ?_⟩, w6, ?_⟩
  · show updN (aD a) r x j ≤ _
    unfold updN
    split
    · exact hx
    · exact (w4 j hj).2
  · show updN (aWd a) r _ j ≤ _
    unfold updN
    have h1 := (w5 j hj).2
    have h2 := (w5 r hr).2
    split <;> omega
  · show aT a + (4 + dist x (aD a r)) * (if 40 ≤ aWd a r then 2 else 1) ≤ m + 28
    split <;> omega
theorem wf_mono {k n m m' : Nat} {a : AS} (hw : wf k n m a) (h : m ≤ m') : wf k n m' a := by
  obtain ⟨w1, w2, w3, w4, w5, w6, w7⟩ := hw
  exact ⟨w1, w2, w3, w4, fun j hj => ⟨Nat.le_trans (w5 j hj).1 h, Nat.le_trans (w5 j hj).2 h⟩, w6, Nat.le_trans w7 h⟩
theorem best_ok {k n m v r : Nat} {a : AS} (hw : wf k n m a) (hr : r < 8) (hv : v ≤ 5 * ABk k + BEk k) :
    best k v (aU a r) (aD a r) ≤ ABk k ∧ 5 * best k v (aU a r) (aD a r) ≤ v ∧ v - 5 * best k v (aU a r) (aD a r) ≤ BEk k ∧ f_X1_bestUp (frS k) (nI v) (nI (aU a r)) (nI (aD a r)) = some (nI (best k v (aU a r) (aD a r))) := by
  obtain ⟨w1, w2, w3, w4, w5, w6, w7⟩ := hw
  have hu := (w4 r hr).1
  have hd := (w4 r hr).2
  have hA := ABk_le k
  have hB := BEk_le k
  have hm : 5 * ABk k + BEk k < 16 := by
    rcases (show k = 0 ∨ k = 1 ∨ k = 2 by omega) with rfl | rfl | rfl <;> decide
  have := best_tab ⟨k, w1⟩ ⟨v, by omega⟩ ⟨aU a r, by omega⟩ ⟨aD a r, by omega⟩ hv
  obtain ⟨h1, h2⟩ := this
  simp only [okB, Bool.and_eq_true, decide_eq_true_eq] at h1
  exact ⟨h1.1.1, h1.1.2, h1.2, h2⟩
theorem nI_inj16 {a b : Nat} (ha : a < 2 ^ 31) (hb : b < 2 ^ 31) : nI a - nI b = 0 ↔ a = b := by
  constructor
  · intro h
    have h1 : nI a = nI b := by
      have := nI_subI a b
      rw [h, Int32.add_zero] at this
      exact this.symm
    exact (nI_eq ha hb).mp h1
  · intro h
    rw [h]
    exact nI_sub0 b
theorem nI_subN {a b : Nat} (h : b ≤ a) : nI a - nI b = nI (a - b) := by
  have := nI_add (a - b) b
  rw [Nat.sub_add_cancel h] at this
  rw [← this, Int32.add_sub_cancel]
theorem aSet_wf {k n m : Nat} {a : AS} (hw : wf k n m a) {r v : Nat} (hr : r < 8) (hv : v ≤ 5 * ABk k + BEk k) : wf k n (m + 100) (aSet k r v a) := by
  obtain ⟨b1, b2, b3, -⟩ := best_ok hw hr hv
  have h1 : wf k n (m + 42) (aPu r (best k v (aU a r) (aD a r)) a) := by
    unfold aPu
    split
    · exact wf_mono hw (by omega)
    · exact wf_mono (pu_wf (mv_wf hw hr) hr b1) (by omega)
  unfold aSet aPd
  split
  · exact wf_mono h1 (by omega)
  · exact wf_mono (pd_wf (mv_wf h1 hr) hr b3) (by omega)
theorem setRod_s {k n m : Nat} {a : AS} {F : FR} (h : rep k n a F) (hw : wf k n m a) (hm : m < 2 ^ 21) {r v : Nat} (hr : r < 8) (hv : v ≤ 5 * ABk k + BEk k) : ∃ F', f_X1_setRod F (nI r) (nI v) = some F' ∧ rep k n (aSet k r v a) F' ∧ kpt F' = kpt F := by
  obtain ⟨b1, b2, b3, b4⟩ := best_ok hw hr hv
  have hA := ABk_le k
  have hB := BEk_le k
  have hu := (hw.2.2.2.1 r hr).1
  have hd := (hw.2.2.2.1 r hr).2
  unfold f_X1_setRod
  rw [countAt_s h.2.2.1 hr, obd_s, countAt_s h.2.2.2.1 hr, obd_s, best_cong (G := frS k) h.2.2.1.1 h.2.2.2.1.1, b4, obd_s]
  unfold aSet
  generalize hbe : best k v (aU a r) (aD a r) = b at *
  rw [if_neg (show ¬ nI b = -1 by rcases (show b = 0 ∨ b = 1 ∨ b = 2 by omega) with rfl | rfl | rfl <;> decide)]
  have e5 : nI v - 5 * nI b = nI (v - 5 * b) := by
    rw [show (5 : Int32) * nI b = nI (5 * b) from nI_mul 5 b]
    exact nI_subN b2
  simp only [bnd, e5]
  have hv16 : v - 5 * b < 16 := by omega
  have q1 := nI_inj16 (a := b) (b := aU a r) (by omega) (by omega)
  have q2 := nI_inj16 (a := v - 5 * b) (b := aD a r) (by omega) (by omega)
  by_cases c1 : b = aU a r
  · rw [if_pos (q1.mpr c1)]
    have ea : aPu r b a = a := if_pos c1
    rw [ea]
    by_cases c2 : v - 5 * b = aD a r
    · rw [if_pos (q2.mpr c2)]
      rw [show aPd r (v - 5 * b) a = a from if_pos c2]
      exact ⟨F, rfl, h, rfl⟩
    · rw [if_neg (fun z => c2 (q2.mp z))]
      rw [show aPd r (v - 5 * b) a = pd r (v - 5 * b) (aMv r a) from if_neg c2]
      obtain ⟨F1, f1, r1, k1⟩ := mv_s h hw (by omega) hr
      obtain ⟨F2, f2, r2, k2⟩ := pd_s r1 (mv_wf hw hr) (by omega) (x := v - 5 * b) hr hv16
      rw [f1, obd_s, if_pos (q1.mpr c1), if_neg (fun z => c2 (q2.mp z))]
      have f2 : f_X1_pushDeckB F1 (nI r) (nI (v - 5 * b) - nI (aD a r)) = some F2 := f2
      rw [f2, obd_s]
      exact ⟨F2, rfl, r2, k2.trans k1⟩
  · rw [if_neg (fun z => c1 (q1.mp z))]
    have ea : aPu r b a = pu r b (aMv r a) := if_neg c1
    rw [ea]
    obtain ⟨F1, f1, r1, k1⟩ := mv_s h hw (by omega) hr
    obtain ⟨F2, f2, r2, k2⟩ := pu_s r1 (mv_wf hw hr) (by omega) (x := b) hr (by omega)
    rw [f1, obd_s, if_neg (fun z => c1 (q1.mp z))]
    have f2 : f_X1_pushDeck F1 (nI r) (nI b - nI (aU a r)) = some F2 := f2
    rw [f2, obd_s]
    by_cases c2 : v - 5 * b = aD a r
    · rw [if_pos (q2.mpr c2)]
      rw [show aPd r (v - 5 * b) (pu r b (aMv r a)) = pu r b (aMv r a) from if_pos c2]
      exact ⟨F2, rfl, r2, k2.trans k1⟩
    · rw [if_neg (fun z => c2 (q2.mp z))]
      rw [show aPd r (v - 5 * b) (pu r b (aMv r a)) = pd r (v - 5 * b) (aMv r (pu r b (aMv r a))) from if_neg c2, show aMv r (pu r b (aMv r a)) = pu r b (aMv r a) from aMv_id rfl]
      obtain ⟨F3, f3, r3, k3⟩ := pd_s r2 (pu_wf (mv_wf hw hr) hr b1) (by omega) (x := v - 5 * b) hr hv16
      have f3 : f_X1_pushDeckB F2 (nI r) (nI (v - 5 * b) - nI (aD a r)) = some F3 := f3
      rw [f3, obd_s]
      exact ⟨F3, rfl, r3, k3.trans (k2.trans k1)⟩
