-- the pure level, 1: the frame's state in whole numbers; a deck's push
theorem gd_t {β : Type} {k : Option β} : gd true k = k := rfl
theorem obd_s {α β : Type} {a : α} {k : α → Option β} : obd (some a) k = k a := rfl
theorem gin_nI {j n : Nat} (h : j < n) (hn : n < 2 ^ 31) : gin (nI j) n = true := by
  unfold gin
  rw [nI_toInt (by omega)]
  simp
  omega
def dist (a b : Nat) : Nat := (a - b) + (b - a)
theorem abs16 : ∀ r : Fin 16, ∀ h : Fin 16, (if (0 : Int32) ≤ nI r.val - nI h.val then nI r.val - nI h.val else 0 - (nI r.val - nI h.val)) = nI (dist r.val h.val) := by decide +kernel
theorem absd {r h : Nat} (hr : r < 16) (hh : h < 16) : (if (0 : Int32) ≤ nI r - nI h then nI r - nI h else 0 - (nI r - nI h)) = nI (dist r h) := abs16 ⟨r, hr⟩ ⟨h, hh⟩
def ABk (k : Nat) : Nat := if k = 0 then 1 else if k = 1 then 2 else 0
def BEk (k : Nat) : Nat := if k = 0 then 4 else if k = 1 then 5 else 10
theorem ABk_le (k : Nat) : ABk k ≤ 2 := by unfold ABk; split <;> (try split) <;> omega
theorem BEk_le (k : Nat) : BEk k ≤ 10 := by unfold BEk; split <;> (try split) <;> omega
def updN (f : Nat → Nat) (k x : Nat) : Nat → Nat := fun j => if j = k then x else f j
/-- counts above, counts below, wear above, wear below, hand, sixteenths, pushes, beads, carries, loans, spilled -/
abbrev AS : Type := (Nat → Nat) × (Nat → Nat) × (Nat → Nat) × (Nat → Nat) × Nat × Nat × Nat × Nat × Nat × Nat × Nat
abbrev aU (a : AS) : Nat → Nat := a.1
abbrev aD (a : AS) : Nat → Nat := a.2.1
abbrev aWu (a : AS) : Nat → Nat := a.2.2.1
abbrev aWd (a : AS) : Nat → Nat := a.2.2.2.1
abbrev aHd (a : AS) : Nat := a.2.2.2.2.1
abbrev aT (a : AS) : Nat := a.2.2.2.2.2.1
abbrev aP (a : AS) : Nat := a.2.2.2.2.2.2.1
abbrev aB (a : AS) : Nat := a.2.2.2.2.2.2.2.1
abbrev aC (a : AS) : Nat := a.2.2.2.2.2.2.2.2.1
abbrev aL (a : AS) : Nat := a.2.2.2.2.2.2.2.2.2.1
abbrev aS (a : AS) : Nat := a.2.2.2.2.2.2.2.2.2.2
def repD (sz : Nat) (u w : Nat → Nat) (D : DK) : Prop := dSz D = nI sz ∧ (∀ j, j < 8 → dCn D j = nI (u j)) ∧ ∀ j, j < 8 → dWe D j = nI (w j)
/-- the frame F of kind k with n rods stands for a -/
def rep (k n : Nat) (a : AS) (F : FR) : Prop := fKd F = nI k ∧ fRd F = nI n ∧ repD (ABk k) (aU a) (aWu a) (fAb F) ∧ repD (BEk k) (aD a) (aWd a) (fBe F) ∧ fHa F = nI (aHd a) ∧ F16 (aT a) (fSe F) ∧ fPu F = nI (aP a) ∧ fBd F = nI (aB a) ∧ fCa F = nI (aC a) ∧ fLo F = nI (aL a) ∧ fSp F = nI (aS a)
/-- no more beads than there are, and time and wear of at most m -/
def wf (k n m : Nat) (a : AS) : Prop := k < 3 ∧ 2 ≤ n ∧ n ≤ 8 ∧ (∀ j, j < 8 → aU a j ≤ ABk k ∧ aD a j ≤ BEk k) ∧ (∀ j, j < 8 → aWu a j ≤ m ∧ aWd a j ≤ m) ∧ aHd a < 8 ∧ aT a ≤ m
theorem clampI {j : Nat} (h : j < 8) : Int32.toNatClampNeg (nI j) = j := nI_clamp (by omega)
theorem lt0 {j : Nat} (h : j < 2 ^ 31) : ¬ nI j < 0 := nI_pos h
theorem le8 {j : Nat} (h : j < 8) : ¬ (8 : Int32) ≤ nI j := nI_ge (a := j) (b := 8) h (by decide)
theorem countAt_s {sz : Nat} {u w : Nat → Nat} {D : DK} (h : repD sz u w D) {j : Nat} (hj : j < 8) : f_X0_countAt D (nI j) = some (nI (u j)) := by
  unfold f_X0_countAt
  rw [if_neg (lt0 (by omega)), if_neg (le8 hj), gin_nI hj (by decide), clampI hj, h.2.1 j hj]
  rfl
theorem wearAt_s {sz : Nat} {u w : Nat → Nat} {D : DK} (h : repD sz u w D) {j : Nat} (hj : j < 8) : f_X0_wearAt D (nI j) = some (nI (w j)) := by
  unfold f_X0_wearAt
  rw [if_neg (lt0 (by omega)), if_neg (le8 hj), gin_nI hj (by decide), clampI hj, h.2.2 j hj]
  rfl
def aV (a : AS) (j : Nat) : Nat := 5 * aU a j + aD a j
theorem nI_mul (a b : Nat) : nI a * nI b = nI (a * b) := (Int32.ofNat_mul a b).symm
theorem valueAt_s {k n : Nat} {a : AS} {F : FR} (h : rep k n a F) {j : Nat} (hj : j < 8) : f_X1_valueAt F (nI j) = some (nI (aV a j)) := by
  unfold f_X1_valueAt
  rw [countAt_s h.2.2.1 hj, countAt_s h.2.2.2.1 hj]
  show some (nI 5 * nI (aU a j) + nI (aD a j)) = _
  rw [nI_mul, nI_add]
  rfl
theorem nI_subI (a b : Nat) : nI b + (nI a - nI b) = nI a := by
  rw [Int32.add_comm, Int32.sub_add_cancel]
theorem nI_sub0 (a : Nat) : nI a - nI a = 0 := Int32.sub_self _
theorem F16_at {k : Int} {j : Int} {a : UInt32} (h : F16 k a) (e : k = j) : F16 j a := e ▸ h
theorem moveHand_s {F : FR} {r h t : Nat} (hr : r < 8) (hh : h < 8) (e1 : fHa F = nI h) (e2 : F16 t (fSe F)) (ht : t < 2 ^ 23) : ∃ z, f_X1_moveHand F (nI r) = some (sfSe (sfHa F (nI r)) z) ∧ F16 ((t + 2 * dist r h : Nat) : Int) z := by
  unfold f_X1_moveHand
  have hd : dist r h < 8 := by unfold dist; omega
  simp only [bnd, e1, absd (show r < 16 by omega) (show h < 16 by omega)]
  by_cases c : dist r h = 0
  · rw [if_pos (by rw [c]; decide)]
    have hrh : r = h := by unfold dist at c; omega
    refine ⟨fSe F, ?_, ?_⟩
    · rw [hrh, ← e1]
    · rw [c]
      exact e2
  · rw [if_neg (nI_nle (by omega) (by omega))]
    have w := i2f_whole (x := nI (dist r h)) (by rw [nI_toInt (by omega)]; omega)
    rw [nI_toInt (by omega)] at w
    have p := F16_mul c8 w (by omega)
    have q := F16_add e2 p (by omega)
    rw [F16_nn p, gd_t, F16_nn q, gd_t]
    exact ⟨_, rfl, F16_at q (by omega)⟩
