theorem pushDeckA_s {F : FR} {r c x w t : Nat} (hr : r < 8) (hc : c < 16) (hx : x < 16) (e1 : dCn (fAb F) r = nI c) (e2 : dWe (fAb F) r = nI w) (hw : w < 2 ^ 23) (e3 : F16 t (fSe F)) (ht : t < 2 ^ 23) :
    ∃ z, f_X1_pushDeck F (nI r) (nI x - nI c) = some (sfBd (sfPu (sfSe (sfAb F (sdWe (sdCn (fAb F) (upd (dCn (fAb F)) r (nI x))) (upd (dWe (fAb F)) r (nI (w + dist x c))))) z) (fPu F + 1)) (fBd F + nI (dist x c))) ∧ F16 ((t + (4 + dist x c) * (if 40 ≤ w then 2 else 1) : Nat) : Int) z := by
  have hd : dist x c < 16 := by unfold dist; omega
  have w0 := i2f_whole (x := nI (dist x c)) (by rw [nI_toInt (by omega)]; omega)
  rw [nI_toInt (by omega)] at w0
  have p := F16_mul c16 w0 (by omega)
  have q := F16_add c4 p (by omega)
  unfold f_X1_pushDeck
  rw [if_neg (lt0 (by omega)), if_neg (le8 hr), if_pos (show nI r < 8 from nI_lt (b := 8) hr (by decide))]
  simp only [bnd, absd hx hc, gin_nI hr (show 8 < 2 ^ 31 by decide), gd_t, clampI hr, e1, e2, nI_subI, nI_add, F16_nn p, F16_nn q]
  by_cases c40 : 40 ≤ w
  · rw [if_neg (show ¬ nI w < 40 from nI_nlt (b := 40) c40 (by omega)), if_pos c40]
    have q2 := F16_mul q f2w (by omega)
    have q3 := F16_add e3 q2 (by omega)
    rw [F16_nn q2, gd_t, F16_nn q3, gd_t]
    exact ⟨_, rfl, F16_at q3 (by omega)⟩
  · rw [if_pos (show nI w < 40 from nI_lt (b := 40) (by omega) (by decide)), if_neg c40]
    have q3 := F16_add e3 q (by omega)
    rw [F16_nn q3, gd_t]
    exact ⟨_, rfl, F16_at q3 (by omega)⟩
theorem pushDeckB_s {F : FR} {r c x w t : Nat} (hr : r < 8) (hc : c < 16) (hx : x < 16) (e1 : dCn (fBe F) r = nI c) (e2 : dWe (fBe F) r = nI w) (hw : w < 2 ^ 23) (e3 : F16 t (fSe F)) (ht : t < 2 ^ 23) :
    ∃ z, f_X1_pushDeckB F (nI r) (nI x - nI c) = some (sfBd (sfPu (sfSe (sfBe F (sdWe (sdCn (fBe F) (upd (dCn (fBe F)) r (nI x))) (upd (dWe (fBe F)) r (nI (w + dist x c))))) z) (fPu F + 1)) (fBd F + nI (dist x c))) ∧ F16 ((t + (4 + dist x c) * (if 40 ≤ w then 2 else 1) : Nat) : Int) z := by
  have hd : dist x c < 16 := by unfold dist; omega
  have w0 := i2f_whole (x := nI (dist x c)) (by rw [nI_toInt (by omega)]; omega)
  rw [nI_toInt (by omega)] at w0
  have p := F16_mul c16 w0 (by omega)
  have q := F16_add c4 p (by omega)
  unfold f_X1_pushDeckB
  rw [if_neg (lt0 (by omega)), if_neg (le8 hr), if_pos (show nI r < 8 from nI_lt (b := 8) hr (by decide))]
  simp only [bnd, absd hx hc, gin_nI hr (show 8 < 2 ^ 31 by decide), gd_t, clampI hr, e1, e2, nI_subI, nI_add, F16_nn p, F16_nn q]
  by_cases c40 : 40 ≤ w
  · rw [if_neg (show ¬ nI w < 40 from nI_nlt (b := 40) c40 (by omega)), if_pos c40]
    have q2 := F16_mul q f2w (by omega)
    have q3 := F16_add e3 q2 (by omega)
    rw [F16_nn q2, gd_t, F16_nn q3, gd_t]
    exact ⟨_, rfl, F16_at q3 (by omega)⟩
  · rw [if_pos (show nI w < 40 from nI_lt (b := 40) (by omega) (by decide)), if_neg c40]
    have q3 := F16_add e3 q (by omega)
    rw [F16_nn q3, gd_t]
    exact ⟨_, rfl, F16_at q3 (by omega)⟩
/-- the frame with the sizes of kind k -/
def dkS (s : Nat) : DK := (nI s, fun _ => 0, fun _ => 0, fun _ => 0)
def frS (k : Nat) : FR := (nI k, 0, dkS (ABk k), dkS (BEk k), 0, 0, 0, 0, 0, 0, 0, 0, 0)
theorem l_best_cong {c1 c2 c3 : Int32} {F G : FR} (h : dSz (fBe F) = dSz (fBe G)) (k : Int32 → Int32 → Int32 → Int32 → Option Int32) : ∀ (n : Nat) (a1 a2 a3 a4 : Int32), l_X1_bestUp_18 c1 c2 c3 F k n a1 a2 a3 a4 = l_X1_bestUp_18 c1 c2 c3 G k n a1 a2 a3 a4 := by
  intro n
  induction n with
  | zero => intros; rfl
  | succ n ih =>
    intro a1 a2 a3 a4
    rw [l_X1_bestUp_18, l_X1_bestUp_18, h]
    simp only [ih]
theorem best_cong {F G : FR} {a b c : Int32} (h1 : dSz (fAb F) = dSz (fAb G)) (h2 : dSz (fBe F) = dSz (fBe G)) : f_X1_bestUp F a b c = f_X1_bestUp G a b c := by
  unfold f_X1_bestUp
  rw [h1]
  exact l_best_cong h2 _ _ _ _ _ _
/-- of the ways to show v the one that the frame takes: fewest pushes, then fewest beads, then the greater up -/
def cost (v u d b : Nat) : Nat := 100 * ((if b = u then 0 else 1) + (if v - 5 * b = d then 0 else 1)) + dist b u + dist (v - 5 * b) d
def okB (k v b : Nat) : Bool := decide (b ≤ ABk k) && decide (5 * b ≤ v) && decide (v - 5 * b ≤ BEk k)
def best (k v u d : Nat) : Nat :=
  let f := fun (b c : Nat) => if okB k v b && (!(okB k v c) || decide (cost v u d b < cost v u d c)) then b else c
  f 0 (f 1 2)
theorem best_tab : ∀ k : Fin 3, ∀ v : Fin 16, ∀ u : Fin 3, ∀ d : Fin 11, v.val ≤ 5 * ABk k.val + BEk k.val → (okB k.val v.val (best k.val v.val u.val d.val) = true ∧ f_X1_bestUp (frS k.val) (nI v.val) (nI u.val) (nI d.val) = some (nI (best k.val v.val u.val d.val))) := by decide +kernel
