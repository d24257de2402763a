-- the pure level, 8: what is kept
theorem bnd_k {α β : Type} (x : α) (k : α → Option β) : bnd x k = k x := rfl
theorem keepIn_l {s : Nat} (hs : s < 12) : ∀ (j i g : Nat) (D : DK), i + j = 8 → j < g →
    ∃ kp, l_X0_keepIn_7 (nI (s * 8)) (fun (a32 : Int32) (F33 : DK) => some F33) g (nI i) D = some (sdKp D kp) ∧ (∀ y, i ≤ y → y < 8 → kp (s * 8 + y) = dCn D y) ∧ ∀ x, (x < s * 8 + i ∨ s * 8 + 8 ≤ x) → kp x = dKp D x := by
  intro j
  induction j with
  | zero =>
    intro i g D h hg
    obtain ⟨g, rfl⟩ : ∃ g', g = g' + 1 := ⟨g - 1, by omega⟩
    obtain rfl : i = 8 := by omega
    rw [l_X0_keepIn_7, if_pos (show (8 : Int32) ≤ nI 8 by decide)]
    exact ⟨dKp D, rfl, fun y h1 h2 => by omega, fun x _ => rfl⟩
  | succ j ih =>
    intro i g D h hg
    obtain ⟨g, rfl⟩ : ∃ g', g = g' + 1 := ⟨g - 1, by omega⟩
    rw [l_X0_keepIn_7, if_neg (le8 (by omega))]
    simp only [bnd, nI_add, nI_1]
    rw [if_neg (lt0 (by omega)), if_neg (show ¬ (96 : Int32) ≤ nI (s * 8 + i) from nI_ge (b := 96) (by omega) (by decide)), gin_nI (show i < 8 by omega) (by decide), gin_nI (show s * 8 + i < 96 by omega) (by decide), gd_t, gd_t, clampI (show i < 8 by omega), nI_clamp (show s * 8 + i < 2 ^ 31 by omega)]
    obtain ⟨kp, h1, h2, h3⟩ := ih (i + 1) g (sdKp D (upd (dKp D) (s * 8 + i) (dCn D i))) (by omega) (by omega)
    refine ⟨kp, h1, fun y hy1 hy2 => ?_, fun x hx => ?_⟩
    · by_cases c : y = i
      · subst c
        rw [h3 (s * 8 + y) (Or.inl (by omega))]
        show upd (dKp D) (s * 8 + y) (dCn D y) (s * 8 + y) = _
        rw [updI_at, if_pos rfl]
      · exact h2 y (by omega) hy2
    · rw [h3 x (by omega)]
      show upd (dKp D) (s * 8 + i) (dCn D i) x = _
      rw [updI_at, if_neg (by omega)]
theorem keepIn_s {s : Nat} (hs : s < 12) (D : DK) : ∃ kp, f_X0_keepIn D (nI s) = some (sdKp D kp) ∧ (∀ y, y < 8 → kp (s * 8 + y) = dCn D y) ∧ ∀ x, (x < s * 8 ∨ s * 8 + 8 ≤ x) → kp x = dKp D x := by
  have e8 : nI s * 8 = nI (s * 8) := nI_mul s 8
  rw [f_X0_keepIn, bnd_k, e8, ← nI_0]
  obtain ⟨kp, h1, h2, h3⟩ := keepIn_l hs 8 0 16 D (by omega) (by omega)
  exact ⟨kp, h1, fun y hy => h2 y (Nat.zero_le _) hy, fun x hx => h3 x (by omega)⟩
theorem restoreIn_l {s : Nat} (hs : s < 12) : ∀ (j i g : Nat) (D : DK), i + j = 8 → j < g →
    ∃ cn, l_X0_restoreFrom_7 (nI (s * 8)) (fun (a32 : Int32) (F33 : DK) => some F33) g (nI i) D = some (sdCn D cn) ∧ (∀ y, i ≤ y → y < 8 → cn y = dKp D (s * 8 + y)) ∧ ∀ x, x < i → cn x = dCn D x := by
  intro j
  induction j with
  | zero =>
    intro i g D h hg
    obtain ⟨g, rfl⟩ : ∃ g', g = g' + 1 := ⟨g - 1, by omega⟩
    obtain rfl : i = 8 := by omega
    rw [l_X0_restoreFrom_7, if_pos (show (8 : Int32) ≤ nI 8 by decide)]
    exact ⟨dCn D, rfl, fun y h1 h2 => by omega, fun x _ => rfl⟩
  | succ j ih =>
    intro i g D h hg
    obtain ⟨g, rfl⟩ : ∃ g', g = g' + 1 := ⟨g - 1, by omega⟩
    rw [l_X0_restoreFrom_7, if_neg (le8 (by omega))]
    simp only [bnd, nI_add, nI_1]
    rw [if_neg (lt0 (by omega)), if_neg (show ¬ (96 : Int32) ≤ nI (s * 8 + i) from nI_ge (b := 96) (by omega) (by decide)), gin_nI (show i < 8 by omega) (by decide), gin_nI (show s * 8 + i < 96 by omega) (by decide), gd_t, gd_t, clampI (show i < 8 by omega), nI_clamp (show s * 8 + i < 2 ^ 31 by omega)]
    obtain ⟨cn, h1, h2, h3⟩ := ih (i + 1) g (sdCn D (upd (dCn D) i (dKp D (s * 8 + i)))) (by omega) (by omega)
    refine ⟨cn, h1, fun y hy1 hy2 => ?_, fun x hx => ?_⟩
    · by_cases c : y = i
      · subst c
        rw [h3 y (by omega)]
        show upd (dCn D) y _ y = _
        rw [updI_at, if_pos rfl]
      · exact h2 y (by omega) hy2
    · rw [h3 x (by omega)]
      show upd (dCn D) i _ x = _
      rw [updI_at, if_neg (by omega)]
theorem restoreIn_s {s : Nat} (hs : s < 12) (D : DK) : ∃ cn, f_X0_restoreFrom D (nI s) = some (sdCn D cn) ∧ ∀ y, y < 8 → cn y = dKp D (s * 8 + y) := by
  have e8 : nI s * 8 = nI (s * 8) := nI_mul s 8
  rw [f_X0_restoreFrom, bnd_k, e8, ← nI_0]
  obtain ⟨cn, h1, h2, h3⟩ := restoreIn_l hs 8 0 16 D (by omega) (by omega)
  exact ⟨cn, h1, fun y hy => h2 y (Nat.zero_le _) hy⟩
/-- the frame's own rings can be used: so many are kept, the next goes to slot s -/
def ringOk (q : KP) : Prop := ∃ c s : Nat, c ≤ 12 ∧ s < 12 ∧ q.2.2.1 = nI c ∧ q.2.2.2 = nI s
/-- what the teller keeps stands in the frame's rings, from slot 0 on -/
def keptI (n : Nat) (K : KO) (q : KP) : Prop := K.length < 12 ∧ q.2.2.1 = nI K.length ∧ q.2.2.2 = nI K.length ∧ ∀ i (r : Nat → Int32), K[i]? = some r → ∀ j, j < n → q.1 (i * 8 + j) = r j ∧ q.2.1 (i * 8 + j) = r (n + j)
theorem keepBeads_s {k n : Nat} {a : AS} {F : FR} (h : rep k n a F) (hq : ringOk (kpt F)) : ∃ F', f_X1_keepBeads F = some F' ∧ rep k n a F' ∧ ringOk (kpt F') := by
  obtain ⟨c, s, hc, hs, e1, e2⟩ := hq
  have e1 : fKc F = nI c := e1
  have e2 : fNs F = nI s := e2
  obtain ⟨h1, h2, h3, h4, h5, h6, h7, h8, h9, h10, h11⟩ := h
  unfold f_X1_keepBeads
  obtain ⟨kpA, f1, -, -⟩ := keepIn_s hs (fAb F)
  obtain ⟨kpB, f2, -, -⟩ := keepIn_s hs (fBe F)
  rw [e2, f1, obd_s, f2, obd_s]
  simp only [bnd, nI_1]
  rw [show nI (s + 1) - nI (s + 1) / 12 * 12 = nI ((s + 1) % 12) from pk_rem (d := 12) (by omega) (by decide) (by decide), e1]
  have hr : ∀ kc : Int32, rep k n a (sfNs (sfKc (sfBe (sfAb F (sdKp (fAb F) kpA)) (sdKp (fBe F) kpB)) kc) (nI ((s + 1) % 12))) := fun kc => ⟨h1, h2, h3, h4, h5, h6, h7, h8, h9, h10, h11⟩
  by_cases c12 : c = 12
  · subst c12
    rw [if_pos (by decide)]
    exact ⟨_, rfl, hr (fKc F), ⟨12, (s + 1) % 12, by omega, Nat.mod_lt _ (by decide), e1, rfl⟩⟩
  · rw [if_neg (show ¬ (12 : Int32) ≤ nI c from nI_ge (b := 12) (by omega) (by decide))]
    exact ⟨_, rfl, hr _, ⟨c + 1, (s + 1) % 12, by omega, Nat.mod_lt _ (by decide), nI_1 c, rfl⟩⟩
