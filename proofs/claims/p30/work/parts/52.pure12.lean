-- the pure level, 12: what is kept, by the teller and by the frame
theorem gcp_nI {sp dp c n0 n1 : Nat} (h1 : sp < 2 ^ 31) (h2 : dp < 2 ^ 31) (h3 : c < 2 ^ 31) (h4 : sp + c ≤ n0) (h5 : dp + c ≤ n1) : gcp (nI sp) (nI dp) (nI c) n0 n1 = true := by
  unfold gcp
  rw [nI_toInt h1, nI_toInt h2, nI_toInt h3, nI_clamp h1, nI_clamp h2, nI_clamp h3]
  simp
  omega
theorem glen_nI {c n : Nat} (h : c ≤ n) (hn : n < 2 ^ 31) : glen (nI c) n = true := by
  unfold glen
  rw [nI_toInt (by omega)]
  simp
  omega
theorem gdec_t {p : Prop} [Decidable p] (h : p) : gdec p = true := decide_eq_true h
theorem keepT_s {k n : Nat} {a : AS} {T : TD} {K : KO} (h : trep k n a T) (hn : n ≤ 8) (hK : K.length < 11) :
    ∃ row, f_X3_keep (2 * n) T K = some (K ++ [row]) ∧ ∀ j, j < n → row j = nI (aU a j) ∧ row (n + j) = nI (aD a j) := by
  have e2 : (2 : Int32) * nI n = nI (2 * n) := nI_mul 2 n
  rw [f_X3_keep, bnd_k, h.2.1, e2, glen_nI (show 2 * n ≤ 16 by omega) (by decide), gd_t, nI_clamp (show 2 * n < 2 ^ 31 by omega)]
  have z0 : (0 : Int32) = nI 0 := nI_0.symm
  rw [show gcp 0 0 (nI n) n (2 * n) = true by rw [z0]; exact gcp_nI (by omega) (by omega) (by omega) (by omega) (by omega), gd_t, show gcp 0 (nI n) (nI n) n (2 * n) = true by rw [z0]; exact gcp_nI (by omega) (by omega) (by omega) (by omega) (by omega), gd_t]
  rw [if_neg (show ¬ nI (List.length K) = 12 from fun e => by have := (nI_eq (b := 12) (show List.length K < 2 ^ 31 by omega) (by decide)).mp e; omega)]
  rw [show nI (List.length K) - 0 = nI (List.length K) from Int32.sub_zero _, bnd_k, bnd_k, nI_1, glen_nI (show List.length K + 1 ≤ 13 by omega) (by decide), gd_t, bnd_k, nI_clamp (show List.length K + 1 < 2 ^ 31 by omega)]
  rw [show gcp 0 0 (nI (List.length K)) (List.length K) (List.length K + 1) = true by rw [z0]; exact gcp_nI (by omega) (by omega) (by omega) (by omega) (by omega), gd_t, nI_pred, bnd_k, gin_nI (show List.length K < List.length K + 1 by omega) (by omega), gd_t, gdec_t rfl, gd_t, gdec_t (show List.length K < 12 by omega), gd_t]
  refine ⟨_, rfl, fun j hj => ?_⟩
  obtain ⟨q1, q2, -, -⟩ := h.2.2.1 j hj
  have c0 : Int32.toNatClampNeg 0 = 0 := by decide
  rw [c0, nI_clamp (show n < 2 ^ 31 by omega)]
  constructor
  · rw [pk_cpy_out (Or.inl hj), pk_cpy_in (Nat.zero_le _) (by omega), show 0 + (j - 0) = j by omega]
    exact q1
  · rw [pk_cpy_in (by omega) (by omega), show 0 + (n + j - n) = j by omega]
    exact q2
theorem keepK_s {k n : Nat} {a : AS} {F : FR} {K : KO} {row : Nat → Int32} (h : rep k n a F) (hn : n ≤ 8) (hq : keptI n K (kpt F)) (hK : K.length < 11) (hrow : ∀ j, j < n → row j = nI (aU a j) ∧ row (n + j) = nI (aD a j)) :
    ∃ F', f_X1_keepBeads F = some F' ∧ rep k n a F' ∧ keptI n (K ++ [row]) (kpt F') := by
  obtain ⟨-, e1, e2, e3⟩ := hq
  have e1 : fKc F = nI K.length := e1
  have e2 : fNs F = nI K.length := e2
  obtain ⟨h1, h2, h3, h4, h5, h6, h7, h8, h9, h10, h11⟩ := h
  obtain ⟨kpA, f1, a1, a2⟩ := keepIn_s (show K.length < 12 by omega) (fAb F)
  obtain ⟨kpB, f2, b1, b2⟩ := keepIn_s (show K.length < 12 by omega) (fBe F)
  rw [f_X1_keepBeads, e2, f1, obd_s, f2, obd_s, bnd_k, nI_1]
  rw [show nI (K.length + 1) - nI (K.length + 1) / 12 * 12 = nI ((K.length + 1) % 12) from pk_rem (d := 12) (by omega) (by decide) (by decide), e1, bnd_k, if_neg (show ¬ (12 : Int32) ≤ nI K.length from nI_ge (b := 12) (by omega) (by decide)), bnd_k, nI_1]
  refine ⟨_, rfl, ⟨h1, h2, h3, h4, h5, h6, h7, h8, h9, h10, h11⟩, ?_, ?_, ?_, ?_⟩
  · rw [List.length_append]
    show K.length + 1 < 12
    omega
  · rw [List.length_append]
    rfl
  · rw [List.length_append]
    show nI ((K.length + 1) % 12) = nI (K.length + 1)
    rw [Nat.mod_eq_of_lt (by omega)]
  · intro i r hr j hj
    show kpA (i * 8 + j) = _ ∧ kpB (i * 8 + j) = _
    by_cases c : i = K.length
    · subst c
      rw [List.getElem?_append_right (Nat.le_refl _), Nat.sub_self] at hr
      obtain rfl : row = r := Option.some.inj hr
      rw [a1 j (by omega), b1 j (by omega), (hrow j hj).1, (hrow j hj).2]
      exact ⟨h3.2.1 j (by omega), h4.2.1 j (by omega)⟩
    · have hi : i < K.length := by
        have := (List.getElem?_eq_some_iff.mp hr).1
        rw [List.length_append] at this
        have : i < K.length + 1 := this
        omega
      rw [List.getElem?_append_left hi] at hr
      rw [a2 (i * 8 + j) (Or.inl (by omega)), b2 (i * 8 + j) (Or.inl (by omega))]
      exact e3 i r hr j hj
