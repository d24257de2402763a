-- the pure level, 4: the teller sets a rod
/-- the teller T stands for a, time and hand aside -/
def trep (k n : Nat) (a : AS) (T : TD) : Prop := tKi T = nI k ∧ tN T = n ∧ (∀ j, j < n → tUp T j = nI (aU a j) ∧ tDn T j = nI (aD a j) ∧ tWa T j = nI (aWu a j) ∧ tWb T j = nI (aWd a j)) ∧ tSm T 0 = nI (aP a) ∧ tSm T 1 = nI (aB a) ∧ tSm T 2 = nI (aC a) ∧ tSm T 3 = nI (aL a) ∧ tSm T 4 = nI (aS a)
def tkp (T : TD) : Int32 × Int32 := (tDr T, tNu T)
theorem obd_obd {α β γ : Type} (x : Option α) (f : α → Option β) (g : β → Option γ) : obd (obd x f) g = obd x (fun a => obd (f a) g) := by
  cases x <;> rfl
theorem obd_ite {β γ : Type} (c : Prop) [Decidable c] (x y : Option β) (g : β → Option γ) : obd (if c then x else y) g = if c then obd x g else obd y g := by
  split <;> rfl
theorem gd_obd {β γ : Type} (b : Bool) (x : Option β) (g : β → Option γ) : obd (gd b x) g = gd b (obd x g) := by
  cases b <;> rfl
theorem set_cong {r : Int32} {c2 : Int32} {T S : TD} (K : Int32 → TD → Option TD) (h1 : f_X3_downs T = f_X3_downs S) (h2 : ∀ x y, f_X3_pushes T r x y = f_X3_pushes S 0 x y) (h3 : ∀ x y, f_X3_beads T r x y = f_X3_beads S 0 x y) :
    ∀ (n : Nat) (a2 a3 : Int32), l_X3_set_8 r c2 (fun b _ T' => K b T') n a2 a3 T = obd (l_X3_set_8 0 c2 (fun b _ S' => some (stHa S' b)) n a2 a3 S) (fun Z => K (tHa Z) T) := by
  intro n
  induction n with
  | zero => intros; rfl
  | succ n ih =>
    intro a2 a3
    rw [l_X3_set_8, l_X3_set_8]
    simp only [bnd, h1, h2, h3, ih, obd_obd, obd_ite]
    rfl
def tdS (k u d : Nat) : TD := (0, 0, nI k, 1, (fun _ => nI u), (fun _ => nI d), (fun _ => 0), (fun _ => 0), (fun _ => 0), 0, 0)
theorem setT_tab : ∀ k : Fin 3, ∀ v : Fin 16, ∀ u : Fin 3, ∀ d : Fin 11, v.val ≤ 5 * ABk k.val + BEk k.val → ((l_X3_set_8 0 (nI v.val) (fun b _ S' => some (stHa S' b)) 16 (-1) (nI (ABk k.val)) (tdS k.val u.val d.val)).map fun Z => tHa Z) = some (nI (best k.val v.val u.val d.val)) := by decide +kernel
theorem ups_s {k : Nat} {T : TD} (h : tKi T = nI k) (hk : k < 3) : f_X3_ups T = some (nI (ABk k)) := by
  unfold f_X3_ups
  rw [h]
  rcases (show k = 0 ∨ k = 1 ∨ k = 2 by omega) with rfl | rfl | rfl <;> rfl
theorem downs_s {k : Nat} {T : TD} (h : tKi T = nI k) (hk : k < 3) : f_X3_downs T = some (nI (BEk k)) := by
  unfold f_X3_downs
  rw [h]
  rcases (show k = 0 ∨ k = 1 ∨ k = 2 by omega) with rfl | rfl | rfl <;> rfl
theorem updI_at {f : Nat → Int32} {i j : Nat} {x : Int32} : upd f i x j = if j = i then x else f j := rfl
theorem moveA_s {k n : Nat} {a : AS} {T : TD} (h : trep k n a T) (hn : n ≤ 8) {r x : Nat} (hr : r < n) (hx : x < 16) (hu : aU a r < 16) : ∃ T', f_X3_move T (nI r) (nI x - nI (aU a r)) = some T' ∧ trep k n (aPu r x a) T' ∧ tkp T' = tkp T := by
  obtain ⟨h1, h2, h3, h4, h5, h6, h7, h8⟩ := h
  unfold f_X3_move aPu
  have q1 := nI_inj16 (a := x) (b := aU a r) (by omega) (by omega)
  by_cases c : x = aU a r
  · rw [if_pos (q1.mpr c), if_pos c]
    exact ⟨T, rfl, ⟨h1, h2, h3, h4, h5, h6, h7, h8⟩, rfl⟩
  · rw [if_neg (fun z => c (q1.mp z)), if_neg c]
    obtain ⟨e1, e2, e3, e4⟩ := h3 r hr
    have g0 : gin 0 5 = true := by decide
    have g1 : gin 1 5 = true := by decide
    have z0 : Int32.toNatClampNeg 0 = 0 := by decide
    have z1 : Int32.toNatClampNeg 1 = 1 := by decide
    have gr : gin (nI r) (tN T) = true := by rw [h2]; exact gin_nI hr (by omega)
    simp only [bnd, absd hx hu, gr, gd_t, clampI (show r < 8 by omega), g0, g1, z0, z1, e1, e3, nI_subI, nI_add]
    have key : ∀ z : Int64, trep k n (pu r x (aMv r a)) (stTi (stHa (stSm (stWa (stUp T (upd (tUp T) r (nI x))) (upd (tWa T) r (nI (aWu a r + dist x (aU a r))))) (upd (upd (tSm T) 0 (tSm T 0 + 1)) 1 (upd (tSm T) 0 (tSm T 0 + 1) 1 + nI (dist x (aU a r))))) (nI r)) z) := by
      intro z
      refine ⟨h1, h2, fun j hj => ?_, ?_, ?_, h6, h7, h8⟩
      · obtain ⟨f1, f2, f3, f4⟩ := h3 j hj
        refine ⟨?_, f2, ?_, f4⟩
        · show upd (tUp T) r (nI x) j = nI (updN (aU a) r x j)
          unfold updN
          rw [updI_at]
          split
          · rfl
          · exact f1
        · show upd (tWa T) r (nI (aWu a r + dist x (aU a r))) j = nI (updN (aWu a) r (aWu a r + dist x (aU a r)) j)
          unfold updN
          rw [updI_at]
          split
          · rfl
          · exact f3
      · show tSm T 0 + 1 = nI (aP a + 1)
        rw [h4, nI_1]
      · show tSm T 1 + nI (dist x (aU a r)) = nI (aB a + dist x (aU a r))
        rw [h5, nI_add]
    split
    · exact ⟨_, rfl, key _, rfl⟩
    · exact ⟨_, rfl, key _, rfl⟩
theorem moveB_s {k n : Nat} {a : AS} {T : TD} (h : trep k n a T) (hn : n ≤ 8) {r x : Nat} (hr : r < n) (hx : x < 16) (hu : aD a r < 16) : ∃ T', f_X3_moveB T (nI r) (nI x - nI (aD a r)) = some T' ∧ trep k n (aPd r x a) T' ∧ tkp T' = tkp T := by
  obtain ⟨h1, h2, h3, h4, h5, h6, h7, h8⟩ := h
  unfold f_X3_moveB aPd
  have q1 := nI_inj16 (a := x) (b := aD a r) (by omega) (by omega)
  by_cases c : x = aD a r
  · rw [if_pos (q1.mpr c), if_pos c]
    exact ⟨T, rfl, ⟨h1, h2, h3, h4, h5, h6, h7, h8⟩, rfl⟩
  · rw [if_neg (fun z => c (q1.mp z)), if_neg c]
    obtain ⟨e1, e2, e3, e4⟩ := h3 r hr
    have g0 : gin 0 5 = true := by decide
    have g1 : gin 1 5 = true := by decide
    have z0 : Int32.toNatClampNeg 0 = 0 := by decide
    have z1 : Int32.toNatClampNeg 1 = 1 := by decide
    have gr : gin (nI r) (tN T) = true := by rw [h2]; exact gin_nI hr (by omega)
    simp only [bnd, absd hx hu, gr, gd_t, clampI (show r < 8 by omega), g0, g1, z0, z1, e2, e4, nI_subI, nI_add]
    have key : ∀ z : Int64, trep k n (pd r x (aMv r a)) (stTi (stHa (stSm (stWb (stDn T (upd (tDn T) r (nI x))) (upd (tWb T) r (nI (aWd a r + dist x (aD a r))))) (upd (upd (tSm T) 0 (tSm T 0 + 1)) 1 (upd (tSm T) 0 (tSm T 0 + 1) 1 + nI (dist x (aD a r))))) (nI r)) z) := by
      intro z
      refine ⟨h1, h2, fun j hj => ?_, ?_, ?_, h6, h7, h8⟩
      · obtain ⟨f1, f2, f3, f4⟩ := h3 j hj
        refine ⟨f1, ?_, f3, ?_⟩
        · show upd (tDn T) r (nI x) j = nI (updN (aD a) r x j)
          unfold updN
          rw [updI_at]
          split
          · rfl
          · exact f2
        · show upd (tWb T) r (nI (aWd a r + dist x (aD a r))) j = nI (updN (aWd a) r (aWd a r + dist x (aD a r)) j)
          unfold updN
          rw [updI_at]
          split
          · rfl
          · exact f4
      · show tSm T 0 + 1 = nI (aP a + 1)
        rw [h4, nI_1]
      · show tSm T 1 + nI (dist x (aD a r)) = nI (aB a + dist x (aD a r))
        rw [h5, nI_add]
    split
    · exact ⟨_, rfl, key _, rfl⟩
    · exact ⟨_, rfl, key _, rfl⟩
theorem setT_s {k n m : Nat} {a : AS} {T : TD} (h : trep k n a T) (hw : wf k n m a) {r v : Nat} (hr : r < n) (hv : v ≤ 5 * ABk k + BEk k) : ∃ T', f_X3_set T (nI r) (nI v) = some T' ∧ trep k n (aSet k r v a) T' ∧ tkp T' = tkp T := by
  have hn : n ≤ 8 := hw.2.2.1
  obtain ⟨b1, b2, b3, b4⟩ := best_ok hw (show r < 8 by omega) hv
  have hA := ABk_le k
  have hB := BEk_le k
  have hu := (hw.2.2.2.1 r (by omega)).1
  have hd := (hw.2.2.2.1 r (by omega)).2
  have hm16 : 5 * ABk k + BEk k < 16 := by
    rcases (show k = 0 ∨ k = 1 ∨ k = 2 by have := hw.1; omega) with rfl | rfl | rfl <;> decide
  obtain ⟨e1, e2, e3, e4⟩ := h.2.2.1 r hr
  have tab := setT_tab ⟨k, hw.1⟩ ⟨v, by omega⟩ ⟨aU a r, by omega⟩ ⟨aD a r, by omega⟩ hv
  have gr : gin (nI r) (tN T) = true := by rw [h.2.1]; exact gin_nI hr (by omega)
  have g1 : gin 0 1 = true := by decide
  unfold f_X3_set
  rw [ups_s h.1 hw.1, obd_s, set_cong (S := tdS k (aU a r) (aD a r)) (fun b T' => _) ?_ ?_ ?_]
  · cases hX : l_X3_set_8 0 (nI v) (fun b _ S' => some (stHa S' b)) 16 (-1) (nI (ABk k)) (tdS k (aU a r) (aD a r)) with
    | none =>
      rw [show l_X3_set_8 0 (nI (⟨v, by omega⟩ : Fin 16).val) _ 16 (-1) (nI (ABk (⟨k, hw.1⟩ : Fin 3).val)) _ = _ from hX] at tab
      cases tab
    | some Z =>
      rw [show l_X3_set_8 0 (nI (⟨v, by omega⟩ : Fin 16).val) _ 16 (-1) (nI (ABk (⟨k, hw.1⟩ : Fin 3).val)) _ = _ from hX] at tab
      have hZ : tHa Z = nI (best k v (aU a r) (aD a r)) := Option.some.inj tab
      rw [obd_s, hZ]
      unfold aSet
      generalize best k v (aU a r) (aD a r) = b at *
      have e5 : nI v - 5 * nI b = nI (v - 5 * b) := by
        rw [show (5 : Int32) * nI b = nI (5 * b) from nI_mul 5 b]
        exact nI_subN b2
      simp only [bnd, e5, gr, gd_t, clampI (show r < 8 by omega), e1]
      obtain ⟨T1, f1, r1, k1⟩ := moveA_s h hn hr (x := b) (by omega) (by omega)
      have hd1 : aD (aPu r b a) r = aD a r := by
        unfold aPu
        split <;> rfl
      obtain ⟨T2, f2, r2, k2⟩ := moveB_s r1 hn hr (x := v - 5 * b) (by omega) (by rw [hd1]; omega)
      rw [hd1] at f2
      have gr1 : gin (nI r) (tN T1) = true := by rw [r1.2.1]; exact gin_nI hr (by omega)
      rw [f1, obd_s, gr1, gd_t, (r1.2.2.1 r hr).2.1, hd1, f2]
      exact ⟨T2, rfl, r2, k2.trans k1⟩
  · rw [downs_s h.1 hw.1]
    exact (downs_s (T := tdS k (aU a r) (aD a r)) rfl hw.1).symm
  · intro x y
    unfold f_X3_pushes
    simp only [bnd, gr, gd_t, clampI (show r < 8 by omega), e1, e2]
    rfl
  · intro x y
    unfold f_X3_beads
    simp only [bnd, gr, gd_t, clampI (show r < 8 by omega), e1, e2]
    rfl
