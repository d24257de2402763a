-- laid by wip/p30/lib5.py: what is kept
theorem kRows_app (cI : ClassId) (n : Nat) (a b : RS) : kRows cI n (a ++ b) = kRows cI n a ++ kRows cI n b := List.map_append
theorem kRows_len (cI : ClassId) (n : Nat) (a : RS) : (kRows cI n a).length = a.length := by simp [kRows]
theorem kp_hel {cI : ClassId} {lr j y : Nat} {X : va_W} {rs : RS} (h : (rs[j]?).map Prod.fst = some y) : ∃ (k : Nat) (w : Nat) (z : Nat → Int32), (X ++ kRows cI lr rs)[k]? = some (y, .inl (cI, w, .inl z)) := by
  cases hr : rs[j]? with
  | none => rw [hr] at h; cases h
  | some q =>
    rw [hr] at h
    refine ⟨X.length + j, lr, q.2, ?_⟩
    rw [List.getElem?_append_right (by omega)]
    rw [show X.length + j - X.length = j by omega]
    unfold kRows
    rw [List.getElem?_map, hr]
    show some (q.1, _) = _
    rw [Option.some.inj h]
theorem kp_hel2 {cI : ClassId} {lr j y : Nat} {X : va_W} {rs : RS} {q : Nat × (Nat → Int32)} (hj : j < rs.length) (h : (((rs ++ [q])[j]?).map Prod.fst) = some y) : ∃ (k : Nat) (w : Nat) (z : Nat → Int32), (X ++ kRows cI lr rs)[k]? = some (y, .inl (cI, w, .inl z)) := by
  rw [List.getElem?_append_left hj] at h
  exact kp_hel h
theorem va_P_mem {D : va_G} {cl : List vw_C} {ws : va_W} {H : Heap} : va_P D cl ws H ↔ ∀ q ∈ ws, va_at D cl q H := by
  constructor
  · intro h q hq
    obtain ⟨k, hk⟩ := List.getElem?_of_mem hq
    exact h k q hk
  · intro h k q hk
    exact h q (List.mem_of_getElem? hk)
theorem va_D_mem {A : Nat → Prop} {ws : va_W} : va_D A ws ↔ (ws.map Prod.fst).Nodup ∧ ∀ a ∈ ws.map Prod.fst, A a := by
  constructor
  · intro h
    refine ⟨?_, ?_⟩
    · unfold List.Nodup
      rw [List.pairwise_iff_getElem]
      intro i j hi hj hij e
      rw [List.getElem_map, List.getElem_map] at e
      rw [List.length_map] at hi hj
      have := h.1 i j _ _ (List.getElem?_eq_getElem hi) (List.getElem?_eq_getElem hj) e
      omega
    · intro a ha
      obtain ⟨q, hq, rfl⟩ := List.mem_map.mp ha
      obtain ⟨k, hk⟩ := List.getElem?_of_mem hq
      exact h.2 k q hk
  · rintro ⟨h1, h2⟩
    refine ⟨fun i j p q hp hq e => ?_, fun k q hk => h2 q.1 (List.mem_map.mpr ⟨q, List.mem_of_getElem? hk, rfl⟩)⟩
    unfold List.Nodup at h1
    rw [List.pairwise_iff_getElem] at h1
    obtain ⟨hi, ei⟩ := List.getElem?_eq_some_iff.mp hp
    obtain ⟨hj, ej⟩ := List.getElem?_eq_some_iff.mp hq
    rcases Nat.lt_trichotomy i j with h | h | h
    · exact absurd (by rw [List.getElem_map, List.getElem_map, ei, ej, e]) (h1 i j (by rw [List.length_map]; exact hi) (by rw [List.length_map]; exact hj) h)
    · exact h
    · exact absurd (by rw [List.getElem_map, List.getElem_map, ei, ej, e]) (h1 j i (by rw [List.length_map]; exact hj) (by rw [List.length_map]; exact hi) h)
theorem va_D_perm {A : Nat → Prop} {ws ws' : va_W} (h : va_D A ws) (hp : (ws'.map Prod.fst).Perm (ws.map Prod.fst)) : va_D A ws' := by
  rw [va_D_mem] at h ⊢
  exact ⟨hp.nodup_iff.mpr h.1, fun a ha => h.2 a (hp.mem_iff.mp ha)⟩
/-- the row of rows, other functions and other writings of its length -/
theorem kp_cell {cJ : ClassId} {q n1 n2 : Nat} {f g : Nat → Option Nat} {D : va_G} {cl : List vw_C} {H : Heap} (hn : n1 = n2) (hf : ∀ j, j < n2 → f j = g j) (h : va_at D cl (q, .inl (cJ, n1, .inr (.inr (.inr (.inr f))))) H) : va_at D cl (q, .inl (cJ, n2, .inr (.inr (.inr (.inr g))))) H := by
  subst hn
  show H[q]? = some (vp_cell _ _)
  have h : H[q]? = some (vp_cell cJ (n1, .inr (.inr (.inr (.inr f))))) := h
  rw [h, vp_cell_q, vp_cell_q]
  exact congrArg some (arrV_congr fun j hj => by rw [hf j hj])
/-- behind keep(): the new row, and the new row of rows -/
theorem kp_fin {cI cJ : ClassId} {lr q now n1 n2 : Nat} {f : Nat → Option Nat} {row : Nat → Int32} {X : va_W} {rs : RS} {D : va_G} {cl : List vw_C} {A : Nat → Prop} {H : Heap}
    (hP : va_P D cl ((X ++ [(q, .inl (cJ, n1, .inr (.inr (.inr (.inr f))))), (now, .inl (cI, n2, .inl row))]) ++ kRows cI lr rs) H) (hD : va_D A ((X ++ [(q, .inl (cJ, n1, .inr (.inr (.inr (.inr f))))), (now, .inl (cI, n2, .inl row))]) ++ kRows cI lr rs))
    (h1 : n1 = rs.length + 1) (h2 : n2 = lr) (hf : ∀ j, j < rs.length + 1 → f j = ((rs ++ [(now, row)])[j]?).map Prod.fst) :
    va_P D cl ((X ++ [kOut cJ q (rs ++ [(now, row)])]) ++ kRows cI lr (rs ++ [(now, row)])) H ∧ va_D A ((X ++ [kOut cJ q (rs ++ [(now, row)])]) ++ kRows cI lr (rs ++ [(now, row)])) := by
  subst h2
  constructor
  · rw [va_P_mem] at hP ⊢
    intro x hx
    rw [kRows_app] at hx
    simp only [List.mem_append, List.mem_cons, List.not_mem_nil, or_false] at hx
    rcases hx with (hx | hx) | hx | hx
    · exact hP x (by simp [hx])
    · subst hx
      refine kp_cell (n1 := n1) (f := f) (by rw [h1]; simp) (fun j hj => hf j (by simpa using hj)) (hP _ (by simp))
    · exact hP x (by simp [hx])
    · have : x = (now, .inl (cI, n2, .inl row)) := by simpa [kRows] using hx
      subst this
      exact hP _ (by simp)
  · refine va_D_perm hD ?_
    rw [kRows_app]
    simp only [List.map_append, List.map_cons, List.map_nil, List.append_assoc]
    refine List.Perm.append_left _ ?_
    show (q :: ((kRows cI n2 rs).map Prod.fst ++ [now])).Perm (q :: now :: (kRows cI n2 rs).map Prod.fst)
    refine List.Perm.cons _ ?_
    exact List.perm_append_comm
/-- the last row comes ahead of the tail -/
theorem kp_split {cI : ClassId} {lr ra : Nat} {kx : Nat → Int32} {X : va_W} {rs : RS} {D : va_G} {cl : List vw_C} {A : Nat → Prop} {H : Heap} (hP : va_P D cl (X ++ kRows cI lr (rs ++ [(ra, kx)])) H) (hD : va_D A (X ++ kRows cI lr (rs ++ [(ra, kx)]))) :
    va_P D cl ((X ++ [(ra, .inl (cI, lr, .inl kx))]) ++ kRows cI lr rs) H ∧ va_D A ((X ++ [(ra, .inl (cI, lr, .inl kx))]) ++ kRows cI lr rs) := by
  rw [kRows_app, ← List.append_assoc] at hP hD
  exact ⟨hP.swap, hD.swap⟩
theorem kp_back {cJ cI : ClassId} {lr q n1 : Nat} {f : Nat → Option Nat} {X Y : va_W} {rs : RS} {D : va_G} {cl : List vw_C} {H : Heap}
    (hP : va_P D cl ((X ++ ((q, .inl (cJ, n1, .inr (.inr (.inr (.inr f))))) :: Y)) ++ kRows cI lr rs) H) (h1 : n1 = rs.length) (hf : ∀ j, j < rs.length → f j = (rs[j]?).map Prod.fst) :
    va_P D cl ((X ++ (kOut cJ q rs :: Y)) ++ kRows cI lr rs) H := by
  rw [va_P_mem] at hP ⊢
  intro x hx
  simp only [List.mem_append, List.mem_cons] at hx
  rcases hx with (hx | hx | hx) | hx
  · exact hP x (by simp [hx])
  · subst hx
    exact kp_cell (n1 := n1) (f := f) h1 hf (hP _ (by simp))
  · exact hP x (by simp [hx])
  · exact hP x (by simp [hx])
def olast {β : Type} (K : KO) (k : KO → (Nat → Int32) → Option β) : Option β := match K.reverse with
  | [] => none
  | x :: r => k r.reverse x
theorem olast_e {β : Type} {K : KO} {k : KO → (Nat → Int32) → Option β} {r : β} (h : olast K k = some r) : ∃ (K0 : KO) (x : Nat → Int32), K = K0 ++ [x] ∧ k K0 x = some r := by
  unfold olast at h
  cases hr : K.reverse with
  | nil => rw [hr] at h; cases h
  | cons x l =>
    rw [hr] at h
    refine ⟨l.reverse, x, ?_, h⟩
    have := congrArg List.reverse hr
    simpa using this
theorem rs_last {rs : RS} {K0 : KO} {x : Nat → Int32} (h : rs.map Prod.snd = K0 ++ [x]) : ∃ (rs0 : RS) (a : Nat), rs = rs0 ++ [(a, x)] ∧ rs0.map Prod.snd = K0 := by
  obtain ⟨l1, l2, rfl, h1, h2⟩ := List.map_eq_append_iff.mp h
  match l2, h2 with
  | [(a, y)], h2 =>
    have : y = x := by simpa using h2
    subst this
    exact ⟨l1, a, rfl, h1⟩
theorem kp_num {n : Nat} (hn : n < 12) : (nI n - 0 : Int32) = nI n := Int32.sub_zero _
theorem nI_cl {n : Nat} (h : n < 1000) : Int32.toNatClampNeg (nI n) = n := nI_clamp (by omega)
/-- the numbers of keep() -/
theorem kp_n1 {k : Nat} (hk : k < 12) {v w n j : Int32} (ev : v = nI k - 0) (ew : w = v + 1) (en : n = nI k - 0) (ej : j = nI (Int32.toNatClampNeg w) - 1) : Int32.toNatClampNeg w = k + 1 ∧ Int32.toNatClampNeg n = k ∧ Int32.toNatClampNeg j = k := by
  have e1 : v = nI k := by rw [ev]; exact Int32.sub_zero _
  have e2 : w = nI (k + 1) := by rw [ew, e1]; exact nI_1 k
  have e3 : Int32.toNatClampNeg w = k + 1 := by rw [e2]; exact nI_cl (by omega)
  refine ⟨e3, by rw [en, Int32.sub_zero]; exact nI_cl (by omega), ?_⟩
  rw [ej, e3, nI_pred]
  exact nI_cl (by omega)
theorem kp_f1 {rs : RS} {now : Nat} {row : Nat → Int32} {k : Nat} (hk : k = rs.length) (j : Nat) (hj : j < rs.length + 1) : va_up (va_cpy (fun i => (rs[i]?).map Prod.fst) (fun _ => none) 0 0 k) k (some now) j = ((rs ++ [(now, row)])[j]?).map Prod.fst := by
  subst hk
  by_cases h : j = rs.length
  · subst h
    rw [va_up_self, List.getElem?_append_right (Nat.le_refl _), Nat.sub_self]
    rfl
  · rw [va_up_ne _ _ h, List.getElem?_append_left (by omega)]
    unfold va_cpy
    rw [if_pos (by omega)]
    simp
theorem kp_f2 {rs : RS} {q : Nat × (Nat → Int32)} {k : Nat} (hk : k = rs.length) (j : Nat) (hj : j < rs.length) : va_cpy (fun i => (((rs ++ [q])[i]?).map Prod.fst)) (fun _ => none) 0 0 k j = (rs[j]?).map Prod.fst := by
  subst hk
  unfold va_cpy
  rw [if_pos (by omega)]
  rw [show 0 + (j - 0) = j by omega]
  show ((rs ++ [q])[j]?).map Prod.fst = _
  rw [List.getElem?_append_left hj]
theorem kp_last {rs : RS} {ra k : Nat} {kx : Nat → Int32} {v : Int32} (hk : k = rs.length + 1) (h12 : k < 12) (ev : v = nI k - 1) : (((rs ++ [(ra, kx)])[Int32.toNatClampNeg v]?).map Prod.fst) = some ra := by
  have e : Int32.toNatClampNeg v = rs.length := by rw [ev, hk, nI_pred]; exact nI_cl (by omega)
  rw [e, List.getElem?_append_right (Nat.le_refl _), Nat.sub_self]
  rfl
theorem kp_n2 {r k : Nat} {v : Int32} (hk : k = r + 1) (h12 : k < 12) (ev : v = nI k - 1) : Int32.toNatClampNeg v = r ∧ Int32.toNatClampNeg (nI (Int32.toNatClampNeg v)) = r := by
  have e : Int32.toNatClampNeg v = r := by rw [ev, hk, nI_pred]; exact nI_cl (by omega)
  exact ⟨e, by rw [e]; exact nI_cl (by omega)⟩
theorem c0 : Int32.toNatClampNeg 0 = 0 := by decide
