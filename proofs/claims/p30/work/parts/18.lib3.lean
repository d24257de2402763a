-- laid by wip/p30/lib3.py
theorem arrV_congr {c : ClassId} {n : Nat} {f g : Nat → Value} (h : ∀ j, j < n → f j = g j) : arrV c n f = arrV c n g := by
  unfold arrV
  congr 1
  apply congrArg
  funext j
  exact h j.val j.isLt
/-- what is kept: the row of rows, and the rows -/
abbrev kOut (cJ : ClassId) (ko : Nat) (rs : List (Nat × (Nat → Int32))) : Nat × va_E := (ko, .inl (cJ, rs.length, .inr (.inr (.inr (.inr (fun i => (rs[i]?).map Prod.fst))))))
def kRows (cI : ClassId) (n : Nat) (rs : List (Nat × (Nat → Int32))) : va_W := rs.map (fun q => (q.1, .inl (cI, n, .inl q.2)))
section SB3
variable {p : Program} {l : Launch} {e : Env} {R : Room} {s : State} {m : MethodId} {args : Array Value} {below : List Frame} {meth : Method} {c : Code} {H : Heap} {locs : List Loc} {cells slots : Nat} {Q : State → Prop}
variable {cc : ByteArray} {pc : Nat} {ls : Array Slot} {rest : List Value} {D : va_G} {A : Nat → Prop} {cI cF cJ cD : ClassId} {ws : va_W} {H0 : Heap}
theorem sb_J {cI cF cJ cD : ClassId} (h : sbAO (.array .int) s) (hK : va_K D vwCl (TY cI cF cJ cD) s) : ∃ kJ : Class, s.vm.classes[cJ]? = some kJ ∧ kJ.kind = .array cI (.array .int) := by
  obtain ⟨comp, c9, k, h1, -, h3, h4, h5⟩ := Jvm.Stand.arrayOver_specB h
  have e1 : s.vm.findClass ("[" ++ (FieldType.array .int).toString) = some cJ := (hK.2 2 (cJ, .array .int) rfl).2
  have e2 : s.vm.findClass ("[" ++ FieldType.int.toString) = some cI := (hK.2 0 (cI, .int) rfl).2
  have e3 : c9 = cJ := Option.some.inj (h5.symm.trans e1)
  have e4 : comp = cI := Option.some.inj (h1.symm.trans e2)
  subst e3
  subst e4
  exact ⟨k, h3, h4⟩
theorem sb_newJ (hexec : p.tables.exec = Jvm.exec) (hb : c.code = cc) {own : String} {index : Nat} (hown : s.vm.findClass own = some m.cls) (hclink : (Cond.classLink own index "[I").before args s = true) (hover : sbAO (.array .int) s) (hK : va_K D vwCl (TY cI cF cJ cD) s) (hP : va_P D vwCl ws H) (hD : va_D A ws) (hS : va_S A H0 H locs) (hA : ∀ q, H0.size ≤ q → A q)
    {n : Int32} {N' : Nat} (hn : ¬ n < 0) (hN : n.toNatClampNeg = N') (hbytes : N' * 4 ≤ 536870912) (hcells : cells + 1 ≤ R.cells) (hslots : slots + N' ≤ R.slots) (hdg : decode cc pc = .ok (.anewarray index, 3))
    (kk : ∀ (q : Nat) (H1 : Heap), va_P D vwCl (ws ++ [(q, .inl (cJ, N', .inr (.inr (.inr (.inr (fun _ => none))))))]) H1 → va_D A (ws ++ [(q, .inl (cJ, N', .inr (.inr (.inr (.inr (fun _ => none))))))]) → va_S A H0 H1 locs →
      W p l e R s m args below meth c H1 locs (cells + 1) (slots + N') Q (F0 m (pc + 3) ls (.ref q :: rest))) : W p l e R s m args below meth c H locs cells slots Q (F0 m pc ls (.int n :: rest)) := by
  subst hN
  intro T hT X
  subst hT
  obtain ⟨vm₁, cA, kA, comp, hW, f1, f2, f3, f4, X', st⟩ := X.anewarrayArrK hexec hown (ty := .int) hclink hover (g := F0 m pc ls (.int n :: rest)) rfl (by rw [hb]; exact hdg) rfl hn hbytes hcells hslots
  have e1 : s.vm.findClass ("[" ++ (FieldType.array .int).toString) = some cJ := (hK.2 2 (cJ, .array .int) rfl).2
  have e3 : cA = cJ := Option.some.inj (f1.symm.trans e1)
  subst e3
  generalize hH1 : T.heap.push ({ cls := cA, slots := Array.replicate n.toNatClampNeg .null, vm := .none } : Cell) = H1
  have z1 : H1.size = T.heap.size + 1 := by rw [← hH1, Array.size_push]
  have e4 : H1[T.heap.size]? = some (arrV cA n.toNatClampNeg (fun _ => .null)) := by rw [← hH1, Array.getElem?_push_size, ← arrV_new]
  have o1 : ∀ q : Nat, q < T.heap.size → H1[q]? = T.heap[q]? := fun q hq => by rw [← hH1, Array.getElem?_push, if_neg (Nat.ne_of_lt hq)]
  have hk : ∀ (k : Nat) (x : Nat × va_E), ws[k]? = some x → H1[x.1]? = T.heap[x.1]? := fun k x hx => o1 x.1 ((hP k x hx).lt)
  obtain ⟨t, a1, b1⟩ := kk T.heap.size H1 ((hP.kept hk).app (fun k x hx => by
      have hz : k < 1 := (List.getElem?_eq_some_iff.mp hx).1
      rw [show k = 0 by omega] at hx
      cases hx
      show H1[T.heap.size]? = some (vp_cell _ _)
      rw [vp_cell_q]
      exact e4)) (hD.push hP rfl (hA _ hS.1)) ⟨Nat.le_trans hS.1 (by omega), fun x h1 h2 => (o1 x (Nat.lt_of_lt_of_le h1 hS.1)).trans (hS.2.1 x h1 h2), hS.2.2⟩ _ (by rw [← hH1]; rfl) X'
  exact ⟨t, st t a1, b1⟩
theorem sb_mna (hexec : p.tables.exec = Jvm.exec) (hb : c.code = cc) {own : String} {index : Nat} (hown : s.vm.findClass own = some m.cls) (hclink : (Cond.classLink own index "[[I").before args s = true) (hover : sbAO (.array .int) s) (harr : (Cond.arrayClass .int).before args s = true) (hK : va_K D vwCl (TY cI cF cJ cD) s) (hP : va_P D vwCl ws H) (hD : va_D A ws) (hS : va_S A H0 H locs) (hA : ∀ q, H0.size ≤ q → A q)
    {k : Int32} {K' : Nat} (hk0 : ¬ k < 0) (hM : k.toNatClampNeg = K') (hb2 : K' * 4 ≤ 536870912) (hcells : cells + 3 ≤ R.cells) (hslots : slots + (2 + 2 * K') ≤ R.slots) (hdg : decode cc pc = .ok (.multianewarray index 2, 4))
    (kk : ∀ (q r0 r1 : Nat) (H1 : Heap), va_P D vwCl (ws ++ [(q, .inl (cJ, 2, .inr (.inr (.inr (.inr (fun i => if i = 0 then some r0 else some r1)))))), (r0, .inl (cI, K', .inl (fun _ => 0))), (r1, .inl (cI, K', .inl (fun _ => 0)))]) H1 → va_D A (ws ++ [(q, .inl (cJ, 2, .inr (.inr (.inr (.inr (fun i => if i = 0 then some r0 else some r1)))))), (r0, .inl (cI, K', .inl (fun _ => 0))), (r1, .inl (cI, K', .inl (fun _ => 0)))]) → va_S A H0 H1 locs →
      W p l e R s m args below meth c H1 locs (cells + 3) (slots + (2 + 2 * K')) Q (F0 m (pc + 4) ls (.ref q :: rest))) : W p l e R s m args below meth c H locs cells slots Q (F0 m pc ls (.int k :: .int 2 :: rest)) := by
  subst hM
  intro T hT Xs
  obtain ⟨vm₁, cA, comp, -, fA, fC, hO, -, X', step⟩ := Xs.multianewarray2F hexec hown (ty := .int) hclink hover harr (g := F0 m pc ls (.int k :: .int 2 :: rest)) rfl (by rw [hb]; exact hdg) rfl (by decide) hk0 (by decide) hb2 (by omega) rfl rfl hcells (by show slots + (2 + 2 * k.toNatClampNeg) ≤ _; exact hslots)
  have e1 : s.vm.findClass ("[" ++ (FieldType.array .int).toString) = some cJ := (hK.2 2 (cJ, .array .int) rfl).2
  have e2 : s.vm.findClass ("[" ++ FieldType.int.toString) = some cI := (hK.2 0 (cI, .int) rfl).2
  have e3 : cA = cJ := Option.some.inj (fA.symm.trans e1)
  have e4 : comp = cI := Option.some.inj (fC.symm.trans e2)
  subst e3
  subst e4
  have e2n : (2 : Int32).toNatClampNeg = 2 := by decide
  rw [e2n] at X' step
  generalize hF : Jvm.Free.Multi.fill (T.setVm vm₁) cA comp 2 k.toNatClampNeg (defaultValue .int) 2 = F at X' step
  have hTh : (T.setVm vm₁).heap = H := hT
  obtain ⟨f1, f2, -, -⟩ := Jvm.Free.Multi.fill_facts (T.setVm vm₁) cA comp 2 k.toNatClampNeg (defaultValue .int) 2
  rw [hF, hTh] at f1 f2
  have hold : ∀ x : Nat, x < H.size → F.heap[x]? = H[x]? := fun x hx => by
    have := Jvm.Free.Multi.fill_old (T.setVm vm₁) cA comp 2 k.toNatClampNeg (defaultValue .int) (a := x) (by rw [hTh]; exact hx) 2
    rw [hF, hTh] at this
    exact this
  have hrow : ∀ j : Nat, j < 2 → F.heap[H.size + 1 + j]? = some (vp_cell comp (k.toNatClampNeg, .inl (fun _ => 0))) := fun j hj => by
    have := Jvm.Free.Multi.fill_inner (T.setVm vm₁) cA comp 2 k.toNatClampNeg (defaultValue .int) 2 j hj
    rw [hF, hTh] at this
    rw [this, vp_cell_i]
    show some ({ cls := comp, slots := Array.replicate k.toNatClampNeg (Value.int 0), vm := .none } : Cell) = _
    rw [arrV_new]
  have hout : F.heap[H.size]? = some (vp_cell cA (2, .inr (.inr (.inr (.inr (fun i => if i = 0 then some (H.size + 1) else some (H.size + 2))))))) := by
    rw [f2, vp_cell_q]
    show some ((({ cls := cA, slots := Array.replicate 2 .null, vm := .none } : Cell).setSlot 0 (.ref (H.size + 1 + 0))).setSlot 1 (.ref (H.size + 1 + 1))) = _
    rw [arrV_new, arrV_store, arrV_store]
    refine congrArg some (arrV_congr fun j hj => ?_)
    rcases (show j = 0 ∨ j = 1 by omega) with rfl | rfl <;> rfl
  have hkp : ∀ (k9 : Nat) (x : Nat × va_E), ws[k9]? = some x → F.heap[x.1]? = H[x.1]? := fun k9 x hx => hold x.1 ((hP k9 x hx).lt)
  have hlt : ∀ (k9 : Nat) (x : Nat × va_E), ws[k9]? = some x → x.1 < H.size := fun k9 x hx => (hP k9 x hx).lt
  have hP1 := (hP.kept hkp).app (w2 := [(H.size, .inl (cA, 2, .inr (.inr (.inr (.inr (fun i => if i = 0 then some (H.size + 1) else some (H.size + 2))))))), (H.size + 1, .inl (comp, k.toNatClampNeg, .inl (fun _ => 0))), (H.size + 2, .inl (comp, k.toNatClampNeg, .inl (fun _ => 0)))]) (fun k9 x hx => by
    have h0 : k9 < 3 := (List.getElem?_eq_some_iff.mp hx).1
    rcases (show k9 = 0 ∨ k9 = 1 ∨ k9 = 2 by omega) with rfl | rfl | rfl
    · cases hx; exact hout
    · cases hx; exact hrow 0 (by omega)
    · cases hx; exact hrow 1 (by omega))
  have hD1 := va_D.app (A := A) (w1 := ws) (w2 := [(H.size, .inl (cA, 2, .inr (.inr (.inr (.inr (fun i => if i = 0 then some (H.size + 1) else some (H.size + 2))))))), (H.size + 1, .inl (comp, k.toNatClampNeg, .inl (fun _ => 0))), (H.size + 2, .inl (comp, k.toNatClampNeg, .inl (fun _ => 0)))]) hD ⟨fun i j x y hx hy hxy => by
    have hi : i < 3 := (List.getElem?_eq_some_iff.mp hx).1
    have hj : j < 3 := (List.getElem?_eq_some_iff.mp hy).1
    rcases (show i = 0 ∨ i = 1 ∨ i = 2 by omega) with rfl | rfl | rfl <;> rcases (show j = 0 ∨ j = 1 ∨ j = 2 by omega) with rfl | rfl | rfl <;> cases hx <;> cases hy <;> first | rfl | (exfalso; simp only at hxy; omega), fun k9 x hx => by
    have h0 : k9 < 3 := (List.getElem?_eq_some_iff.mp hx).1
    have hz := hS.1
    rcases (show k9 = 0 ∨ k9 = 1 ∨ k9 = 2 by omega) with rfl | rfl | rfl <;> cases hx <;> exact hA _ (by show _ ≤ _; omega)⟩ (fun i j x y hx hy hxy => by
    have h1 := hlt i x hx
    have hj : j < 3 := (List.getElem?_eq_some_iff.mp hy).1
    rcases (show j = 0 ∨ j = 1 ∨ j = 2 by omega) with rfl | rfl | rfl <;> cases hy <;> simp only at hxy <;> omega)
  obtain ⟨t, a1, b1⟩ := kk H.size (H.size + 1) (H.size + 2) F.heap hP1 hD1 ⟨Nat.le_trans hS.1 (by omega), fun x h1 h2 => (hold x (Nat.lt_of_lt_of_le h1 hS.1)).trans (hS.2.1 x h1 h2), hS.2.2⟩ F rfl (stand_widen X' (by omega) (by omega))
  subst hT
  exact ⟨t, step t a1, b1⟩
theorem sb_astJ (hexec : p.tables.exec = Jvm.exec) (hb : c.code = cc) (hover : sbAO (.array .int) s) (hK : va_K D vwCl (TY cI cF cJ cD) s) (hP : va_P D vwCl ws H) (hD : va_D A ws) (hS : va_S A H0 H locs) {a v : Nat} (q0 qk : Nat) {n n1 : Nat} {f : Nat → Option Nat} {g1 : Nat → Int32} (ha : ws[q0]? = some (a, .inl (cJ, n, .inr (.inr (.inr (.inr f)))))) (hv : ws[qk]? = some (v, .inl (cI, n1, .inl g1))) {i : Int32} (hin : vp_in i n) (hdg : decode cc pc = .ok (.aastore, 1))
    (kk : ∀ (H1 : Heap) (locs1 : List Loc), va_P D vwCl (ws.set q0 (a, .inl (cJ, n, .inr (.inr (.inr (.inr (va_up f i.toNatClampNeg (some v)))))))) H1 → va_D A (ws.set q0 (a, .inl (cJ, n, .inr (.inr (.inr (.inr (va_up f i.toNatClampNeg (some v)))))))) → va_S A H0 H1 locs1 → W p l e R s m args below meth c H1 locs1 cells slots Q (F0 m (pc + 1) ls rest)) : W p l e R s m args below meth c H locs cells slots Q (F0 m pc ls (.ref v :: .int i :: .ref a :: rest)) := by
  have hlt : i.toNatClampNeg < n := Nat.not_le.mp fun q => hin (Or.inr q)
  have h0 : ¬ i < 0 := fun q => hin (Or.inl q)
  obtain ⟨kA, k1, k2⟩ := sb_J hover hK
  obtain ⟨-, kC, hkC, -⟩ := (hK.2 0 (cI, .int) rfl).1 0 (fun _ => .null)
  have g0 : H[v]? = some (vp_cell cI (n1, .inl g1)) := hP qk _ hv
  refine W.aast hexec hb (hP q0 _ ha) (fun q h => by cases h) (fun h => by cases h) k1 k2 rfl hkC ⟨h0, by show _ < (arrV _ _ _).slots.size; rw [arrV_size]; exact hlt⟩ g0 (fun q h => by cases h) hkC (va_asg _ _) rfl rfl hdg fun H1 e z oq => ?_
  refine kk H1 _ (hP.set hD ha ?_ oq) (hD.set ha) (hS.put z oq (hD.2 q0 _ ha))
  show H1[a]? = some (vp_cell _ _)
  rw [e]
  rw [vp_cell_q, vp_cell_q, arrV_store]
  congr 2
  funext q
  by_cases hq : q = i.toNatClampNeg
  · subst hq
    simp [updV, va_up, va_rf]
  · simp [updV, va_up, hq]
end SB3
