-- laid by wip/p30/ex.py
noncomputable def bAb (j : Nat) : Int32 := if j = 0 then 1 else if j = 1 then 2 else 0
noncomputable def bBe (j : Nat) : Int32 := if j = 0 then 4 else if j = 1 then 5 else 10
abbrev nF1 : Cond := .fieldLinkNest RX1 20 "SorobanHall" "BEADS_ABOVE" "[I" "SorobanHall"
abbrev nF2 : Cond := .fieldLinkNest RX1 31 "SorobanHall" "BEADS_BELOW" "[I" "SorobanHall"
abbrev nM1 : Cond := .methodLinkNest RX3 29 yL_cell "SorobanHallLaw"
abbrev nM2 : Cond := .methodLinkNest RX3 35 yL_below "SorobanHallLaw"
def sbAO (ty : FieldType) (U : State) : Prop := (Cond.arrayOver ty).before #[] U = true
theorem sbAO.moved {t : FieldType} {u U : State} (hvm : u.vm.Alike U.vm) (h : sbAO (.array t) u) : sbAO (.array t) U := Jvm.Stand.arrayOver_alikeB hvm h
/-- the statics, the nest mates' links, the script -/
def EX (b L : Nat) (xs : Nat → Int32) (tA tB : Nat) (A : Nat → Prop) (U : State) : Prop :=
  (va_Z "SorobanHall" "BEADS_ABOVE" "[I" (.ref tA) A U U.heap ∧ va_Z "SorobanHall" "BEADS_BELOW" "[I" (.ref tB) A U U.heap ∧ va_T .int tA 3 (fun j => .int (bAb j)) A U U.heap ∧ va_T .int tB 3 (fun j => .int (bBe j)) A U U.heap) ∧
  (va_Nw nF1 U ∧ va_Nw nF2 U ∧ va_Nw nM1 U ∧ va_Nw nM2 U ∧ va_AO "SorobanHall$Frame" U ∧ sbAO (.array .int) U) ∧ (va_X b L xs U U.heap ∧ b < U.heap.size ∧ ¬ A b)
theorem EX_blind {b L tA tB : Nat} {xs : Nat → Int32} {A : Nat → Prop} (U : State) (g : JFrame) (mk : MethodId) (a : Array Value) (h : EX b L xs tA tB A U) : EX b L xs tA tB A (U.calling g mk a) := by
  obtain ⟨⟨h1, h2, h3, h4⟩, ⟨h5, h6, h7, h8, h9, h9b⟩, h10, h11, h12⟩ := h
  have al : U.vm.Alike (U.calling g mk a).vm := Vm.Alike.refl U.vm
  exact ⟨⟨va_Z.moved (u := U) al h1, va_Z.moved (u := U) al h2, va_T.moved (u := U) al h3, va_T.moved (u := U) al h4⟩, ⟨va_Nw.same rfl (u := U) rfl h5, va_Nw.same rfl (u := U) rfl h6, va_Nw.same rfl (u := U) rfl h7, va_Nw.same rfl (u := U) rfl h8, va_AO.moved (u := U) al h9, sbAO.moved (u := U) al h9b⟩, va_X.moved (u := U) al h10, h11, h12⟩
theorem EX_pass {b L tA tB : Nat} {xs : Nat → Int32} {A B : Nat → Prop} {s U : State} {H : Heap} {locs : List Loc} (h : EX b L xs tA tB A s) (hS : va_S A s.heap H locs) (hAB : ∀ q, B q → A q) (hU : U.heap = H) (hW : s.WarmedH U.vm) : EX b L xs tA tB B U := by
  obtain ⟨⟨h1, h2, h3, h4⟩, ⟨h5, h6, h7, h8, h9, h9b⟩, h10, h11, h12⟩ := h
  have al : s.vm.Alike U.vm := hW.alike
  have kp : ∀ a : Nat, a < s.heap.size → ¬ A a → U.heap[a]? = s.heap[a]? := fun a x y => by rw [hU]; exact hS.2.1 a x y
  exact ⟨⟨va_Z.moved al ((va_Z.kept h1 kp).narrow hAB), va_Z.moved al ((va_Z.kept h2 kp).narrow hAB), va_T.moved al ((va_T.kept h3 kp).narrow hAB), va_T.moved al ((va_T.kept h4 kp).narrow hAB)⟩, ⟨va_Nw.warmF hW h5, va_Nw.warmF hW h6, va_Nw.warmM hW h7, va_Nw.warmM hW h8, va_AO.moved al h9, sbAO.moved al h9b⟩, va_X.moved al (h10.kept (kp b h11 h12)), by rw [hU]; exact Nat.lt_of_lt_of_le h11 hS.1, fun z => h12 (hAB b z)⟩
section SBNEW
variable {p : Program} {l : Launch} {e : Env} {R : Room} {s : State} {m : MethodId} {args : Array Value} {below : List Frame} {meth : Method} {c : Code} {H : Heap} {locs : List Loc} {cells slots : Nat} {Q : State → Prop}
variable {cc : ByteArray} {pc : Nat} {ls : Array Slot} {rest : List Value} {D : va_G} {A : Nat → Prop} {cI cF cJ cD : ClassId} {ws : va_W} {H0 : Heap}
theorem sb_newi (hexec : p.tables.exec = Jvm.exec) (hb : c.code = cc) (harr : (Cond.arrayClass .int).before args s = true) (hK : va_K D vwCl (TY cI cF cJ cD) s) (hP : va_P D vwCl ws H) (hD : va_D A ws) (hS : va_S A H0 H locs) (hA : ∀ q, H0.size ≤ q → A q)
    {n : Int32} {N' : Nat} (hn : ¬ n < 0) (hN : n.toNatClampNeg = N') (hbytes : N' * 4 ≤ 536870912) (hcells : cells + 1 ≤ R.cells) (hslots : slots + N' ≤ R.slots) (hdg : decode cc pc = .ok (.newarray .int, 2))
    (kk : ∀ (q : Nat) (H1 : Heap), va_P D vwCl (ws ++ [(q, .inl (cI, N', .inl (fun _ => 0)))]) H1 → va_D A (ws ++ [(q, .inl (cI, N', .inl (fun _ => 0)))]) → va_S A H0 H1 locs →
      W p l e R s m args below meth c H1 locs (cells + 1) (slots + N') Q (F0 m (pc + 2) ls (.ref q :: rest))) : W p l e R s m args below meth c H locs cells slots Q (F0 m pc ls (.int n :: rest)) := by
  refine va_newa (atype := .int) hexec hb harr rfl hK hP hD hS hA (a0 := (N', .inl (fun _ => 0))) (fun cA => rfl) hn hN hbytes hcells hslots hdg (fun q cA H1 hK1 hP1 hD1 hS1 => ?_)
  have e1 : s.vm.findClass ("[" ++ FieldType.int.toString) = some cA := (hK1.2 4 (cA, .int) rfl).2
  have e2 : s.vm.findClass ("[" ++ FieldType.int.toString) = some cI := (hK.2 0 (cI, .int) rfl).2
  have e3 : cA = cI := Option.some.inj (e1.symm.trans e2)
  subst e3
  exact kk q H1 hP1 hD1 hS1
theorem sb_newq (hexec : p.tables.exec = Jvm.exec) (hb : c.code = cc) {own : String} {index : Nat} (hown : s.vm.findClass own = some m.cls) (hclink : (Cond.classLink own index "SorobanHall$Frame").before args s = true) (hover : va_AO "SorobanHall$Frame" s) (hK : va_K D vwCl (TY cI cF cJ cD) s) (hP : va_P D vwCl ws H) (hD : va_D A ws) (hS : va_S A H0 H locs) (hA : ∀ q, H0.size ≤ q → A q)
    {n : Int32} {N' : Nat} (hn : ¬ n < 0) (hN : n.toNatClampNeg = N') (hbytes : N' * 4 ≤ 536870912) (hcells : cells + 1 ≤ R.cells) (hslots : slots + N' ≤ R.slots) (hdg : decode cc pc = .ok (.anewarray index, 3))
    (kk : ∀ (q : Nat) (H1 : Heap), va_P D vwCl (ws ++ [(q, .inl (cF, N', .inr (.inr (.inr (.inr (fun _ => none))))))]) H1 → va_D A (ws ++ [(q, .inl (cF, N', .inr (.inr (.inr (.inr (fun _ => none))))))]) → va_S A H0 H1 locs →
      W p l e R s m args below meth c H1 locs (cells + 1) (slots + N') Q (F0 m (pc + 3) ls (.ref q :: rest))) : W p l e R s m args below meth c H locs cells slots Q (F0 m pc ls (.int n :: rest)) := by
  refine va_newq hexec hb hown hclink hover hK hP hD hS hA hn hN hbytes hcells hslots hdg (fun q cA H1 hK1 hP1 hD1 hS1 => ?_)
  obtain ⟨kA, comp, -, -, -, e1⟩ := (hK1.2 4 (cA, .object "SorobanHall$Frame") rfl).2
  obtain ⟨kA2, comp2, -, -, -, e2⟩ := (hK.2 1 (cF, .object "SorobanHall$Frame") rfl).2
  have e3 : cA = cF := Option.some.inj (e1.symm.trans e2)
  subst e3
  exact kk q H1 hP1 hD1 hS1
end SBNEW
