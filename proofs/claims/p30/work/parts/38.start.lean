-- laid by wip/p30/startp.py
def R_law : String := "SorobanHallLaw"
def lw_P (b : Addr) (xs : List Int32) (args : Array Value) (s : State) : Prop := args = #[.ref b] ∧ s.IntsAt b xs ∧ xs.length ≤ 260 ∧ (Jvm.Cond.and given_1 narrow_1).before args s = true
/-- what a walk over the start with the record d0 says of its end, said of the start itself -/
theorem lw_closed {s t : State} {o : Outcome} {d0 : Drawn} {L : List Loc} {k n : Nat} (hd0 : s.drawn.sameBut d0 lw_cs) (hv : ∃ v, o = .returned v) (hW : (s.setDrawn d0).WarmedH t.vm) (hs : (s.setDrawn d0).sameButNew ({ t with vm := s.vm } : State) L k n) : State.butDraws s t lw_cs (fun t1 => Framed s o t1 L k n) := by
  have h2 : t.drawn = d0 := congrArg State.drawn hs.1
  refine ⟨⟨hv, hW, State.sameButNew.setDrawn hs s.drawn⟩, ?_, by decide⟩
  rw [h2]
  exact hd0
def lw_Q (_ : Array Value) (s : State) (o : Outcome) (t : State) : Prop := o = .returned (some (.int 1)) ∧ State.butDraws s t lw_cs (fun t1 => Framed s o t1 [] room_1.cells room_1.slots)
def lw_Z (below : List Frame) (a : Array Value) (s : State) : State → Prop := fun t => ∃ o, t.status = .running ∧ Ended t below o ∧ lw_Q a s o t
/-- the law's own end, with 1 on the stack, nothing written that was there before, its room as the claim has it; d0: the record of draws at this point (at the entry s.drawn: begin with 'refine W.base ?_' and 'have hd0 := Drawn.sameBut.refl s.drawn lw_cs') -/
theorem lw_ret {p : Program} {l : Launch} {e : Env} {s : State} {m : MethodId} {below : List Frame} {meth : Method} {c : Code} {b : Nat} {d0 : Drawn} (hd0 : s.drawn.sameBut d0 lw_cs) (hx : p.tables.exec = Jvm.exec) (hb : c.code = code) (hr : meth.sig.returnType = ret) (hlocks : meth.locks = false) {pc : Nat} {H : Heap} {ls : Array Slot} (hdg : decode code pc = .ok (.ireturn, 1)) : W p l e room_1 (s.setDrawn d0) m #[Value.ref b] below meth c H [] room_1.cells room_1.slots (lw_Z below #[Value.ref b] s) (F0 m pc ls [.int 1]) := by
  intro T hT X
  obtain ⟨fs, hret, hrun, hended, hW, hframe⟩ := X.leave (v := some (.int 1)) (hlocks := hlocks) (fun h => by rw [hr] at h; cases h)
  have hmeth' : T.vm.method? m = some meth := X.method'
  refine ⟨T.setFrames fs, ?_, .returned (some (.int 1)), hrun, hended, rfl, lw_closed hd0 ⟨_, rfl⟩ hW hframe⟩
  jvm_step X.here [X.here.top, hx, hb, hdg, hmeth', hr, ret, narrow_b1]
  (try refine ⟨rfl, ?_⟩); (try refine ⟨rfl, ?_⟩)
  first | (intro acts; rw [hret _ acts rfl rfl rfl]) | rw [hret _ _ rfl rfl rfl]
  exact Steps.refl _
/-- what holds at the law's entry: the machine, the code, the tables' words (any of lw_tbl by 'hts w (by decide +kernel)'), the script of L ints xs at the cell b, what the Statement gives of the start (any of its parts by flat_of_before) -/
def lw_At (p : Program) (s : State) (m : MethodId) (meth : Method) (c : Code) (b L : Nat) (xs : Nat → Int32) : Prop :=
  p.tables.exec = Jvm.exec ∧ c.code = code ∧ meth.sig.returnType = ret ∧ c.maxLocals = 19 ∧ s.vm.findClass R_law = some m.cls ∧ (∀ w ∈ lw_tbl, w.before #[Value.ref b] s = true) ∧ va_X b L xs s s.heap ∧ b < s.heap.size ∧ meth.locks = false ∧ (Jvm.Cond.and given_1 narrow_1).before #[Value.ref b] s = true
theorem sb_ArrO {s : State} {C : String} (h : va_AO C s) : ∃ cA : ClassId, ArrOfT s cA (.object C) ∧ va_RA s cA (.object C) := by
  obtain ⟨comp, cA, kA, h1, h2, h3, h4, h5⟩ := Cond.arrayOver_spec h
  exact ⟨cA, fun N z => ⟨(fun k h => by cases h), kA, h3, comp, h4⟩, kA, comp, h3, h4, h1, h5⟩
theorem whole_start0 {p : Program} {e : Env} {s : State} {m : MethodId} {below : List Frame} {meth : Method} {c : Code} (l : Launch) {b L : Nat} {xs : Nat → Int32} (hf : f_law L xs = some ()) (C0 : lw_At p s m meth c b L xs) : W p l e room_1 s m #[Value.ref b] below meth c s.heap [] 0 0 (lw_Z below #[Value.ref b] s) (entryFrame m ([Value.ref b] : List Value).toArray 19) := by
  obtain ⟨hx, hb, hr, hml, hown, hts0, hX, hbl, hlocks, hgv⟩ := C0
  have hs := flat_of_before _ hgv
  have hts : ∀ w ∈ LW, w.before #[Value.ref b] s = true := fun w h => hts0 w (LW_tbl w h)
  have hnA : ∀ a : Nat, a < s.heap.size → ¬ (fun q => s.heap.size ≤ q) a := fun a h1 h2 => Nat.not_le.mpr h1 h2
  obtain ⟨tA, etA, TtA⟩ := va_Tof (args := #[Value.ref b]) (s := s) (tm := .static "SorobanHall" "BEADS_ABOVE" "[I") (ty := .int) (N := 3) (f := fun j => .int (bAb j)) (A := fun q => s.heap.size ≤ q) (by decide) (hs _ (by decide +kernel)) (va_eqt (hs _ (by decide +kernel))) (fun j hj => by
    rcases (show j = 0 ∨ j = 1 ∨ j = 2 by omega) with rfl | rfl | rfl
    · exact va_eqt (z := 1) (hs _ (by decide +kernel))
    · exact va_eqt (z := 2) (hs _ (by decide +kernel))
    · exact va_eqt (z := 0) (hs _ (by decide +kernel))) hnA
  obtain ⟨tB, etB, TtB⟩ := va_Tof (args := #[Value.ref b]) (s := s) (tm := .static "SorobanHall" "BEADS_BELOW" "[I") (ty := .int) (N := 3) (f := fun j => .int (bBe j)) (A := fun q => s.heap.size ≤ q) (by decide) (hs _ (by decide +kernel)) (va_eqt (hs _ (by decide +kernel))) (fun j hj => by
    rcases (show j = 0 ∨ j = 1 ∨ j = 2 by omega) with rfl | rfl | rfl
    · exact va_eqt (z := 4) (hs _ (by decide +kernel))
    · exact va_eqt (z := 5) (hs _ (by decide +kernel))
    · exact va_eqt (z := 10) (hs _ (by decide +kernel))) hnA
  have Z1 := va_Zof (C := "SorobanHall") (n := "BEADS_ABOVE") (d := "[I") (A := fun q => s.heap.size ≤ q) (hts0 _ (tb_t (List.mem_append_left _ (List.mem_of_getElem? (l := tables_1_1) (i := 31) rfl)))) (hts _ q172) etA hnA
  have Z2 := va_Zof (C := "SorobanHall") (n := "BEADS_BELOW") (d := "[I") (A := fun q => s.heap.size ≤ q) (hts0 _ (tb_t (List.mem_append_left _ (List.mem_of_getElem? (l := tables_1_1) (i := 54) rfl)))) (hts _ q172) etB hnA
  have N1 : va_Nw nF1 s := va_Nw.of rfl (hts0 _ (tb_t (List.mem_append_left _ (List.mem_of_getElem? (l := tables_1_1) (i := 30) rfl))))
  have N2 : va_Nw nF2 s := va_Nw.of rfl (hts0 _ (tb_t (List.mem_append_left _ (List.mem_of_getElem? (l := tables_1_1) (i := 53) rfl))))
  have N3 : va_Nw nM1 s := va_Nw.of rfl (hts0 _ (tb_t (List.mem_append_right _ (List.mem_append_left _ (List.mem_of_getElem? (l := tables_1_2) (i := 229) rfl)))))
  have N4 : va_Nw nM2 s := va_Nw.of rfl (hts0 _ (tb_t (List.mem_append_right _ (List.mem_append_left _ (List.mem_of_getElem? (l := tables_1_2) (i := 233) rfl)))))
  have O1 : va_AO "SorobanHall$Frame" s := va_AO.of (hts0 _ (tb_t (List.mem_append_left _ (List.mem_of_getElem? (l := tables_1_1) (i := 22) rfl))))
  have O2 : sbAO (.array .int) s := hts0 (Cond.arrayOver (.array .int)) (tb_t (List.mem_append_right _ (List.mem_append_left _ (List.mem_of_getElem? (l := tables_1_2) (i := 186) rfl))))
  have hE : EX b L xs tA tB (fun q => s.heap.size ≤ q) s := ⟨⟨Z1, Z2, TtA, TtB⟩, ⟨N1, N2, N3, N4, O1, O2⟩, hX, hbl, hnA b hbl⟩
  obtain ⟨c0, i0, k0⟩ := u_known (C := RX0) (T := TX0) (N := 4) (n := 4) hts iX0 (hts _ q29)
  obtain ⟨c1, i1, k1⟩ := u_known (C := RX1) (T := TX1) (N := 13) (n := 13) hts iX1 (hts _ q153)
  obtain ⟨c2, i2, k2⟩ := u_known (C := RX2) (T := TX2) (N := 4) (n := 4) hts iX2 (hts _ q524)
  obtain ⟨c3, i3, k3⟩ := u_known (C := RX3) (T := TX3) (N := 12) (n := 12) hts iX3 (hts _ q526)
  obtain ⟨cI, kI, mI, fI, gI, hI⟩ := Cond.arrayClass_spec (hts _ q4)
  obtain ⟨cD, kD, mD, fD, gD, hD⟩ := Cond.arrayClass_spec (hts _ q527)
  obtain ⟨cF, hF1, hF2⟩ := sb_ArrO O1
  obtain ⟨mJ, cJ, kJ, fJ, -, gJ, hJ, eJ⟩ := Jvm.Stand.arrayOver_specB O2
  have hK : va_K (fun k => match k with | 0 => c0 | 1 => c1 | 2 => c2 | _ => c3, fun k => match k with | 0 => i0 | 1 => i1 | 2 => i2 | _ => i3) vwCl (TY cI cF cJ cD) s := by
    refine ⟨fun k q hq => ?_, fun k q hq => ?_⟩
    · have hk : k < 4 := (List.getElem?_eq_some_iff.mp hq).1
      rcases (show k = 0 ∨ k = 1 ∨ k = 2 ∨ k = 3 by omega) with rfl | rfl | rfl | rfl <;> cases hq
      · exact k0
      · exact k1
      · exact k2
      · exact k3
    · have hk : k < 4 := (List.getElem?_eq_some_iff.mp hq).1
      rcases (show k = 0 ∨ k = 1 ∨ k = 2 ∨ k = 3 by omega) with rfl | rfl | rfl | rfl <;> cases hq
      · exact ⟨fun N z => ⟨(fun k h => by cases h), kI, gI, mI, hI⟩, fI⟩
      · exact ⟨hF1, hF2⟩
      · exact ⟨fun N z => ⟨(fun k h => by cases h), kJ, gJ, mJ, hJ⟩, eJ⟩
      · exact ⟨fun N z => ⟨(fun k h => by cases h), kD, gD, mD, hD⟩, fD⟩
  have hl := lv_entry ([Value.ref b]) (n := 19) (Nat.le_of_ble_eq_true rfl)
  rw [lg_entry_eq]
  generalize (lg_sl ([Value.ref b]) ++ List.replicate (19 - (lg_sl ([Value.ref b])).length) Slot.unset).toArray = ls at hl ⊢
  have hl : lv_has ls 19 [(0, .ref b)] := hl
  have hd0 := Drawn.sameBut.refl s.drawn lw_cs
  refine w_law (A := fun q => s.heap.size ≤ q) hx hb hml hts hown hK (fun q h => h) hE hf hl (fun H locs ls hS => ?_)
  refine va_forget hS.2.2 ?_
  refine W.widen (k := room_1.cells) (n := room_1.slots) (Nat.le_of_ble_eq_true rfl) (Nat.le_of_ble_eq_true rfl) ?_
  exact lw_ret (d0 := s.drawn) hd0 hx hb hr hlocks dL_law_586
