-- laid by wip/p30/lib6.py
section SB6
variable {p : Program} {l : Launch} {e : Env} {R : Room} {s : State} {m : MethodId} {args : Array Value} {below : List Frame} {meth : Method} {c : Code} {H : Heap} {locs : List Loc} {cells slots : Nat} {Q : State → Prop}
variable {cc : ByteArray} {pc : Nat} {ls : Array Slot} {rest : List Value} {D : va_G} {A : Nat → Prop} {cI cF cJ cD : ClassId} {ws : va_W} {H0 : Heap}
theorem sb_newd (hexec : p.tables.exec = Jvm.exec) (hb : c.code = cc) (harr : (Cond.arrayClass .double).before args s = true) (hK : va_K D vwCl (TY cI cF cJ cD) s) (hP : va_P D vwCl ws H) (hD : va_D A ws) (hS : va_S A H0 H locs) (hA : ∀ q, H0.size ≤ q → A q)
    {n : Int32} {N' : Nat} (hn : ¬ n < 0) (hN : n.toNatClampNeg = N') (hbytes : N' * 8 ≤ 536870912) (hcells : cells + 1 ≤ R.cells) (hslots : slots + N' ≤ R.slots) (hdg : decode cc pc = .ok (.newarray .double, 2))
    (kk : ∀ (q : Nat) (H1 : Heap), va_P D vwCl (ws ++ [(q, .inl (cD, N', .inr (.inr (.inr (.inl (fun _ => 0))))))]) H1 → va_D A (ws ++ [(q, .inl (cD, N', .inr (.inr (.inr (.inl (fun _ => 0))))))]) → va_S A H0 H1 locs →
      W p l e R s m args below meth c H1 locs (cells + 1) (slots + N') Q (F0 m (pc + 2) ls (.ref q :: rest))) : W p l e R s m args below meth c H locs cells slots Q (F0 m pc ls (.int n :: rest)) := by
  refine va_newa (atype := .double) hexec hb harr rfl hK hP hD hS hA (a0 := (N', .inr (.inr (.inr (.inl (fun _ => 0)))))) (fun cA => rfl) hn hN hbytes hcells hslots hdg (fun q cA H1 hK1 hP1 hD1 hS1 => ?_)
  have e1 : s.vm.findClass ("[" ++ FieldType.double.toString) = some cA := (hK1.2 4 (cA, .double) rfl).2
  have e2 : s.vm.findClass ("[" ++ FieldType.double.toString) = some cD := (hK.2 3 (cD, .double) rfl).2
  have e3 : cA = cD := Option.some.inj (e1.symm.trans e2)
  subst e3
  exact kk q H1 hP1 hD1 hS1
end SB6
theorem va_nd_range : ∀ n : Nat, va_nd (List.range n) = true := by
  intro n
  have h : ∀ (xs : List Nat), xs.Nodup → va_nd xs = true := by
    intro xs
    induction xs with
    | nil => intro _; rfl
    | cons a xs ih =>
      intro h
      have h1 := List.nodup_cons.mp h
      have h2 := ih h1.2
      simp [va_nd, h1.1, h2]
  exact h _ List.nodup_range
theorem va_whole (C : va_W) : (List.range C.length).map (fun i => C[i]?) = C.map some := by
  apply List.ext_getElem?
  intro i
  by_cases h : i < C.length
  · simp [h]
  · simp [Nat.not_lt.mp h]
section SBCALL6
variable {p : Program} {l : Launch} {e : Env} {R : Room} {s : State} {m : MethodId} {args : Array Value} {below : List Frame} {meth : Method} {c : Code} {H : Heap} {locs : List Loc} {cells slots : Nat} {Q : State → Prop}
variable {pc : Nat} {ls : Array Slot} {rest st0 : List Value} {A0 : Nat → Prop} {mc ms nL maxL n idx : Nat} {cc bytes : ByteArray} {own C : String} {y : MethodName} {ret : Option FieldType} {rm : Room} {D : va_G} {tys : List (ClassId × FieldType)} {wc Z : va_W} {E : Nat → State → Prop} {b : Nat} {As : List Value}
theorem sbZ_Vi {S : Type} {post : Int32 → S → Prop} {w1 : S → va_W} (Sx : CallFix p m c cc nL s args LW own)
    (hM : ∀ sz : Nat, Met l y (ws_ y bytes maxL ret) rm (sbPre D tys wc E sz (.ref b :: As)) (va_Qi post (sbEnd D w1 (va_A wc sz)) (va_A wc sz)) mc ms (va_A wc sz))
    (cw : CallW R s args own C idx y bytes maxL ret (ws_ y bytes maxL ret) rm mc ms n) (q0 ci : Nat) {fs : List Value} {T : u_T} {N : Nat} (hc : vwCl[ci]? = some (C, T, N)) (he : wc[q0]? = some (b, .inr (ci, fs)))
    (hK : va_K D vwCl tys s) (hP : va_P D vwCl (wc ++ Z) H) (hD : va_D A0 (wc ++ Z)) (hS : va_S A0 s.heap H locs) (hA : ∀ q, s.heap.size ≤ q → A0 q)
    (hEb : ∀ (U : State) (g : JFrame) (mk : MethodId) (a : Array Value), E H.size U → E H.size (U.calling g mk a)) (hE : ∀ U : State, U.heap = H → s.WarmedH U.vm → E H.size U)
    (hst : st0 = As.reverse ++ .ref b :: rest) (hlen : As.length = n) (hsz : ls.size = nL) (hroom : (rest.map fun v => v.category).sum ≤ 8) (hdg : decode cc pc = .ok (.invokevirtual idx, 3)) (hf : cells + mc ≤ R.cells ∧ slots + ms ≤ R.slots)
    (kk : ∀ (r : Int32) (u : S) (H1 : Heap) (locs1 : List Loc), post r u → va_P D vwCl (w1 u ++ Z) H1 → va_D A0 (w1 u ++ Z) → va_S A0 s.heap H1 locs1 → W p l e R s m args below meth c H1 locs1 (cells + mc) (slots + ms) Q (F0 m (pc + 3) ls (.int r :: rest))) :
    W p l e R s m args below meth c H locs cells slots Q (F0 m pc ls st0) :=
  sbT_Vi (X := wc) (pl := Z) Sx hM cw q0 ci hc he hK hP hD hS hA (List.range wc.length) [] (va_whole wc) rfl (va_nd_range _) rfl (fun _ h => by cases h) hEb hE hst hlen hsz hroom hdg hf (fun r u H1 locs1 h1 h2 h3 h4 => kk r u H1 locs1 h1 h2 h3 h4)
end SBCALL6
theorem sb_perm {D : va_G} {cl : List vw_C} {A : Nat → Prop} {H : Heap} {v w : va_W} (h : w.Perm v) (hP : va_P D cl v H) (hD : va_D A v) : va_P D cl w H ∧ va_D A w :=
  ⟨va_P_mem.mpr (fun q hq => va_P_mem.mp hP q (h.mem_iff.mp hq)), va_D_perm hD (h.map _)⟩
theorem rearr {α : Type} {a1 h f1 k1 R1 a2 f2 k2 R2 t : List α} : (((a2 ++ (h ++ (f2 ++ k2))) ++ R2) ++ (((a1 ++ (f1 ++ k1)) ++ R1) ++ t)).Perm (((a1 ++ (h ++ (f1 ++ k1))) ++ R1) ++ (((a2 ++ (f2 ++ k2)) ++ R2) ++ t)) := by
  letI : DecidableEq α := fun a b => _root_.Classical.propDecidable (a = b)
  rw [List.perm_iff_count]
  intro x
  simp only [List.count_append]
  omega
theorem rearr0 {α : Type} {a1 h f1 k1 R1 a2 f2 k2 R2 t : List α} : ((a1 ++ (h ++ (f1 ++ (f2 ++ t)))) ++ (a2 ++ (k1 ++ (k2 ++ (R1 ++ R2))))).Perm (((a1 ++ (h ++ (f1 ++ k1))) ++ R1) ++ (((a2 ++ (f2 ++ k2)) ++ R2) ++ t)) := by
  letI : DecidableEq α := fun a b => _root_.Classical.propDecidable (a = b)
  rw [List.perm_iff_count]
  intro x
  simp only [List.count_append]
  omega
theorem rearr1 {α : Type} {a1 h f1 k1 a2 f2 k2 t : List α} : (((a1 ++ (h ++ (f1 ++ k1))) ++ []) ++ (((a2 ++ (f2 ++ k2)) ++ []) ++ t)).Perm (a1 ++ (a2 ++ (h ++ (f1 ++ (f2 ++ (t ++ (k1 ++ k2))))))) := by
  letI : DecidableEq α := fun a b => _root_.Classical.propDecidable (a = b)
  rw [List.perm_iff_count]
  intro x
  simp only [List.count_append, List.count_nil]
  omega
theorem row2 {x y : Int32} {q r : Nat} (hx : x = 0) (hy : y = 1) : (va_up (va_up (fun _ => none) (Int32.toNatClampNeg x) (some q)) (Int32.toNatClampNeg y) (some r)) (Int32.toNatClampNeg 0) = some q ∧ (va_up (va_up (fun _ => none) (Int32.toNatClampNeg x) (some q)) (Int32.toNatClampNeg y) (some r)) (Int32.toNatClampNeg 1) = some r ∧ (va_up (va_up (fun _ => none) (Int32.toNatClampNeg x) (some q)) (Int32.toNatClampNeg y) (some r)) (Int32.toNatClampNeg 2) = none ∧ (va_up (va_up (fun _ => none) (Int32.toNatClampNeg x) (some q)) (Int32.toNatClampNeg y) (some r)) (Int32.toNatClampNeg 3) = none := by
  subst hx
  subst hy
  have e0 : Int32.toNatClampNeg 0 = 0 := by decide
  have e1 : Int32.toNatClampNeg 1 = 1 := by decide
  have e2 : Int32.toNatClampNeg 2 = 2 := by decide
  have e3 : Int32.toNatClampNeg 3 = 3 := by decide
  rw [e0, e1, e2, e3]
  refine ⟨rfl, rfl, rfl, rfl⟩
theorem row0 {rw : Nat → Option Nat} {q : Nat} {v : Int32} (hv : v = 0) (h : rw (Int32.toNatClampNeg 0) = some q) : f_X2_frameAt rw v = some (some q) := by
  subst hv
  unfold f_X2_frameAt
  rw [if_neg (by decide), if_neg (by decide), h, show gin _ 4 = true by decide]
  rfl
theorem row1 {rw : Nat → Option Nat} {q : Nat} {v : Int32} (hv : v = 1) (h : rw (Int32.toNatClampNeg 1) = some q) : f_X2_frameAt rw v = some (some q) := by
  subst hv
  unfold f_X2_frameAt
  rw [if_neg (by decide), if_neg (by decide), h, show gin _ 4 = true by decide]
  rfl
