-- laid by wip/p30/lib2.py
/-- a length that is not below 0 and at most n -/
def glen (x : Int32) (n : Nat) : Bool := decide (0 ≤ x.toInt) && decide (x.toInt ≤ (n : Int))
theorem glen_e {x : Int32} {n : Nat} (h : glen x n = true) : 0 ≤ x.toInt ∧ x.toInt ≤ (n : Int) := by
  simpa only [glen, Bool.and_eq_true, decide_eq_true_eq] using h
theorem glen_0 {x : Int32} {n : Nat} (h : glen x n = true) : ¬ x < 0 := by
  intro q
  have := (glen_e h).1
  have q2 := Int32.lt_iff_toInt_lt.mp q
  have e : (0 : Int32).toInt = 0 := rfl
  omega
theorem glen_n {x : Int32} {n : Nat} (h : glen x n = true) : Int32.toNatClampNeg x ≤ n := by
  have := glen_e h
  show x.toInt.toNat ≤ n
  omega
theorem glen_b {x : Int32} {n : Nat} (h : glen x n = true) (hn : n * 4 ≤ 536870912) : Int32.toNatClampNeg x * 4 ≤ 536870912 := by
  have := glen_n h
  omega
theorem glen_s {x : Int32} {n k m : Nat} (h : glen x n = true) (hn : k + n ≤ m) : k + Int32.toNatClampNeg x ≤ m := by
  have := glen_n h
  omega
theorem glen_w {x : Int32} {n k : Nat} (h : glen x n = true) : k + Int32.toNatClampNeg x ≤ k + n := by
  have := glen_n h
  omega
def nbool (x : Int32) : Bool := decide (x = 0) || decide (x = 1)
theorem nbool_n {x : Int32} (h : nbool x = true) : narrow .boolean (.int x) = .int x := by
  simp only [nbool, Bool.or_eq_true, decide_eq_true_eq] at h
  rcases h with rfl | rfl <;> rfl
section SB2
variable {p : Program} {l : Launch} {e : Env} {R : Room} {s : State} {m : MethodId} {args : Array Value} {below : List Frame} {meth : Method} {c : Code} {H : Heap} {locs : List Loc} {cells slots : Nat} {Q : State → Prop}
variable {cc : ByteArray} {pc : Nat} {ls : Array Slot} {rest : List Value} {D : va_G} {cl : List vw_C} {A : Nat → Prop} {a : Nat} {tys : List (ClassId × FieldType)} {ws : va_W} {H0 : Heap}
theorem sb_aldJ (hexec : p.tables.exec = Jvm.exec) (hb : c.code = cc) (hK : va_K D cl tys s) (hP : va_P D cl ws H) (q0 t0 : Nat) {cA : ClassId} {n : Nat} {f : Nat → Option Nat} (ha : ws[q0]? = some (a, .inl (cA, n, .inr (.inr (.inr (.inr f)))))) (ht : tys[t0]? = some (cA, .array .int)) {i : Int32} (hin : vp_in i n) (hdg : decode cc pc = .ok (.aaload, 1))
    (kk : W p l e R s m args below meth c H locs cells slots Q (F0 m (pc + 1) ls (va_rf (f i.toNatClampNeg) :: rest))) : W p l e R s m args below meth c H locs cells slots Q (F0 m pc ls (.int i :: .ref a :: rest)) := by
  have hlt : i.toNatClampNeg < n := Nat.not_le.mp fun q => hin (Or.inr q)
  exact W.aald (v := va_rf (f i.toNatClampNeg)) (ty := .array .int) hexec hb (hP q0 _ ha) ((hK.2 t0 _ ht).1 n (fun j => va_rf (f j))) rfl (fun q => by cases q) (by show ¬ (i < 0 ∨ (arrV _ _ _).slots.size ≤ _); rw [arrV_size]; exact hin) (by show (arrV _ _ _).slots[_]? = _; rw [arrV_read _ _ hlt]) rfl rfl hdg kk
end SB2
section SBCALL2
variable {p : Program} {l : Launch} {e : Env} {R : Room} {s : State} {m : MethodId} {args : Array Value} {below : List Frame} {meth : Method} {c : Code} {H : Heap} {locs : List Loc} {cells slots : Nat} {Q : State → Prop}
variable {pc : Nat} {ls : Array Slot} {rest st0 : List Value} {A0 : Nat → Prop} {mc ms nL maxL n idx : Nat} {cc bytes : ByteArray} {own C : String} {y : MethodName} {ret : Option FieldType} {rm : Room} {D : va_G} {tys : List (ClassId × FieldType)} {ws wc : va_W} {E : Nat → State → Prop} {b : Nat} {As : List Value}
theorem sb_Sq {S : Type} {post : Option Nat → S → Prop} {w1 : S → va_W} (Sx : CallFix p m c cc nL s args LW own)
    (hM : ∀ sz : Nat, Met l y (ws_ y bytes maxL ret) rm (sbPre D tys wc E sz As) (va_Qq post (sbEnd D w1 (va_A wc sz)) (va_A wc sz)) mc ms (va_A wc sz))
    (cw : CallB R s args own idx y bytes maxL ret (ws_ y bytes maxL ret) rm mc ms n ∧ (Cond.static y).before args s = true) 
    (hK : va_K D vwCl tys s) (hP : va_P D vwCl ws H) (hD : va_D A0 ws) (hS : va_S A0 s.heap H locs) (hA : ∀ q, s.heap.size ≤ q → A0 q)
    (isC isR : List Nat) (hC : isC.map (fun i => ws[i]?) = wc.map some) (hR : isR.map (fun i => ws[i]?) = (isR.filterMap (fun i => ws[i]?)).map some) (hnC : va_nd isC = true) (hn : va_nd isR = true) (hdis : ∀ i ∈ isR, i ∉ isC)
    (hEb : ∀ (U : State) (g : JFrame) (mk : MethodId) (a : Array Value), E H.size U → E H.size (U.calling g mk a)) (hE : ∀ U : State, U.heap = H → s.WarmedH U.vm → E H.size U)
    (hst : st0 = As.reverse ++ rest) (hlen : As.length = n) (hsz : ls.size = nL) (hroom : (rest.map fun v => v.category).sum ≤ 8) (hdg : decode cc pc = .ok (.invokestatic idx, 3)) (hf : cells + mc ≤ R.cells ∧ slots + ms ≤ R.slots)
    (kk : ∀ (r : Option Nat) (u : S) (H1 : Heap) (locs1 : List Loc), post r u → va_P D vwCl (isR.filterMap (fun i => ws[i]?) ++ w1 u) H1 → va_D A0 (isR.filterMap (fun i => ws[i]?) ++ w1 u) → va_S A0 s.heap H1 locs1 → W p l e R s m args below meth c H1 locs1 (cells + mc) (slots + ms) Q (F0 m (pc + 3) ls (va_rf r :: rest))) :
    W p l e R s m args below meth c H locs cells slots Q (F0 m pc ls st0) := by
  have hPc := sb_sub hP isC hC
  have hDc := hD.sub isC hnC hC
  have hFc := va_free hD hS hA isC hC
  have pre : ∀ U : State, U.heap = H → s.WarmedH U.vm → sbPre D tys wc E H.size As (As).toArray U := fun U hU hW => ⟨rfl, by rw [hU], by rw [hU]; exact hPc, va_K.moved hW.alike hK, hDc.weaken (fun _ _ _ _ => trivial), hE U hU hW⟩
  refine va_callq (va_runS (As := As) (rest := rest) Sx (hM H.size) cw ⟨sb_blind hEb, pre⟩ rfl hlen hsz hst (lv_room (pc := pc) (ls := ls) (rest := st0) (m := m) hroom) hdg hf) hS (fun q _ h => hFc q h) hFc (fun r u t H1 locs1 ht hvm hw hB hz1 hk1 hS => ?_)
  obtain ⟨hP1, hD1⟩ := hB
  rw [ht] at hP1
  obtain ⟨hP, hD⟩ := va_join hP hD isC isR hC hR hn hdis hk1 hFc hP1 hD1
  exact kk r u H1 locs1 hw hP hD hS
end SBCALL2
