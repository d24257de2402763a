-- laid by wip/p30/lib.py
/-- a value gets a name -/
def bnd {α β : Type} (x : α) (k : α → Option β) : Option β := k x
theorem bnd_all {α β : Type} {x : α} {k : α → Option β} {r : Option β} (h : bnd x k = r) : ∀ y, y = x → k y = r := by
  intro y hy
  subst hy
  exact h
/-- a guard -/
def gd {β : Type} (b : Bool) (k : Option β) : Option β := match b with
  | true => k
  | false => none
theorem gd_e {β : Type} {b : Bool} {k : Option β} {r : β} (h : gd b k = some r) : b = true ∧ k = some r := by
  cases b
  · cases h
  · exact ⟨rfl, h⟩
/-- what a callee answers -/
def obd {α β : Type} (x : Option α) (k : α → Option β) : Option β := match x with
  | none => none
  | some a => k a
theorem obd_e {α β : Type} {x : Option α} {k : α → Option β} {r : β} (h : obd x k = some r) : ∃ a, x = some a ∧ k a = some r := by
  cases x with
  | none => cases h
  | some a => exact ⟨a, rfl, h⟩
def jn {α β : Type} (x : α) (k : α → Option β) : Option β := k x
theorem jn_e {α β : Type} {x : α} {k : α → Option β} {r : β} (h : jn x k = some r) : ∃ y, y = x ∧ k y = some r := ⟨x, rfl, h⟩
theorem ite_t {c : Prop} [Decidable c] {α : Type} {a b r : α} (h : (if c then a else b) = r) (hc : c) : a = r := by rw [if_pos hc] at h; exact h
theorem ite_f {c : Prop} [Decidable c] {α : Type} {a b r : α} (h : (if c then a else b) = r) (hc : ¬ c) : b = r := by rw [if_neg hc] at h; exact h
def gin (i : Int32) (n : Nat) : Bool := decide (0 ≤ i.toInt) && decide (i.toInt < (n : Int))
theorem gin_in {i : Int32} {n : Nat} (h : gin i n = true) : vp_in i n := by
  simp only [gin, Bool.and_eq_true, decide_eq_true_eq] at h
  exact vp_in_iff.mpr h
def nn32 (r : UInt32) : Bool := decide (r &&& 0x7fffffff ≤ 0x7f800000)
theorem nn32_e {r : UInt32} (h : nn32 r = true) : vf_n32 r := by
  unfold nn32 at h
  unfold vf_n32
  simpa using h
def nn64 (r : UInt64) : Bool := decide (r &&& 0x7fffffffffffffff ≤ 0x7ff0000000000000)
theorem nn64_e {r : UInt64} (h : nn64 r = true) : vf_n64 r := by
  unfold nn64 at h
  unfold vf_n64
  simpa using h
def nz32 (x : Int32) : Bool := decide (x ≠ 0)
theorem nz32_e {x : Int32} (h : nz32 x = true) : ¬ x = 0 := by
  unfold nz32 at h
  simpa using h
def nz64 (x : Int64) : Bool := decide (x ≠ 0)
theorem nz64_e {x : Int64} (h : nz64 x = true) : ¬ x = 0 := by
  unfold nz64 at h
  simpa using h
/-- a method's start: its cells, apart, the classes, and what else it asks -/
abbrev sbPre (D : va_G) (tys : List (ClassId × FieldType)) (wc : va_W) (E : Nat → State → Prop) (sz : Nat) (avs : List Value) : Array Value → State → Prop :=
  va_Pc avs (fun U => U.heap.size = sz ∧ va_P D vwCl wc U.heap ∧ va_K D vwCl tys U ∧ va_D (fun _ => True) wc ∧ E sz U)
/-- its end -/
abbrev sbEnd {S : Type} (D : va_G) (w1 : S → va_W) (A : Nat → Prop) : S → State → Prop := fun u t => va_P D vwCl (w1 u) t.heap ∧ va_D A (w1 u)
abbrev E0 : Nat → State → Prop := fun _ _ => True
theorem sb_blind {D : va_G} {tys : List (ClassId × FieldType)} {wc : va_W} {E : Nat → State → Prop} {sz : Nat} {avs : List Value} (hE : ∀ (U : State) (g : JFrame) (mk : MethodId) (a : Array Value), E sz U → E sz (U.calling g mk a)) : FrameBlind (sbPre D tys wc E sz avs) := by
  intro a U g mk q
  obtain ⟨q0, q1, qP, qK, qD, qE⟩ := q
  exact ⟨q0, q1, qP, va_K.moved (u := U) (U := U.calling g mk a) (Vm.Alike.refl U.vm) qK, qD, hE U g mk a qE⟩
theorem sb_sub {D : va_G} {cl : List vw_C} {ws wc : va_W} {H : Heap} (hP : va_P D cl ws H) (is : List Nat) (hC : is.map (fun i => ws[i]?) = wc.map some) : va_P D cl wc H := by
  intro k q hq
  have h1 : (is.map (fun i => ws[i]?))[k]? = some (some q) := by rw [hC, List.getElem?_map, hq]; rfl
  rw [List.getElem?_map] at h1
  cases hi : is[k]? with
  | none => rw [hi] at h1; cases h1
  | some i => rw [hi] at h1; exact hP i q (Option.some.inj h1)
abbrev ws_ (y : MethodName) (b : ByteArray) (n : Nat) (r : Option FieldType) : List Cond := .code y b n r :: LW
theorem lw_good1 {w : Cond} (h : w ∈ LW) : goodWord w = true := List.all_eq_true.mp LW_good w h
theorem g_ws {y : MethodName} {b : ByteArray} {n : Nat} {r : Option FieldType} (h : (Cond.code y b n r) ∈ LW) : GoodIn LW (ws_ y b n r) := by
  intro w hw
  rcases List.mem_cons.mp hw with rfl | hw
  · exact ⟨h, good_of_word (lw_good1 h)⟩
  · exact ⟨hw, good_of_word (lw_good1 hw)⟩
theorem g_V {own C : String} {idx : Nat} {y : MethodName} {b : ByteArray} {n : Nat} {r : Option FieldType} (h1 : (Cond.methodLink own idx y) ∈ LW) (h2 : (Cond.instanceMethod y) ∈ LW) (h3 : (Cond.selects C y y) ∈ LW) (h4 : (Cond.initialized C) ∈ LW) (h5 : (Cond.code y b n r) ∈ LW) : GoodIn LW (wsV own idx C y (ws_ y b n r)) := by
  intro w hw
  rcases List.mem_append.mp hw with hw | hw
  · simp only [List.mem_cons, List.not_mem_nil, or_false] at hw
    rcases hw with rfl | rfl | rfl | rfl
    · exact ⟨h1, good_of_word (lw_good1 h1)⟩
    · exact ⟨h2, good_of_word (lw_good1 h2)⟩
    · exact ⟨h3, good_of_word (lw_good1 h3)⟩
    · exact ⟨h4, good_of_word (lw_good1 h4)⟩
  · exact g_ws h5 w hw
theorem g_S {own : String} {idx : Nat} {y : MethodName} {b : ByteArray} {n : Nat} {r : Option FieldType} (h1 : (Cond.methodLink own idx y) ∈ LW) (h2 : (Cond.static y) ∈ LW) (h4 : (Cond.initialized y.cls) ∈ LW) (h5 : (Cond.code y b n r) ∈ LW) : GoodIn LW (va_wsS own idx y (ws_ y b n r)) := by
  intro w hw
  rcases List.mem_append.mp hw with hw | hw
  · simp only [List.mem_cons, List.not_mem_nil, or_false] at hw
    rcases hw with rfl | rfl | rfl
    · exact ⟨h1, good_of_word (lw_good1 h1)⟩
    · exact ⟨h2, good_of_word (lw_good1 h2)⟩
    · exact ⟨h4, good_of_word (lw_good1 h4)⟩
  · exact g_ws h5 w hw

section SBCALL
variable {p : Program} {l : Launch} {e : Env} {R : Room} {s : State} {m : MethodId} {args : Array Value} {below : List Frame} {meth : Method} {c : Code} {H : Heap} {locs : List Loc} {cells slots : Nat} {Q : State → Prop}
variable {pc : Nat} {ls : Array Slot} {rest st0 : List Value} {A0 : Nat → Prop} {mc ms nL maxL n idx : Nat} {cc bytes : ByteArray} {own C : String} {y : MethodName} {ret : Option FieldType} {rm : Room} {D : va_G} {tys : List (ClassId × FieldType)} {ws wc : va_W} {E : Nat → State → Prop} {b : Nat} {As : List Value}
theorem sb_Vi {S : Type} {post : Int32 → S → Prop} {w1 : S → va_W} (Sx : CallFix p m c cc nL s args LW own)
    (hM : ∀ sz : Nat, Met l y (ws_ y bytes maxL ret) rm (sbPre D tys wc E sz (.ref b :: As)) (va_Qi post (sbEnd D w1 (va_A wc sz)) (va_A wc sz)) mc ms (va_A wc sz))
    (cw : CallW R s args own C idx y bytes maxL ret (ws_ y bytes maxL ret) rm mc ms n) (q0 ci : Nat) {fs : List Value} {T : u_T} {N : Nat} (hc : vwCl[ci]? = some (C, T, N)) (he : wc[q0]? = some (b, .inr (ci, fs)))
    (hK : va_K D vwCl tys s) (hP : va_P D vwCl ws H) (hD : va_D A0 ws) (hS : va_S A0 s.heap H locs) (hA : ∀ q, s.heap.size ≤ q → A0 q)
    (isC isR : List Nat) (hC : isC.map (fun i => ws[i]?) = wc.map some) (hR : isR.map (fun i => ws[i]?) = (isR.filterMap (fun i => ws[i]?)).map some) (hnC : va_nd isC = true) (hn : va_nd isR = true) (hdis : ∀ i ∈ isR, i ∉ isC)
    (hEb : ∀ (U : State) (g : JFrame) (mk : MethodId) (a : Array Value), E H.size U → E H.size (U.calling g mk a)) (hE : ∀ U : State, U.heap = H → s.WarmedH U.vm → E H.size U)
    (hst : st0 = As.reverse ++ .ref b :: rest) (hlen : As.length = n) (hsz : ls.size = nL) (hroom : (rest.map fun v => v.category).sum ≤ 8) (hdg : decode cc pc = .ok (.invokevirtual idx, 3)) (hf : cells + mc ≤ R.cells ∧ slots + ms ≤ R.slots)
    (kk : ∀ (r : Int32) (u : S) (H1 : Heap) (locs1 : List Loc), post r u → va_P D vwCl (isR.filterMap (fun i => ws[i]?) ++ w1 u) H1 → va_D A0 (isR.filterMap (fun i => ws[i]?) ++ w1 u) → va_S A0 s.heap H1 locs1 → W p l e R s m args below meth c H1 locs1 (cells + mc) (slots + ms) Q (F0 m (pc + 3) ls (.int r :: rest))) :
    W p l e R s m args below meth c H locs cells slots Q (F0 m pc ls st0) := by
  have hPc := sb_sub hP isC hC
  have hDc := hD.sub isC hnC hC
  have hFc := va_free hD hS hA isC hC
  have pre : ∀ U : State, U.heap = H → s.WarmedH U.vm → sbPre D tys wc E H.size (.ref b :: As) (.ref b :: As).toArray U := fun U hU hW => ⟨rfl, by rw [hU], by rw [hU]; exact hPc, va_K.moved hW.alike hK, hDc.weaken (fun _ _ _ _ => trivial), hE U hU hW⟩
  refine va_calli (va_runV (As := As) (rest := rest) Sx (hM H.size) cw ⟨sb_blind hEb, va_recv hK hPc hc he, pre⟩ rfl hlen hsz hst (lv_room (pc := pc) (ls := ls) (rest := st0) (m := m) hroom) hdg hf) hS (fun q _ h => hFc q h) hFc (fun r u t H1 locs1 ht hvm hw hB hz1 hk1 hS => ?_)
  obtain ⟨hP1, hD1⟩ := hB
  rw [ht] at hP1
  obtain ⟨hP, hD⟩ := va_join hP hD isC isR hC hR hn hdis hk1 hFc hP1 hD1
  exact kk r u H1 locs1 hw hP hD hS
theorem sb_Vl {S : Type} {post : Int64 → S → Prop} {w1 : S → va_W} (Sx : CallFix p m c cc nL s args LW own)
    (hM : ∀ sz : Nat, Met l y (ws_ y bytes maxL ret) rm (sbPre D tys wc E sz (.ref b :: As)) (va_Ql post (sbEnd D w1 (va_A wc sz)) (va_A wc sz)) mc ms (va_A wc sz))
    (cw : CallW R s args own C idx y bytes maxL ret (ws_ y bytes maxL ret) rm mc ms n) (q0 ci : Nat) {fs : List Value} {T : u_T} {N : Nat} (hc : vwCl[ci]? = some (C, T, N)) (he : wc[q0]? = some (b, .inr (ci, fs)))
    (hK : va_K D vwCl tys s) (hP : va_P D vwCl ws H) (hD : va_D A0 ws) (hS : va_S A0 s.heap H locs) (hA : ∀ q, s.heap.size ≤ q → A0 q)
    (isC isR : List Nat) (hC : isC.map (fun i => ws[i]?) = wc.map some) (hR : isR.map (fun i => ws[i]?) = (isR.filterMap (fun i => ws[i]?)).map some) (hnC : va_nd isC = true) (hn : va_nd isR = true) (hdis : ∀ i ∈ isR, i ∉ isC)
    (hEb : ∀ (U : State) (g : JFrame) (mk : MethodId) (a : Array Value), E H.size U → E H.size (U.calling g mk a)) (hE : ∀ U : State, U.heap = H → s.WarmedH U.vm → E H.size U)
    (hst : st0 = As.reverse ++ .ref b :: rest) (hlen : As.length = n) (hsz : ls.size = nL) (hroom : (rest.map fun v => v.category).sum ≤ 8) (hdg : decode cc pc = .ok (.invokevirtual idx, 3)) (hf : cells + mc ≤ R.cells ∧ slots + ms ≤ R.slots)
    (kk : ∀ (r : Int64) (u : S) (H1 : Heap) (locs1 : List Loc), post r u → va_P D vwCl (isR.filterMap (fun i => ws[i]?) ++ w1 u) H1 → va_D A0 (isR.filterMap (fun i => ws[i]?) ++ w1 u) → va_S A0 s.heap H1 locs1 → W p l e R s m args below meth c H1 locs1 (cells + mc) (slots + ms) Q (F0 m (pc + 3) ls (.long r :: rest))) :
    W p l e R s m args below meth c H locs cells slots Q (F0 m pc ls st0) := by
  have hPc := sb_sub hP isC hC
  have hDc := hD.sub isC hnC hC
  have hFc := va_free hD hS hA isC hC
  have pre : ∀ U : State, U.heap = H → s.WarmedH U.vm → sbPre D tys wc E H.size (.ref b :: As) (.ref b :: As).toArray U := fun U hU hW => ⟨rfl, by rw [hU], by rw [hU]; exact hPc, va_K.moved hW.alike hK, hDc.weaken (fun _ _ _ _ => trivial), hE U hU hW⟩
  refine va_calll (va_runV (As := As) (rest := rest) Sx (hM H.size) cw ⟨sb_blind hEb, va_recv hK hPc hc he, pre⟩ rfl hlen hsz hst (lv_room (pc := pc) (ls := ls) (rest := st0) (m := m) hroom) hdg hf) hS (fun q _ h => hFc q h) hFc (fun r u t H1 locs1 ht hvm hw hB hz1 hk1 hS => ?_)
  obtain ⟨hP1, hD1⟩ := hB
  rw [ht] at hP1
  obtain ⟨hP, hD⟩ := va_join hP hD isC isR hC hR hn hdis hk1 hFc hP1 hD1
  exact kk r u H1 locs1 hw hP hD hS
theorem sb_Vd {S : Type} {post : UInt64 → S → Prop} {w1 : S → va_W} (Sx : CallFix p m c cc nL s args LW own)
    (hM : ∀ sz : Nat, Met l y (ws_ y bytes maxL ret) rm (sbPre D tys wc E sz (.ref b :: As)) (va_Qd post (sbEnd D w1 (va_A wc sz)) (va_A wc sz)) mc ms (va_A wc sz))
    (cw : CallW R s args own C idx y bytes maxL ret (ws_ y bytes maxL ret) rm mc ms n) (q0 ci : Nat) {fs : List Value} {T : u_T} {N : Nat} (hc : vwCl[ci]? = some (C, T, N)) (he : wc[q0]? = some (b, .inr (ci, fs)))
    (hK : va_K D vwCl tys s) (hP : va_P D vwCl ws H) (hD : va_D A0 ws) (hS : va_S A0 s.heap H locs) (hA : ∀ q, s.heap.size ≤ q → A0 q)
    (isC isR : List Nat) (hC : isC.map (fun i => ws[i]?) = wc.map some) (hR : isR.map (fun i => ws[i]?) = (isR.filterMap (fun i => ws[i]?)).map some) (hnC : va_nd isC = true) (hn : va_nd isR = true) (hdis : ∀ i ∈ isR, i ∉ isC)
    (hEb : ∀ (U : State) (g : JFrame) (mk : MethodId) (a : Array Value), E H.size U → E H.size (U.calling g mk a)) (hE : ∀ U : State, U.heap = H → s.WarmedH U.vm → E H.size U)
    (hst : st0 = As.reverse ++ .ref b :: rest) (hlen : As.length = n) (hsz : ls.size = nL) (hroom : (rest.map fun v => v.category).sum ≤ 8) (hdg : decode cc pc = .ok (.invokevirtual idx, 3)) (hf : cells + mc ≤ R.cells ∧ slots + ms ≤ R.slots)
    (kk : ∀ (r : UInt64) (u : S) (H1 : Heap) (locs1 : List Loc), post r u → va_P D vwCl (isR.filterMap (fun i => ws[i]?) ++ w1 u) H1 → va_D A0 (isR.filterMap (fun i => ws[i]?) ++ w1 u) → va_S A0 s.heap H1 locs1 → W p l e R s m args below meth c H1 locs1 (cells + mc) (slots + ms) Q (F0 m (pc + 3) ls (.double r :: rest))) :
    W p l e R s m args below meth c H locs cells slots Q (F0 m pc ls st0) := by
  have hPc := sb_sub hP isC hC
  have hDc := hD.sub isC hnC hC
  have hFc := va_free hD hS hA isC hC
  have pre : ∀ U : State, U.heap = H → s.WarmedH U.vm → sbPre D tys wc E H.size (.ref b :: As) (.ref b :: As).toArray U := fun U hU hW => ⟨rfl, by rw [hU], by rw [hU]; exact hPc, va_K.moved hW.alike hK, hDc.weaken (fun _ _ _ _ => trivial), hE U hU hW⟩
  refine va_calld (va_runV (As := As) (rest := rest) Sx (hM H.size) cw ⟨sb_blind hEb, va_recv hK hPc hc he, pre⟩ rfl hlen hsz hst (lv_room (pc := pc) (ls := ls) (rest := st0) (m := m) hroom) hdg hf) hS (fun q _ h => hFc q h) hFc (fun r u t H1 locs1 ht hvm hw hB hz1 hk1 hS => ?_)
  obtain ⟨hP1, hD1⟩ := hB
  rw [ht] at hP1
  obtain ⟨hP, hD⟩ := va_join hP hD isC isR hC hR hn hdis hk1 hFc hP1 hD1
  exact kk r u H1 locs1 hw hP hD hS
theorem sb_Vv {S : Type} {post : S → Prop} {w1 : S → va_W} (Sx : CallFix p m c cc nL s args LW own)
    (hM : ∀ sz : Nat, Met l y (ws_ y bytes maxL ret) rm (sbPre D tys wc E sz (.ref b :: As)) (va_Qv post (sbEnd D w1 (va_A wc sz)) (va_A wc sz)) mc ms (va_A wc sz))
    (cw : CallW R s args own C idx y bytes maxL ret (ws_ y bytes maxL ret) rm mc ms n) (q0 ci : Nat) {fs : List Value} {T : u_T} {N : Nat} (hc : vwCl[ci]? = some (C, T, N)) (he : wc[q0]? = some (b, .inr (ci, fs)))
    (hK : va_K D vwCl tys s) (hP : va_P D vwCl ws H) (hD : va_D A0 ws) (hS : va_S A0 s.heap H locs) (hA : ∀ q, s.heap.size ≤ q → A0 q)
    (isC isR : List Nat) (hC : isC.map (fun i => ws[i]?) = wc.map some) (hR : isR.map (fun i => ws[i]?) = (isR.filterMap (fun i => ws[i]?)).map some) (hnC : va_nd isC = true) (hn : va_nd isR = true) (hdis : ∀ i ∈ isR, i ∉ isC)
    (hEb : ∀ (U : State) (g : JFrame) (mk : MethodId) (a : Array Value), E H.size U → E H.size (U.calling g mk a)) (hE : ∀ U : State, U.heap = H → s.WarmedH U.vm → E H.size U)
    (hst : st0 = As.reverse ++ .ref b :: rest) (hlen : As.length = n) (hsz : ls.size = nL) (hroom : (rest.map fun v => v.category).sum ≤ 8) (hdg : decode cc pc = .ok (.invokevirtual idx, 3)) (hf : cells + mc ≤ R.cells ∧ slots + ms ≤ R.slots)
    (kk : ∀ (u : S) (H1 : Heap) (locs1 : List Loc), post u → va_P D vwCl (isR.filterMap (fun i => ws[i]?) ++ w1 u) H1 → va_D A0 (isR.filterMap (fun i => ws[i]?) ++ w1 u) → va_S A0 s.heap H1 locs1 → W p l e R s m args below meth c H1 locs1 (cells + mc) (slots + ms) Q (F0 m (pc + 3) ls (rest))) :
    W p l e R s m args below meth c H locs cells slots Q (F0 m pc ls st0) := by
  have hPc := sb_sub hP isC hC
  have hDc := hD.sub isC hnC hC
  have hFc := va_free hD hS hA isC hC
  have pre : ∀ U : State, U.heap = H → s.WarmedH U.vm → sbPre D tys wc E H.size (.ref b :: As) (.ref b :: As).toArray U := fun U hU hW => ⟨rfl, by rw [hU], by rw [hU]; exact hPc, va_K.moved hW.alike hK, hDc.weaken (fun _ _ _ _ => trivial), hE U hU hW⟩
  refine va_callv (va_runV (As := As) (rest := rest) Sx (hM H.size) cw ⟨sb_blind hEb, va_recv hK hPc hc he, pre⟩ rfl hlen hsz hst (lv_room (pc := pc) (ls := ls) (rest := st0) (m := m) hroom) hdg hf) hS (fun q _ h => hFc q h) hFc (fun u t H1 locs1 ht hvm hw hB hz1 hk1 hS => ?_)
  obtain ⟨hP1, hD1⟩ := hB
  rw [ht] at hP1
  obtain ⟨hP, hD⟩ := va_join hP hD isC isR hC hR hn hdis hk1 hFc hP1 hD1
  exact kk u H1 locs1 hw hP hD hS
theorem sb_Vq {S : Type} {post : Option Nat → S → Prop} {w1 : S → va_W} (Sx : CallFix p m c cc nL s args LW own)
    (hM : ∀ sz : Nat, Met l y (ws_ y bytes maxL ret) rm (sbPre D tys wc E sz (.ref b :: As)) (va_Qq post (sbEnd D w1 (va_A wc sz)) (va_A wc sz)) mc ms (va_A wc sz))
    (cw : CallW R s args own C idx y bytes maxL ret (ws_ y bytes maxL ret) rm mc ms n) (q0 ci : Nat) {fs : List Value} {T : u_T} {N : Nat} (hc : vwCl[ci]? = some (C, T, N)) (he : wc[q0]? = some (b, .inr (ci, fs)))
    (hK : va_K D vwCl tys s) (hP : va_P D vwCl ws H) (hD : va_D A0 ws) (hS : va_S A0 s.heap H locs) (hA : ∀ q, s.heap.size ≤ q → A0 q)
    (isC isR : List Nat) (hC : isC.map (fun i => ws[i]?) = wc.map some) (hR : isR.map (fun i => ws[i]?) = (isR.filterMap (fun i => ws[i]?)).map some) (hnC : va_nd isC = true) (hn : va_nd isR = true) (hdis : ∀ i ∈ isR, i ∉ isC)
    (hEb : ∀ (U : State) (g : JFrame) (mk : MethodId) (a : Array Value), E H.size U → E H.size (U.calling g mk a)) (hE : ∀ U : State, U.heap = H → s.WarmedH U.vm → E H.size U)
    (hst : st0 = As.reverse ++ .ref b :: rest) (hlen : As.length = n) (hsz : ls.size = nL) (hroom : (rest.map fun v => v.category).sum ≤ 8) (hdg : decode cc pc = .ok (.invokevirtual idx, 3)) (hf : cells + mc ≤ R.cells ∧ slots + ms ≤ R.slots)
    (kk : ∀ (r : Option Nat) (u : S) (H1 : Heap) (locs1 : List Loc), post r u → va_P D vwCl (isR.filterMap (fun i => ws[i]?) ++ w1 u) H1 → va_D A0 (isR.filterMap (fun i => ws[i]?) ++ w1 u) → va_S A0 s.heap H1 locs1 → W p l e R s m args below meth c H1 locs1 (cells + mc) (slots + ms) Q (F0 m (pc + 3) ls (va_rf r :: rest))) :
    W p l e R s m args below meth c H locs cells slots Q (F0 m pc ls st0) := by
  have hPc := sb_sub hP isC hC
  have hDc := hD.sub isC hnC hC
  have hFc := va_free hD hS hA isC hC
  have pre : ∀ U : State, U.heap = H → s.WarmedH U.vm → sbPre D tys wc E H.size (.ref b :: As) (.ref b :: As).toArray U := fun U hU hW => ⟨rfl, by rw [hU], by rw [hU]; exact hPc, va_K.moved hW.alike hK, hDc.weaken (fun _ _ _ _ => trivial), hE U hU hW⟩
  refine va_callq (va_runV (As := As) (rest := rest) Sx (hM H.size) cw ⟨sb_blind hEb, va_recv hK hPc hc he, pre⟩ rfl hlen hsz hst (lv_room (pc := pc) (ls := ls) (rest := st0) (m := m) hroom) hdg hf) hS (fun q _ h => hFc q h) hFc (fun r u t H1 locs1 ht hvm hw hB hz1 hk1 hS => ?_)
  obtain ⟨hP1, hD1⟩ := hB
  rw [ht] at hP1
  obtain ⟨hP, hD⟩ := va_join hP hD isC isR hC hR hn hdis hk1 hFc hP1 hD1
  exact kk r u H1 locs1 hw hP hD hS
theorem sb_Si {S : Type} {post : Int32 → S → Prop} {w1 : S → va_W} (Sx : CallFix p m c cc nL s args LW own)
    (hM : ∀ sz : Nat, Met l y (ws_ y bytes maxL ret) rm (sbPre D tys wc E sz As) (va_Qi post (sbEnd D w1 (va_A wc sz)) (va_A wc sz)) mc ms (va_A wc sz))
    (cw : CallB R s args own idx y bytes maxL ret (ws_ y bytes maxL ret) rm mc ms n ∧ (Cond.static y).before args s = true) 
    (hK : va_K D vwCl tys s) (hP : va_P D vwCl ws H) (hD : va_D A0 ws) (hS : va_S A0 s.heap H locs) (hA : ∀ q, s.heap.size ≤ q → A0 q)
    (isC isR : List Nat) (hC : isC.map (fun i => ws[i]?) = wc.map some) (hR : isR.map (fun i => ws[i]?) = (isR.filterMap (fun i => ws[i]?)).map some) (hnC : va_nd isC = true) (hn : va_nd isR = true) (hdis : ∀ i ∈ isR, i ∉ isC)
    (hEb : ∀ (U : State) (g : JFrame) (mk : MethodId) (a : Array Value), E H.size U → E H.size (U.calling g mk a)) (hE : ∀ U : State, U.heap = H → s.WarmedH U.vm → E H.size U)
    (hst : st0 = As.reverse ++ rest) (hlen : As.length = n) (hsz : ls.size = nL) (hroom : (rest.map fun v => v.category).sum ≤ 8) (hdg : decode cc pc = .ok (.invokestatic idx, 3)) (hf : cells + mc ≤ R.cells ∧ slots + ms ≤ R.slots)
    (kk : ∀ (r : Int32) (u : S) (H1 : Heap) (locs1 : List Loc), post r u → va_P D vwCl (isR.filterMap (fun i => ws[i]?) ++ w1 u) H1 → va_D A0 (isR.filterMap (fun i => ws[i]?) ++ w1 u) → va_S A0 s.heap H1 locs1 → W p l e R s m args below meth c H1 locs1 (cells + mc) (slots + ms) Q (F0 m (pc + 3) ls (.int r :: rest))) :
    W p l e R s m args below meth c H locs cells slots Q (F0 m pc ls st0) := by
  have hPc := sb_sub hP isC hC
  have hDc := hD.sub isC hnC hC
  have hFc := va_free hD hS hA isC hC
  have pre : ∀ U : State, U.heap = H → s.WarmedH U.vm → sbPre D tys wc E H.size As (As).toArray U := fun U hU hW => ⟨rfl, by rw [hU], by rw [hU]; exact hPc, va_K.moved hW.alike hK, hDc.weaken (fun _ _ _ _ => trivial), hE U hU hW⟩
  refine va_calli (va_runS (As := As) (rest := rest) Sx (hM H.size) cw ⟨sb_blind hEb, pre⟩ rfl hlen hsz hst (lv_room (pc := pc) (ls := ls) (rest := st0) (m := m) hroom) hdg hf) hS (fun q _ h => hFc q h) hFc (fun r u t H1 locs1 ht hvm hw hB hz1 hk1 hS => ?_)
  obtain ⟨hP1, hD1⟩ := hB
  rw [ht] at hP1
  obtain ⟨hP, hD⟩ := va_join hP hD isC isR hC hR hn hdis hk1 hFc hP1 hD1
  exact kk r u H1 locs1 hw hP hD hS
theorem sb_Sl {S : Type} {post : Int64 → S → Prop} {w1 : S → va_W} (Sx : CallFix p m c cc nL s args LW own)
    (hM : ∀ sz : Nat, Met l y (ws_ y bytes maxL ret) rm (sbPre D tys wc E sz As) (va_Ql post (sbEnd D w1 (va_A wc sz)) (va_A wc sz)) mc ms (va_A wc sz))
    (cw : CallB R s args own idx y bytes maxL ret (ws_ y bytes maxL ret) rm mc ms n ∧ (Cond.static y).before args s = true) 
    (hK : va_K D vwCl tys s) (hP : va_P D vwCl ws H) (hD : va_D A0 ws) (hS : va_S A0 s.heap H locs) (hA : ∀ q, s.heap.size ≤ q → A0 q)
    (isC isR : List Nat) (hC : isC.map (fun i => ws[i]?) = wc.map some) (hR : isR.map (fun i => ws[i]?) = (isR.filterMap (fun i => ws[i]?)).map some) (hnC : va_nd isC = true) (hn : va_nd isR = true) (hdis : ∀ i ∈ isR, i ∉ isC)
    (hEb : ∀ (U : State) (g : JFrame) (mk : MethodId) (a : Array Value), E H.size U → E H.size (U.calling g mk a)) (hE : ∀ U : State, U.heap = H → s.WarmedH U.vm → E H.size U)
    (hst : st0 = As.reverse ++ rest) (hlen : As.length = n) (hsz : ls.size = nL) (hroom : (rest.map fun v => v.category).sum ≤ 8) (hdg : decode cc pc = .ok (.invokestatic idx, 3)) (hf : cells + mc ≤ R.cells ∧ slots + ms ≤ R.slots)
    (kk : ∀ (r : Int64) (u : S) (H1 : Heap) (locs1 : List Loc), post r u → va_P D vwCl (isR.filterMap (fun i => ws[i]?) ++ w1 u) H1 → va_D A0 (isR.filterMap (fun i => ws[i]?) ++ w1 u) → va_S A0 s.heap H1 locs1 → W p l e R s m args below meth c H1 locs1 (cells + mc) (slots + ms) Q (F0 m (pc + 3) ls (.long r :: rest))) :
    W p l e R s m args below meth c H locs cells slots Q (F0 m pc ls st0) := by
  have hPc := sb_sub hP isC hC
  have hDc := hD.sub isC hnC hC
  have hFc := va_free hD hS hA isC hC
  have pre : ∀ U : State, U.heap = H → s.WarmedH U.vm → sbPre D tys wc E H.size As (As).toArray U := fun U hU hW => ⟨rfl, by rw [hU], by rw [hU]; exact hPc, va_K.moved hW.alike hK, hDc.weaken (fun _ _ _ _ => trivial), hE U hU hW⟩
  refine va_calll (va_runS (As := As) (rest := rest) Sx (hM H.size) cw ⟨sb_blind hEb, pre⟩ rfl hlen hsz hst (lv_room (pc := pc) (ls := ls) (rest := st0) (m := m) hroom) hdg hf) hS (fun q _ h => hFc q h) hFc (fun r u t H1 locs1 ht hvm hw hB hz1 hk1 hS => ?_)
  obtain ⟨hP1, hD1⟩ := hB
  rw [ht] at hP1
  obtain ⟨hP, hD⟩ := va_join hP hD isC isR hC hR hn hdis hk1 hFc hP1 hD1
  exact kk r u H1 locs1 hw hP hD hS
theorem sb_Sv {S : Type} {post : S → Prop} {w1 : S → va_W} (Sx : CallFix p m c cc nL s args LW own)
    (hM : ∀ sz : Nat, Met l y (ws_ y bytes maxL ret) rm (sbPre D tys wc E sz As) (va_Qv post (sbEnd D w1 (va_A wc sz)) (va_A wc sz)) mc ms (va_A wc sz))
    (cw : CallB R s args own idx y bytes maxL ret (ws_ y bytes maxL ret) rm mc ms n ∧ (Cond.static y).before args s = true) 
    (hK : va_K D vwCl tys s) (hP : va_P D vwCl ws H) (hD : va_D A0 ws) (hS : va_S A0 s.heap H locs) (hA : ∀ q, s.heap.size ≤ q → A0 q)
    (isC isR : List Nat) (hC : isC.map (fun i => ws[i]?) = wc.map some) (hR : isR.map (fun i => ws[i]?) = (isR.filterMap (fun i => ws[i]?)).map some) (hnC : va_nd isC = true) (hn : va_nd isR = true) (hdis : ∀ i ∈ isR, i ∉ isC)
    (hEb : ∀ (U : State) (g : JFrame) (mk : MethodId) (a : Array Value), E H.size U → E H.size (U.calling g mk a)) (hE : ∀ U : State, U.heap = H → s.WarmedH U.vm → E H.size U)
    (hst : st0 = As.reverse ++ rest) (hlen : As.length = n) (hsz : ls.size = nL) (hroom : (rest.map fun v => v.category).sum ≤ 8) (hdg : decode cc pc = .ok (.invokestatic idx, 3)) (hf : cells + mc ≤ R.cells ∧ slots + ms ≤ R.slots)
    (kk : ∀ (u : S) (H1 : Heap) (locs1 : List Loc), post u → va_P D vwCl (isR.filterMap (fun i => ws[i]?) ++ w1 u) H1 → va_D A0 (isR.filterMap (fun i => ws[i]?) ++ w1 u) → va_S A0 s.heap H1 locs1 → W p l e R s m args below meth c H1 locs1 (cells + mc) (slots + ms) Q (F0 m (pc + 3) ls (rest))) :
    W p l e R s m args below meth c H locs cells slots Q (F0 m pc ls st0) := by
  have hPc := sb_sub hP isC hC
  have hDc := hD.sub isC hnC hC
  have hFc := va_free hD hS hA isC hC
  have pre : ∀ U : State, U.heap = H → s.WarmedH U.vm → sbPre D tys wc E H.size As (As).toArray U := fun U hU hW => ⟨rfl, by rw [hU], by rw [hU]; exact hPc, va_K.moved hW.alike hK, hDc.weaken (fun _ _ _ _ => trivial), hE U hU hW⟩
  refine va_callv (va_runS (As := As) (rest := rest) Sx (hM H.size) cw ⟨sb_blind hEb, pre⟩ rfl hlen hsz hst (lv_room (pc := pc) (ls := ls) (rest := st0) (m := m) hroom) hdg hf) hS (fun q _ h => hFc q h) hFc (fun u t H1 locs1 ht hvm hw hB hz1 hk1 hS => ?_)
  obtain ⟨hP1, hD1⟩ := hB
  rw [ht] at hP1
  obtain ⟨hP, hD⟩ := va_join hP hD isC isR hC hR hn hdis hk1 hFc hP1 hD1
  exact kk u H1 locs1 hw hP hD hS
theorem sb_Iv {S : Type} {post : S → Prop} {w1 : S → va_W} (Sx : CallFix p m c cc nL s args LW own)
    (hM : ∀ sz : Nat, Met l y (ws_ y bytes maxL none) rm (sbPre D tys wc E sz (.ref b :: As)) (va_Qv post (sbEnd D w1 (va_A wc sz)) (va_A wc sz)) mc ms (va_A wc sz))
    (cw : CallB R s args own idx y bytes maxL none (ws_ y bytes maxL none) rm mc ms n ∧ y.name = "<init>" ∧ (Cond.instanceMethod y).before args s = true) 
    (hK : va_K D vwCl tys s) (hP : va_P D vwCl ws H) (hD : va_D A0 ws) (hS : va_S A0 s.heap H locs) (hA : ∀ q, s.heap.size ≤ q → A0 q)
    (isC isR : List Nat) (hC : isC.map (fun i => ws[i]?) = wc.map some) (hR : isR.map (fun i => ws[i]?) = (isR.filterMap (fun i => ws[i]?)).map some) (hnC : va_nd isC = true) (hn : va_nd isR = true) (hdis : ∀ i ∈ isR, i ∉ isC)
    (hEb : ∀ (U : State) (g : JFrame) (mk : MethodId) (a : Array Value), E H.size U → E H.size (U.calling g mk a)) (hE : ∀ U : State, U.heap = H → s.WarmedH U.vm → E H.size U)
    (hst : st0 = As.reverse ++ .ref b :: rest) (hlen : As.length = n) (hsz : ls.size = nL) (hroom : (rest.map fun v => v.category).sum ≤ 8) (hdg : decode cc pc = .ok (.invokespecial idx, 3)) (hf : cells + mc ≤ R.cells ∧ slots + ms ≤ R.slots)
    (kk : ∀ (u : S) (H1 : Heap) (locs1 : List Loc), post u → va_P D vwCl (isR.filterMap (fun i => ws[i]?) ++ w1 u) H1 → va_D A0 (isR.filterMap (fun i => ws[i]?) ++ w1 u) → va_S A0 s.heap H1 locs1 → W p l e R s m args below meth c H1 locs1 (cells + mc) (slots + ms) Q (F0 m (pc + 3) ls (rest))) :
    W p l e R s m args below meth c H locs cells slots Q (F0 m pc ls st0) := by
  have hPc := sb_sub hP isC hC
  have hDc := hD.sub isC hnC hC
  have hFc := va_free hD hS hA isC hC
  have pre : ∀ U : State, U.heap = H → s.WarmedH U.vm → sbPre D tys wc E H.size (.ref b :: As) (.ref b :: As).toArray U := fun U hU hW => ⟨rfl, by rw [hU], by rw [hU]; exact hPc, va_K.moved hW.alike hK, hDc.weaken (fun _ _ _ _ => trivial), hE U hU hW⟩
  refine va_callv (va_runI (As := As) (rest := rest) Sx (hM H.size) cw ⟨sb_blind hEb, pre⟩ rfl hlen hsz hst (lv_room (pc := pc) (ls := ls) (rest := st0) (m := m) hroom) hdg hf) hS (fun q _ h => hFc q h) hFc (fun u t H1 locs1 ht hvm hw hB hz1 hk1 hS => ?_)
  obtain ⟨hP1, hD1⟩ := hB
  rw [ht] at hP1
  obtain ⟨hP, hD⟩ := va_join hP hD isC isR hC hR hn hdis hk1 hFc hP1 hD1
  exact kk u H1 locs1 hw hP hD hS
theorem sb_Ni {S : Type} {host : String} {post : Int32 → S → Prop} {w1 : S → va_W} (Sx : CallFix p m c cc nL s args LW own)
    (hM : ∀ sz : Nat, Met l y (ws_ y bytes maxL ret) rm (sbPre D tys wc E sz As) (va_Qi post (sbEnd D w1 (va_A wc sz)) (va_A wc sz)) mc ms (va_A wc sz))
    (cw : va_CN R s args own idx y host bytes maxL ret (ws_ y bytes maxL ret) rm mc ms n ∧ (Cond.static y).before args s = true ∧ True) 
    (hK : va_K D vwCl tys s) (hP : va_P D vwCl ws H) (hD : va_D A0 ws) (hS : va_S A0 s.heap H locs) (hA : ∀ q, s.heap.size ≤ q → A0 q)
    (isC isR : List Nat) (hC : isC.map (fun i => ws[i]?) = wc.map some) (hR : isR.map (fun i => ws[i]?) = (isR.filterMap (fun i => ws[i]?)).map some) (hnC : va_nd isC = true) (hn : va_nd isR = true) (hdis : ∀ i ∈ isR, i ∉ isC)
    (hEb : ∀ (U : State) (g : JFrame) (mk : MethodId) (a : Array Value), E H.size U → E H.size (U.calling g mk a)) (hE : ∀ U : State, U.heap = H → s.WarmedH U.vm → E H.size U)
    (hst : st0 = As.reverse ++ rest) (hlen : As.length = n) (hsz : ls.size = nL) (hroom : (rest.map fun v => v.category).sum ≤ 8) (hdg : decode cc pc = .ok (.invokestatic idx, 3)) (hf : cells + mc ≤ R.cells ∧ slots + ms ≤ R.slots)
    (kk : ∀ (r : Int32) (u : S) (H1 : Heap) (locs1 : List Loc), post r u → va_P D vwCl (isR.filterMap (fun i => ws[i]?) ++ w1 u) H1 → va_D A0 (isR.filterMap (fun i => ws[i]?) ++ w1 u) → va_S A0 s.heap H1 locs1 → W p l e R s m args below meth c H1 locs1 (cells + mc) (slots + ms) Q (F0 m (pc + 3) ls (.int r :: rest))) :
    W p l e R s m args below meth c H locs cells slots Q (F0 m pc ls st0) := by
  have hPc := sb_sub hP isC hC
  have hDc := hD.sub isC hnC hC
  have hFc := va_free hD hS hA isC hC
  have pre : ∀ U : State, U.heap = H → s.WarmedH U.vm → sbPre D tys wc E H.size As (As).toArray U := fun U hU hW => ⟨rfl, by rw [hU], by rw [hU]; exact hPc, va_K.moved hW.alike hK, hDc.weaken (fun _ _ _ _ => trivial), hE U hU hW⟩
  refine va_calli (va_runSN (As := As) (rest := rest) Sx (hM H.size) cw ⟨sb_blind hEb, pre⟩ rfl hlen hsz hst (lv_room (pc := pc) (ls := ls) (rest := st0) (m := m) hroom) hdg hf) hS (fun q _ h => hFc q h) hFc (fun r u t H1 locs1 ht hvm hw hB hz1 hk1 hS => ?_)
  obtain ⟨hP1, hD1⟩ := hB
  rw [ht] at hP1
  obtain ⟨hP, hD⟩ := va_join hP hD isC isR hC hR hn hdis hk1 hFc hP1 hD1
  exact kk r u H1 locs1 hw hP hD hS
theorem sb_topv {v v' : Value} (h : v = v') (kk : W p l e R s m args below meth c H locs cells slots Q (F0 m pc ls (v' :: rest))) : W p l e R s m args below meth c H locs cells slots Q (F0 m pc ls (v :: rest)) := h ▸ kk
end SBCALL
