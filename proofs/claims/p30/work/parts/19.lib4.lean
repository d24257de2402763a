-- laid by wip/p30/lib4.py: worlds with a tail
abbrev KO : Type := List (Nat → Int32)
abbrev RS : Type := List (Nat × (Nat → Int32))
theorem va_P.left {D : va_G} {cl : List vw_C} {X pl : va_W} {H : Heap} (h : va_P D cl (X ++ pl) H) : va_P D cl X H := fun k q hk => h k q (by rw [List.getElem?_append_left (List.getElem?_eq_some_iff.mp hk).1]; exact hk)
theorem va_D.left {A : Nat → Prop} {X pl : va_W} (h : va_D A (X ++ pl)) : va_D A X := ⟨fun i j p q hp hq e => h.1 i j p q (by rw [List.getElem?_append_left (List.getElem?_eq_some_iff.mp hp).1]; exact hp) (by rw [List.getElem?_append_left (List.getElem?_eq_some_iff.mp hq).1]; exact hq) e, fun k q hk => h.2 k q (by rw [List.getElem?_append_left (List.getElem?_eq_some_iff.mp hk).1]; exact hk)⟩
section SBCALL3
variable {p : Program} {l : Launch} {e : Env} {R : Room} {s : State} {m : MethodId} {args : Array Value} {below : List Frame} {meth : Method} {c : Code} {H : Heap} {locs : List Loc} {cells slots : Nat} {Q : State → Prop}
variable {pc : Nat} {ls : Array Slot} {rest st0 : List Value} {A0 : Nat → Prop} {mc ms nL maxL n idx : Nat} {cc bytes : ByteArray} {own C : String} {y : MethodName} {ret : Option FieldType} {rm : Room} {D : va_G} {tys : List (ClassId × FieldType)} {X wc pl : va_W} {E : Nat → State → Prop} {b : Nat} {As : List Value}
theorem sbT_Vi {S : Type} {post : Int32 → S → Prop} {w1 : S → va_W} (Sx : CallFix p m c cc nL s args LW own)
    (hM : ∀ sz : Nat, Met l y (ws_ y bytes maxL ret) rm (sbPre D tys wc E sz (.ref b :: As)) (va_Qi post (sbEnd D w1 (va_A wc sz)) (va_A wc sz)) mc ms (va_A wc sz))
    (cw : CallW R s args own C idx y bytes maxL ret (ws_ y bytes maxL ret) rm mc ms n) (q0 ci : Nat) {fs : List Value} {T : u_T} {N : Nat} (hc : vwCl[ci]? = some (C, T, N)) (he : wc[q0]? = some (b, .inr (ci, fs)))
    (hK : va_K D vwCl tys s) (hP : va_P D vwCl (X ++ pl) H) (hD : va_D A0 (X ++ pl)) (hS : va_S A0 s.heap H locs) (hA : ∀ q, s.heap.size ≤ q → A0 q)
    (isC isR : List Nat) (hC : isC.map (fun i => X[i]?) = wc.map some) (hR : isR.map (fun i => X[i]?) = (isR.filterMap (fun i => X[i]?)).map some) (hnC : va_nd isC = true) (hn : va_nd isR = true) (hdis : ∀ i ∈ isR, i ∉ isC)
    (hEb : ∀ (U : State) (g : JFrame) (mk : MethodId) (a : Array Value), E H.size U → E H.size (U.calling g mk a)) (hE : ∀ U : State, U.heap = H → s.WarmedH U.vm → E H.size U)
    (hst : st0 = As.reverse ++ .ref b :: rest) (hlen : As.length = n) (hsz : ls.size = nL) (hroom : (rest.map fun v => v.category).sum ≤ 8) (hdg : decode cc pc = .ok (.invokevirtual idx, 3)) (hf : cells + mc ≤ R.cells ∧ slots + ms ≤ R.slots)
    (kk : ∀ (r : Int32) (u : S) (H1 : Heap) (locs1 : List Loc), post r u → va_P D vwCl ((isR.filterMap (fun i => X[i]?) ++ w1 u) ++ pl) H1 → va_D A0 ((isR.filterMap (fun i => X[i]?) ++ w1 u) ++ pl) → va_S A0 s.heap H1 locs1 → W p l e R s m args below meth c H1 locs1 (cells + mc) (slots + ms) Q (F0 m (pc + 3) ls (.int r :: rest))) :
    W p l e R s m args below meth c H locs cells slots Q (F0 m pc ls st0) := by
  have hPc := sb_sub hP.left isC hC
  have hDc := hD.left.sub isC hnC hC
  have hFc := va_free hD.left hS hA isC hC
  have pre : ∀ U : State, U.heap = H → s.WarmedH U.vm → sbPre D tys wc E H.size (.ref b :: As) (.ref b :: As).toArray U := fun U hU hW => ⟨rfl, by rw [hU], by rw [hU]; exact hPc, va_K.moved hW.alike hK, hDc.weaken (fun _ _ _ _ => trivial), hE U hU hW⟩
  refine va_calli (va_runV (As := As) (rest := rest) Sx (hM H.size) cw ⟨sb_blind hEb, va_recv hK hPc hc he, pre⟩ rfl hlen hsz hst (lv_room (pc := pc) (ls := ls) (rest := st0) (m := m) hroom) hdg hf) hS (fun q _ h => hFc q h) hFc (fun r u t H1 locs1 ht hvm hw hB hz1 hk1 hS => ?_)
  obtain ⟨hP1, hD1⟩ := hB
  rw [ht] at hP1
  obtain ⟨hP, hD⟩ := va_joinQ hP hD isC isR hC hR hn hdis hk1 hFc hP1 hD1
  exact kk r u H1 locs1 hw hP hD hS
theorem sbT_Vl {S : Type} {post : Int64 → S → Prop} {w1 : S → va_W} (Sx : CallFix p m c cc nL s args LW own)
    (hM : ∀ sz : Nat, Met l y (ws_ y bytes maxL ret) rm (sbPre D tys wc E sz (.ref b :: As)) (va_Ql post (sbEnd D w1 (va_A wc sz)) (va_A wc sz)) mc ms (va_A wc sz))
    (cw : CallW R s args own C idx y bytes maxL ret (ws_ y bytes maxL ret) rm mc ms n) (q0 ci : Nat) {fs : List Value} {T : u_T} {N : Nat} (hc : vwCl[ci]? = some (C, T, N)) (he : wc[q0]? = some (b, .inr (ci, fs)))
    (hK : va_K D vwCl tys s) (hP : va_P D vwCl (X ++ pl) H) (hD : va_D A0 (X ++ pl)) (hS : va_S A0 s.heap H locs) (hA : ∀ q, s.heap.size ≤ q → A0 q)
    (isC isR : List Nat) (hC : isC.map (fun i => X[i]?) = wc.map some) (hR : isR.map (fun i => X[i]?) = (isR.filterMap (fun i => X[i]?)).map some) (hnC : va_nd isC = true) (hn : va_nd isR = true) (hdis : ∀ i ∈ isR, i ∉ isC)
    (hEb : ∀ (U : State) (g : JFrame) (mk : MethodId) (a : Array Value), E H.size U → E H.size (U.calling g mk a)) (hE : ∀ U : State, U.heap = H → s.WarmedH U.vm → E H.size U)
    (hst : st0 = As.reverse ++ .ref b :: rest) (hlen : As.length = n) (hsz : ls.size = nL) (hroom : (rest.map fun v => v.category).sum ≤ 8) (hdg : decode cc pc = .ok (.invokevirtual idx, 3)) (hf : cells + mc ≤ R.cells ∧ slots + ms ≤ R.slots)
    (kk : ∀ (r : Int64) (u : S) (H1 : Heap) (locs1 : List Loc), post r u → va_P D vwCl ((isR.filterMap (fun i => X[i]?) ++ w1 u) ++ pl) H1 → va_D A0 ((isR.filterMap (fun i => X[i]?) ++ w1 u) ++ pl) → va_S A0 s.heap H1 locs1 → W p l e R s m args below meth c H1 locs1 (cells + mc) (slots + ms) Q (F0 m (pc + 3) ls (.long r :: rest))) :
    W p l e R s m args below meth c H locs cells slots Q (F0 m pc ls st0) := by
  have hPc := sb_sub hP.left isC hC
  have hDc := hD.left.sub isC hnC hC
  have hFc := va_free hD.left hS hA isC hC
  have pre : ∀ U : State, U.heap = H → s.WarmedH U.vm → sbPre D tys wc E H.size (.ref b :: As) (.ref b :: As).toArray U := fun U hU hW => ⟨rfl, by rw [hU], by rw [hU]; exact hPc, va_K.moved hW.alike hK, hDc.weaken (fun _ _ _ _ => trivial), hE U hU hW⟩
  refine va_calll (va_runV (As := As) (rest := rest) Sx (hM H.size) cw ⟨sb_blind hEb, va_recv hK hPc hc he, pre⟩ rfl hlen hsz hst (lv_room (pc := pc) (ls := ls) (rest := st0) (m := m) hroom) hdg hf) hS (fun q _ h => hFc q h) hFc (fun r u t H1 locs1 ht hvm hw hB hz1 hk1 hS => ?_)
  obtain ⟨hP1, hD1⟩ := hB
  rw [ht] at hP1
  obtain ⟨hP, hD⟩ := va_joinQ hP hD isC isR hC hR hn hdis hk1 hFc hP1 hD1
  exact kk r u H1 locs1 hw hP hD hS
theorem sbT_Vd {S : Type} {post : UInt64 → S → Prop} {w1 : S → va_W} (Sx : CallFix p m c cc nL s args LW own)
    (hM : ∀ sz : Nat, Met l y (ws_ y bytes maxL ret) rm (sbPre D tys wc E sz (.ref b :: As)) (va_Qd post (sbEnd D w1 (va_A wc sz)) (va_A wc sz)) mc ms (va_A wc sz))
    (cw : CallW R s args own C idx y bytes maxL ret (ws_ y bytes maxL ret) rm mc ms n) (q0 ci : Nat) {fs : List Value} {T : u_T} {N : Nat} (hc : vwCl[ci]? = some (C, T, N)) (he : wc[q0]? = some (b, .inr (ci, fs)))
    (hK : va_K D vwCl tys s) (hP : va_P D vwCl (X ++ pl) H) (hD : va_D A0 (X ++ pl)) (hS : va_S A0 s.heap H locs) (hA : ∀ q, s.heap.size ≤ q → A0 q)
    (isC isR : List Nat) (hC : isC.map (fun i => X[i]?) = wc.map some) (hR : isR.map (fun i => X[i]?) = (isR.filterMap (fun i => X[i]?)).map some) (hnC : va_nd isC = true) (hn : va_nd isR = true) (hdis : ∀ i ∈ isR, i ∉ isC)
    (hEb : ∀ (U : State) (g : JFrame) (mk : MethodId) (a : Array Value), E H.size U → E H.size (U.calling g mk a)) (hE : ∀ U : State, U.heap = H → s.WarmedH U.vm → E H.size U)
    (hst : st0 = As.reverse ++ .ref b :: rest) (hlen : As.length = n) (hsz : ls.size = nL) (hroom : (rest.map fun v => v.category).sum ≤ 8) (hdg : decode cc pc = .ok (.invokevirtual idx, 3)) (hf : cells + mc ≤ R.cells ∧ slots + ms ≤ R.slots)
    (kk : ∀ (r : UInt64) (u : S) (H1 : Heap) (locs1 : List Loc), post r u → va_P D vwCl ((isR.filterMap (fun i => X[i]?) ++ w1 u) ++ pl) H1 → va_D A0 ((isR.filterMap (fun i => X[i]?) ++ w1 u) ++ pl) → va_S A0 s.heap H1 locs1 → W p l e R s m args below meth c H1 locs1 (cells + mc) (slots + ms) Q (F0 m (pc + 3) ls (.double r :: rest))) :
    W p l e R s m args below meth c H locs cells slots Q (F0 m pc ls st0) := by
  have hPc := sb_sub hP.left isC hC
  have hDc := hD.left.sub isC hnC hC
  have hFc := va_free hD.left hS hA isC hC
  have pre : ∀ U : State, U.heap = H → s.WarmedH U.vm → sbPre D tys wc E H.size (.ref b :: As) (.ref b :: As).toArray U := fun U hU hW => ⟨rfl, by rw [hU], by rw [hU]; exact hPc, va_K.moved hW.alike hK, hDc.weaken (fun _ _ _ _ => trivial), hE U hU hW⟩
  refine va_calld (va_runV (As := As) (rest := rest) Sx (hM H.size) cw ⟨sb_blind hEb, va_recv hK hPc hc he, pre⟩ rfl hlen hsz hst (lv_room (pc := pc) (ls := ls) (rest := st0) (m := m) hroom) hdg hf) hS (fun q _ h => hFc q h) hFc (fun r u t H1 locs1 ht hvm hw hB hz1 hk1 hS => ?_)
  obtain ⟨hP1, hD1⟩ := hB
  rw [ht] at hP1
  obtain ⟨hP, hD⟩ := va_joinQ hP hD isC isR hC hR hn hdis hk1 hFc hP1 hD1
  exact kk r u H1 locs1 hw hP hD hS
theorem sbT_Vv {S : Type} {post : S → Prop} {w1 : S → va_W} (Sx : CallFix p m c cc nL s args LW own)
    (hM : ∀ sz : Nat, Met l y (ws_ y bytes maxL ret) rm (sbPre D tys wc E sz (.ref b :: As)) (va_Qv post (sbEnd D w1 (va_A wc sz)) (va_A wc sz)) mc ms (va_A wc sz))
    (cw : CallW R s args own C idx y bytes maxL ret (ws_ y bytes maxL ret) rm mc ms n) (q0 ci : Nat) {fs : List Value} {T : u_T} {N : Nat} (hc : vwCl[ci]? = some (C, T, N)) (he : wc[q0]? = some (b, .inr (ci, fs)))
    (hK : va_K D vwCl tys s) (hP : va_P D vwCl (X ++ pl) H) (hD : va_D A0 (X ++ pl)) (hS : va_S A0 s.heap H locs) (hA : ∀ q, s.heap.size ≤ q → A0 q)
    (isC isR : List Nat) (hC : isC.map (fun i => X[i]?) = wc.map some) (hR : isR.map (fun i => X[i]?) = (isR.filterMap (fun i => X[i]?)).map some) (hnC : va_nd isC = true) (hn : va_nd isR = true) (hdis : ∀ i ∈ isR, i ∉ isC)
    (hEb : ∀ (U : State) (g : JFrame) (mk : MethodId) (a : Array Value), E H.size U → E H.size (U.calling g mk a)) (hE : ∀ U : State, U.heap = H → s.WarmedH U.vm → E H.size U)
    (hst : st0 = As.reverse ++ .ref b :: rest) (hlen : As.length = n) (hsz : ls.size = nL) (hroom : (rest.map fun v => v.category).sum ≤ 8) (hdg : decode cc pc = .ok (.invokevirtual idx, 3)) (hf : cells + mc ≤ R.cells ∧ slots + ms ≤ R.slots)
    (kk : ∀ (u : S) (H1 : Heap) (locs1 : List Loc), post u → va_P D vwCl ((isR.filterMap (fun i => X[i]?) ++ w1 u) ++ pl) H1 → va_D A0 ((isR.filterMap (fun i => X[i]?) ++ w1 u) ++ pl) → va_S A0 s.heap H1 locs1 → W p l e R s m args below meth c H1 locs1 (cells + mc) (slots + ms) Q (F0 m (pc + 3) ls (rest))) :
    W p l e R s m args below meth c H locs cells slots Q (F0 m pc ls st0) := by
  have hPc := sb_sub hP.left isC hC
  have hDc := hD.left.sub isC hnC hC
  have hFc := va_free hD.left hS hA isC hC
  have pre : ∀ U : State, U.heap = H → s.WarmedH U.vm → sbPre D tys wc E H.size (.ref b :: As) (.ref b :: As).toArray U := fun U hU hW => ⟨rfl, by rw [hU], by rw [hU]; exact hPc, va_K.moved hW.alike hK, hDc.weaken (fun _ _ _ _ => trivial), hE U hU hW⟩
  refine va_callv (va_runV (As := As) (rest := rest) Sx (hM H.size) cw ⟨sb_blind hEb, va_recv hK hPc hc he, pre⟩ rfl hlen hsz hst (lv_room (pc := pc) (ls := ls) (rest := st0) (m := m) hroom) hdg hf) hS (fun q _ h => hFc q h) hFc (fun u t H1 locs1 ht hvm hw hB hz1 hk1 hS => ?_)
  obtain ⟨hP1, hD1⟩ := hB
  rw [ht] at hP1
  obtain ⟨hP, hD⟩ := va_joinQ hP hD isC isR hC hR hn hdis hk1 hFc hP1 hD1
  exact kk u H1 locs1 hw hP hD hS
theorem sbT_Vq {S : Type} {post : Option Nat → S → Prop} {w1 : S → va_W} (Sx : CallFix p m c cc nL s args LW own)
    (hM : ∀ sz : Nat, Met l y (ws_ y bytes maxL ret) rm (sbPre D tys wc E sz (.ref b :: As)) (va_Qq post (sbEnd D w1 (va_A wc sz)) (va_A wc sz)) mc ms (va_A wc sz))
    (cw : CallW R s args own C idx y bytes maxL ret (ws_ y bytes maxL ret) rm mc ms n) (q0 ci : Nat) {fs : List Value} {T : u_T} {N : Nat} (hc : vwCl[ci]? = some (C, T, N)) (he : wc[q0]? = some (b, .inr (ci, fs)))
    (hK : va_K D vwCl tys s) (hP : va_P D vwCl (X ++ pl) H) (hD : va_D A0 (X ++ pl)) (hS : va_S A0 s.heap H locs) (hA : ∀ q, s.heap.size ≤ q → A0 q)
    (isC isR : List Nat) (hC : isC.map (fun i => X[i]?) = wc.map some) (hR : isR.map (fun i => X[i]?) = (isR.filterMap (fun i => X[i]?)).map some) (hnC : va_nd isC = true) (hn : va_nd isR = true) (hdis : ∀ i ∈ isR, i ∉ isC)
    (hEb : ∀ (U : State) (g : JFrame) (mk : MethodId) (a : Array Value), E H.size U → E H.size (U.calling g mk a)) (hE : ∀ U : State, U.heap = H → s.WarmedH U.vm → E H.size U)
    (hst : st0 = As.reverse ++ .ref b :: rest) (hlen : As.length = n) (hsz : ls.size = nL) (hroom : (rest.map fun v => v.category).sum ≤ 8) (hdg : decode cc pc = .ok (.invokevirtual idx, 3)) (hf : cells + mc ≤ R.cells ∧ slots + ms ≤ R.slots)
    (kk : ∀ (r : Option Nat) (u : S) (H1 : Heap) (locs1 : List Loc), post r u → va_P D vwCl ((isR.filterMap (fun i => X[i]?) ++ w1 u) ++ pl) H1 → va_D A0 ((isR.filterMap (fun i => X[i]?) ++ w1 u) ++ pl) → va_S A0 s.heap H1 locs1 → W p l e R s m args below meth c H1 locs1 (cells + mc) (slots + ms) Q (F0 m (pc + 3) ls (va_rf r :: rest))) :
    W p l e R s m args below meth c H locs cells slots Q (F0 m pc ls st0) := by
  have hPc := sb_sub hP.left isC hC
  have hDc := hD.left.sub isC hnC hC
  have hFc := va_free hD.left hS hA isC hC
  have pre : ∀ U : State, U.heap = H → s.WarmedH U.vm → sbPre D tys wc E H.size (.ref b :: As) (.ref b :: As).toArray U := fun U hU hW => ⟨rfl, by rw [hU], by rw [hU]; exact hPc, va_K.moved hW.alike hK, hDc.weaken (fun _ _ _ _ => trivial), hE U hU hW⟩
  refine va_callq (va_runV (As := As) (rest := rest) Sx (hM H.size) cw ⟨sb_blind hEb, va_recv hK hPc hc he, pre⟩ rfl hlen hsz hst (lv_room (pc := pc) (ls := ls) (rest := st0) (m := m) hroom) hdg hf) hS (fun q _ h => hFc q h) hFc (fun r u t H1 locs1 ht hvm hw hB hz1 hk1 hS => ?_)
  obtain ⟨hP1, hD1⟩ := hB
  rw [ht] at hP1
  obtain ⟨hP, hD⟩ := va_joinQ hP hD isC isR hC hR hn hdis hk1 hFc hP1 hD1
  exact kk r u H1 locs1 hw hP hD hS
theorem sbT_Si {S : Type} {post : Int32 → S → Prop} {w1 : S → va_W} (Sx : CallFix p m c cc nL s args LW own)
    (hM : ∀ sz : Nat, Met l y (ws_ y bytes maxL ret) rm (sbPre D tys wc E sz As) (va_Qi post (sbEnd D w1 (va_A wc sz)) (va_A wc sz)) mc ms (va_A wc sz))
    (cw : CallB R s args own idx y bytes maxL ret (ws_ y bytes maxL ret) rm mc ms n ∧ (Cond.static y).before args s = true) 
    (hK : va_K D vwCl tys s) (hP : va_P D vwCl (X ++ pl) H) (hD : va_D A0 (X ++ pl)) (hS : va_S A0 s.heap H locs) (hA : ∀ q, s.heap.size ≤ q → A0 q)
    (isC isR : List Nat) (hC : isC.map (fun i => X[i]?) = wc.map some) (hR : isR.map (fun i => X[i]?) = (isR.filterMap (fun i => X[i]?)).map some) (hnC : va_nd isC = true) (hn : va_nd isR = true) (hdis : ∀ i ∈ isR, i ∉ isC)
    (hEb : ∀ (U : State) (g : JFrame) (mk : MethodId) (a : Array Value), E H.size U → E H.size (U.calling g mk a)) (hE : ∀ U : State, U.heap = H → s.WarmedH U.vm → E H.size U)
    (hst : st0 = As.reverse ++ rest) (hlen : As.length = n) (hsz : ls.size = nL) (hroom : (rest.map fun v => v.category).sum ≤ 8) (hdg : decode cc pc = .ok (.invokestatic idx, 3)) (hf : cells + mc ≤ R.cells ∧ slots + ms ≤ R.slots)
    (kk : ∀ (r : Int32) (u : S) (H1 : Heap) (locs1 : List Loc), post r u → va_P D vwCl ((isR.filterMap (fun i => X[i]?) ++ w1 u) ++ pl) H1 → va_D A0 ((isR.filterMap (fun i => X[i]?) ++ w1 u) ++ pl) → va_S A0 s.heap H1 locs1 → W p l e R s m args below meth c H1 locs1 (cells + mc) (slots + ms) Q (F0 m (pc + 3) ls (.int r :: rest))) :
    W p l e R s m args below meth c H locs cells slots Q (F0 m pc ls st0) := by
  have hPc := sb_sub hP.left isC hC
  have hDc := hD.left.sub isC hnC hC
  have hFc := va_free hD.left hS hA isC hC
  have pre : ∀ U : State, U.heap = H → s.WarmedH U.vm → sbPre D tys wc E H.size As (As).toArray U := fun U hU hW => ⟨rfl, by rw [hU], by rw [hU]; exact hPc, va_K.moved hW.alike hK, hDc.weaken (fun _ _ _ _ => trivial), hE U hU hW⟩
  refine va_calli (va_runS (As := As) (rest := rest) Sx (hM H.size) cw ⟨sb_blind hEb, pre⟩ rfl hlen hsz hst (lv_room (pc := pc) (ls := ls) (rest := st0) (m := m) hroom) hdg hf) hS (fun q _ h => hFc q h) hFc (fun r u t H1 locs1 ht hvm hw hB hz1 hk1 hS => ?_)
  obtain ⟨hP1, hD1⟩ := hB
  rw [ht] at hP1
  obtain ⟨hP, hD⟩ := va_joinQ hP hD isC isR hC hR hn hdis hk1 hFc hP1 hD1
  exact kk r u H1 locs1 hw hP hD hS
theorem sbT_Sl {S : Type} {post : Int64 → S → Prop} {w1 : S → va_W} (Sx : CallFix p m c cc nL s args LW own)
    (hM : ∀ sz : Nat, Met l y (ws_ y bytes maxL ret) rm (sbPre D tys wc E sz As) (va_Ql post (sbEnd D w1 (va_A wc sz)) (va_A wc sz)) mc ms (va_A wc sz))
    (cw : CallB R s args own idx y bytes maxL ret (ws_ y bytes maxL ret) rm mc ms n ∧ (Cond.static y).before args s = true) 
    (hK : va_K D vwCl tys s) (hP : va_P D vwCl (X ++ pl) H) (hD : va_D A0 (X ++ pl)) (hS : va_S A0 s.heap H locs) (hA : ∀ q, s.heap.size ≤ q → A0 q)
    (isC isR : List Nat) (hC : isC.map (fun i => X[i]?) = wc.map some) (hR : isR.map (fun i => X[i]?) = (isR.filterMap (fun i => X[i]?)).map some) (hnC : va_nd isC = true) (hn : va_nd isR = true) (hdis : ∀ i ∈ isR, i ∉ isC)
    (hEb : ∀ (U : State) (g : JFrame) (mk : MethodId) (a : Array Value), E H.size U → E H.size (U.calling g mk a)) (hE : ∀ U : State, U.heap = H → s.WarmedH U.vm → E H.size U)
    (hst : st0 = As.reverse ++ rest) (hlen : As.length = n) (hsz : ls.size = nL) (hroom : (rest.map fun v => v.category).sum ≤ 8) (hdg : decode cc pc = .ok (.invokestatic idx, 3)) (hf : cells + mc ≤ R.cells ∧ slots + ms ≤ R.slots)
    (kk : ∀ (r : Int64) (u : S) (H1 : Heap) (locs1 : List Loc), post r u → va_P D vwCl ((isR.filterMap (fun i => X[i]?) ++ w1 u) ++ pl) H1 → va_D A0 ((isR.filterMap (fun i => X[i]?) ++ w1 u) ++ pl) → va_S A0 s.heap H1 locs1 → W p l e R s m args below meth c H1 locs1 (cells + mc) (slots + ms) Q (F0 m (pc + 3) ls (.long r :: rest))) :
    W p l e R s m args below meth c H locs cells slots Q (F0 m pc ls st0) := by
  have hPc := sb_sub hP.left isC hC
  have hDc := hD.left.sub isC hnC hC
  have hFc := va_free hD.left hS hA isC hC
  have pre : ∀ U : State, U.heap = H → s.WarmedH U.vm → sbPre D tys wc E H.size As (As).toArray U := fun U hU hW => ⟨rfl, by rw [hU], by rw [hU]; exact hPc, va_K.moved hW.alike hK, hDc.weaken (fun _ _ _ _ => trivial), hE U hU hW⟩
  refine va_calll (va_runS (As := As) (rest := rest) Sx (hM H.size) cw ⟨sb_blind hEb, pre⟩ rfl hlen hsz hst (lv_room (pc := pc) (ls := ls) (rest := st0) (m := m) hroom) hdg hf) hS (fun q _ h => hFc q h) hFc (fun r u t H1 locs1 ht hvm hw hB hz1 hk1 hS => ?_)
  obtain ⟨hP1, hD1⟩ := hB
  rw [ht] at hP1
  obtain ⟨hP, hD⟩ := va_joinQ hP hD isC isR hC hR hn hdis hk1 hFc hP1 hD1
  exact kk r u H1 locs1 hw hP hD hS
theorem sbT_Sv {S : Type} {post : S → Prop} {w1 : S → va_W} (Sx : CallFix p m c cc nL s args LW own)
    (hM : ∀ sz : Nat, Met l y (ws_ y bytes maxL ret) rm (sbPre D tys wc E sz As) (va_Qv post (sbEnd D w1 (va_A wc sz)) (va_A wc sz)) mc ms (va_A wc sz))
    (cw : CallB R s args own idx y bytes maxL ret (ws_ y bytes maxL ret) rm mc ms n ∧ (Cond.static y).before args s = true) 
    (hK : va_K D vwCl tys s) (hP : va_P D vwCl (X ++ pl) H) (hD : va_D A0 (X ++ pl)) (hS : va_S A0 s.heap H locs) (hA : ∀ q, s.heap.size ≤ q → A0 q)
    (isC isR : List Nat) (hC : isC.map (fun i => X[i]?) = wc.map some) (hR : isR.map (fun i => X[i]?) = (isR.filterMap (fun i => X[i]?)).map some) (hnC : va_nd isC = true) (hn : va_nd isR = true) (hdis : ∀ i ∈ isR, i ∉ isC)
    (hEb : ∀ (U : State) (g : JFrame) (mk : MethodId) (a : Array Value), E H.size U → E H.size (U.calling g mk a)) (hE : ∀ U : State, U.heap = H → s.WarmedH U.vm → E H.size U)
    (hst : st0 = As.reverse ++ rest) (hlen : As.length = n) (hsz : ls.size = nL) (hroom : (rest.map fun v => v.category).sum ≤ 8) (hdg : decode cc pc = .ok (.invokestatic idx, 3)) (hf : cells + mc ≤ R.cells ∧ slots + ms ≤ R.slots)
    (kk : ∀ (u : S) (H1 : Heap) (locs1 : List Loc), post u → va_P D vwCl ((isR.filterMap (fun i => X[i]?) ++ w1 u) ++ pl) H1 → va_D A0 ((isR.filterMap (fun i => X[i]?) ++ w1 u) ++ pl) → va_S A0 s.heap H1 locs1 → W p l e R s m args below meth c H1 locs1 (cells + mc) (slots + ms) Q (F0 m (pc + 3) ls (rest))) :
    W p l e R s m args below meth c H locs cells slots Q (F0 m pc ls st0) := by
  have hPc := sb_sub hP.left isC hC
  have hDc := hD.left.sub isC hnC hC
  have hFc := va_free hD.left hS hA isC hC
  have pre : ∀ U : State, U.heap = H → s.WarmedH U.vm → sbPre D tys wc E H.size As (As).toArray U := fun U hU hW => ⟨rfl, by rw [hU], by rw [hU]; exact hPc, va_K.moved hW.alike hK, hDc.weaken (fun _ _ _ _ => trivial), hE U hU hW⟩
  refine va_callv (va_runS (As := As) (rest := rest) Sx (hM H.size) cw ⟨sb_blind hEb, pre⟩ rfl hlen hsz hst (lv_room (pc := pc) (ls := ls) (rest := st0) (m := m) hroom) hdg hf) hS (fun q _ h => hFc q h) hFc (fun u t H1 locs1 ht hvm hw hB hz1 hk1 hS => ?_)
  obtain ⟨hP1, hD1⟩ := hB
  rw [ht] at hP1
  obtain ⟨hP, hD⟩ := va_joinQ hP hD isC isR hC hR hn hdis hk1 hFc hP1 hD1
  exact kk u H1 locs1 hw hP hD hS
theorem sbT_Sq {S : Type} {post : Option Nat → S → Prop} {w1 : S → va_W} (Sx : CallFix p m c cc nL s args LW own)
    (hM : ∀ sz : Nat, Met l y (ws_ y bytes maxL ret) rm (sbPre D tys wc E sz As) (va_Qq post (sbEnd D w1 (va_A wc sz)) (va_A wc sz)) mc ms (va_A wc sz))
    (cw : CallB R s args own idx y bytes maxL ret (ws_ y bytes maxL ret) rm mc ms n ∧ (Cond.static y).before args s = true) 
    (hK : va_K D vwCl tys s) (hP : va_P D vwCl (X ++ pl) H) (hD : va_D A0 (X ++ pl)) (hS : va_S A0 s.heap H locs) (hA : ∀ q, s.heap.size ≤ q → A0 q)
    (isC isR : List Nat) (hC : isC.map (fun i => X[i]?) = wc.map some) (hR : isR.map (fun i => X[i]?) = (isR.filterMap (fun i => X[i]?)).map some) (hnC : va_nd isC = true) (hn : va_nd isR = true) (hdis : ∀ i ∈ isR, i ∉ isC)
    (hEb : ∀ (U : State) (g : JFrame) (mk : MethodId) (a : Array Value), E H.size U → E H.size (U.calling g mk a)) (hE : ∀ U : State, U.heap = H → s.WarmedH U.vm → E H.size U)
    (hst : st0 = As.reverse ++ rest) (hlen : As.length = n) (hsz : ls.size = nL) (hroom : (rest.map fun v => v.category).sum ≤ 8) (hdg : decode cc pc = .ok (.invokestatic idx, 3)) (hf : cells + mc ≤ R.cells ∧ slots + ms ≤ R.slots)
    (kk : ∀ (r : Option Nat) (u : S) (H1 : Heap) (locs1 : List Loc), post r u → va_P D vwCl ((isR.filterMap (fun i => X[i]?) ++ w1 u) ++ pl) H1 → va_D A0 ((isR.filterMap (fun i => X[i]?) ++ w1 u) ++ pl) → va_S A0 s.heap H1 locs1 → W p l e R s m args below meth c H1 locs1 (cells + mc) (slots + ms) Q (F0 m (pc + 3) ls (va_rf r :: rest))) :
    W p l e R s m args below meth c H locs cells slots Q (F0 m pc ls st0) := by
  have hPc := sb_sub hP.left isC hC
  have hDc := hD.left.sub isC hnC hC
  have hFc := va_free hD.left hS hA isC hC
  have pre : ∀ U : State, U.heap = H → s.WarmedH U.vm → sbPre D tys wc E H.size As (As).toArray U := fun U hU hW => ⟨rfl, by rw [hU], by rw [hU]; exact hPc, va_K.moved hW.alike hK, hDc.weaken (fun _ _ _ _ => trivial), hE U hU hW⟩
  refine va_callq (va_runS (As := As) (rest := rest) Sx (hM H.size) cw ⟨sb_blind hEb, pre⟩ rfl hlen hsz hst (lv_room (pc := pc) (ls := ls) (rest := st0) (m := m) hroom) hdg hf) hS (fun q _ h => hFc q h) hFc (fun r u t H1 locs1 ht hvm hw hB hz1 hk1 hS => ?_)
  obtain ⟨hP1, hD1⟩ := hB
  rw [ht] at hP1
  obtain ⟨hP, hD⟩ := va_joinQ hP hD isC isR hC hR hn hdis hk1 hFc hP1 hD1
  exact kk r u H1 locs1 hw hP hD hS
theorem sbT_Iv {S : Type} {post : S → Prop} {w1 : S → va_W} (Sx : CallFix p m c cc nL s args LW own)
    (hM : ∀ sz : Nat, Met l y (ws_ y bytes maxL none) rm (sbPre D tys wc E sz (.ref b :: As)) (va_Qv post (sbEnd D w1 (va_A wc sz)) (va_A wc sz)) mc ms (va_A wc sz))
    (cw : CallB R s args own idx y bytes maxL none (ws_ y bytes maxL none) rm mc ms n ∧ y.name = "<init>" ∧ (Cond.instanceMethod y).before args s = true) 
    (hK : va_K D vwCl tys s) (hP : va_P D vwCl (X ++ pl) H) (hD : va_D A0 (X ++ pl)) (hS : va_S A0 s.heap H locs) (hA : ∀ q, s.heap.size ≤ q → A0 q)
    (isC isR : List Nat) (hC : isC.map (fun i => X[i]?) = wc.map some) (hR : isR.map (fun i => X[i]?) = (isR.filterMap (fun i => X[i]?)).map some) (hnC : va_nd isC = true) (hn : va_nd isR = true) (hdis : ∀ i ∈ isR, i ∉ isC)
    (hEb : ∀ (U : State) (g : JFrame) (mk : MethodId) (a : Array Value), E H.size U → E H.size (U.calling g mk a)) (hE : ∀ U : State, U.heap = H → s.WarmedH U.vm → E H.size U)
    (hst : st0 = As.reverse ++ .ref b :: rest) (hlen : As.length = n) (hsz : ls.size = nL) (hroom : (rest.map fun v => v.category).sum ≤ 8) (hdg : decode cc pc = .ok (.invokespecial idx, 3)) (hf : cells + mc ≤ R.cells ∧ slots + ms ≤ R.slots)
    (kk : ∀ (u : S) (H1 : Heap) (locs1 : List Loc), post u → va_P D vwCl ((isR.filterMap (fun i => X[i]?) ++ w1 u) ++ pl) H1 → va_D A0 ((isR.filterMap (fun i => X[i]?) ++ w1 u) ++ pl) → va_S A0 s.heap H1 locs1 → W p l e R s m args below meth c H1 locs1 (cells + mc) (slots + ms) Q (F0 m (pc + 3) ls (rest))) :
    W p l e R s m args below meth c H locs cells slots Q (F0 m pc ls st0) := by
  have hPc := sb_sub hP.left isC hC
  have hDc := hD.left.sub isC hnC hC
  have hFc := va_free hD.left hS hA isC hC
  have pre : ∀ U : State, U.heap = H → s.WarmedH U.vm → sbPre D tys wc E H.size (.ref b :: As) (.ref b :: As).toArray U := fun U hU hW => ⟨rfl, by rw [hU], by rw [hU]; exact hPc, va_K.moved hW.alike hK, hDc.weaken (fun _ _ _ _ => trivial), hE U hU hW⟩
  refine va_callv (va_runI (As := As) (rest := rest) Sx (hM H.size) cw ⟨sb_blind hEb, pre⟩ rfl hlen hsz hst (lv_room (pc := pc) (ls := ls) (rest := st0) (m := m) hroom) hdg hf) hS (fun q _ h => hFc q h) hFc (fun u t H1 locs1 ht hvm hw hB hz1 hk1 hS => ?_)
  obtain ⟨hP1, hD1⟩ := hB
  rw [ht] at hP1
  obtain ⟨hP, hD⟩ := va_joinQ hP hD isC isR hC hR hn hdis hk1 hFc hP1 hD1
  exact kk u H1 locs1 hw hP hD hS
theorem sbT_Ni {S : Type} {host : String} {post : Int32 → S → Prop} {w1 : S → va_W} (Sx : CallFix p m c cc nL s args LW own)
    (hM : ∀ sz : Nat, Met l y (ws_ y bytes maxL ret) rm (sbPre D tys wc E sz As) (va_Qi post (sbEnd D w1 (va_A wc sz)) (va_A wc sz)) mc ms (va_A wc sz))
    (cw : va_CN R s args own idx y host bytes maxL ret (ws_ y bytes maxL ret) rm mc ms n ∧ (Cond.static y).before args s = true ∧ True) 
    (hK : va_K D vwCl tys s) (hP : va_P D vwCl (X ++ pl) H) (hD : va_D A0 (X ++ pl)) (hS : va_S A0 s.heap H locs) (hA : ∀ q, s.heap.size ≤ q → A0 q)
    (isC isR : List Nat) (hC : isC.map (fun i => X[i]?) = wc.map some) (hR : isR.map (fun i => X[i]?) = (isR.filterMap (fun i => X[i]?)).map some) (hnC : va_nd isC = true) (hn : va_nd isR = true) (hdis : ∀ i ∈ isR, i ∉ isC)
    (hEb : ∀ (U : State) (g : JFrame) (mk : MethodId) (a : Array Value), E H.size U → E H.size (U.calling g mk a)) (hE : ∀ U : State, U.heap = H → s.WarmedH U.vm → E H.size U)
    (hst : st0 = As.reverse ++ rest) (hlen : As.length = n) (hsz : ls.size = nL) (hroom : (rest.map fun v => v.category).sum ≤ 8) (hdg : decode cc pc = .ok (.invokestatic idx, 3)) (hf : cells + mc ≤ R.cells ∧ slots + ms ≤ R.slots)
    (kk : ∀ (r : Int32) (u : S) (H1 : Heap) (locs1 : List Loc), post r u → va_P D vwCl ((isR.filterMap (fun i => X[i]?) ++ w1 u) ++ pl) H1 → va_D A0 ((isR.filterMap (fun i => X[i]?) ++ w1 u) ++ pl) → va_S A0 s.heap H1 locs1 → W p l e R s m args below meth c H1 locs1 (cells + mc) (slots + ms) Q (F0 m (pc + 3) ls (.int r :: rest))) :
    W p l e R s m args below meth c H locs cells slots Q (F0 m pc ls st0) := by
  have hPc := sb_sub hP.left isC hC
  have hDc := hD.left.sub isC hnC hC
  have hFc := va_free hD.left hS hA isC hC
  have pre : ∀ U : State, U.heap = H → s.WarmedH U.vm → sbPre D tys wc E H.size As (As).toArray U := fun U hU hW => ⟨rfl, by rw [hU], by rw [hU]; exact hPc, va_K.moved hW.alike hK, hDc.weaken (fun _ _ _ _ => trivial), hE U hU hW⟩
  refine va_calli (va_runSN (As := As) (rest := rest) Sx (hM H.size) cw ⟨sb_blind hEb, pre⟩ rfl hlen hsz hst (lv_room (pc := pc) (ls := ls) (rest := st0) (m := m) hroom) hdg hf) hS (fun q _ h => hFc q h) hFc (fun r u t H1 locs1 ht hvm hw hB hz1 hk1 hS => ?_)
  obtain ⟨hP1, hD1⟩ := hB
  rw [ht] at hP1
  obtain ⟨hP, hD⟩ := va_joinQ hP hD isC isR hC hR hn hdis hk1 hFc hP1 hD1
  exact kk r u H1 locs1 hw hP hD hS
theorem sbP_Vi {S : Type} {post : Int32 → S → Prop} {w1 pl1 : S → va_W} (Sx : CallFix p m c cc nL s args LW own)
    (hM : ∀ sz : Nat, Met l y (ws_ y bytes maxL ret) rm (sbPre D tys (wc ++ pl) E sz (.ref b :: As)) (va_Qi post (sbEnd D (fun u => w1 u ++ pl1 u) (va_A (wc ++ pl) sz)) (va_A (wc ++ pl) sz)) mc ms (va_A (wc ++ pl) sz))
    (cw : CallW R s args own C idx y bytes maxL ret (ws_ y bytes maxL ret) rm mc ms n) (q0 ci : Nat) {fs : List Value} {T : u_T} {N : Nat} (hc : vwCl[ci]? = some (C, T, N)) (he : wc[q0]? = some (b, .inr (ci, fs)))
    (hK : va_K D vwCl tys s) (hP : va_P D vwCl (X ++ pl) H) (hD : va_D A0 (X ++ pl)) (hS : va_S A0 s.heap H locs) (hA : ∀ q, s.heap.size ≤ q → A0 q)
    (isC isR : List Nat) (hC : isC.map (fun i => X[i]?) = wc.map some) (hR : isR.map (fun i => X[i]?) = (isR.filterMap (fun i => X[i]?)).map some) (hnC : va_nd isC = true) (hn : va_nd isR = true) (hdis : ∀ i ∈ isR, i ∉ isC)
    (hEb : ∀ (U : State) (g : JFrame) (mk : MethodId) (a : Array Value), E H.size U → E H.size (U.calling g mk a)) (hE : ∀ U : State, U.heap = H → s.WarmedH U.vm → E H.size U)
    (hst : st0 = As.reverse ++ .ref b :: rest) (hlen : As.length = n) (hsz : ls.size = nL) (hroom : (rest.map fun v => v.category).sum ≤ 8) (hdg : decode cc pc = .ok (.invokevirtual idx, 3)) (hf : cells + mc ≤ R.cells ∧ slots + ms ≤ R.slots)
    (kk : ∀ (r : Int32) (u : S) (H1 : Heap) (locs1 : List Loc), post r u → va_P D vwCl ((isR.filterMap (fun i => X[i]?) ++ w1 u) ++ pl1 u) H1 → va_D A0 ((isR.filterMap (fun i => X[i]?) ++ w1 u) ++ pl1 u) → va_S A0 s.heap H1 locs1 → W p l e R s m args below meth c H1 locs1 (cells + mc) (slots + ms) Q (F0 m (pc + 3) ls (.int r :: rest))) :
    W p l e R s m args below meth c H locs cells slots Q (F0 m pc ls st0) := by
  have hPc := va_P.part hP isC hC
  have hPl := sb_sub hP.left isC hC
  have hDc := va_D.part hD isC hnC hC
  have hFc := va_freeP hD hS hA isC hC
  have pre : ∀ U : State, U.heap = H → s.WarmedH U.vm → sbPre D tys (wc ++ pl) E H.size (.ref b :: As) (.ref b :: As).toArray U := fun U hU hW => ⟨rfl, by rw [hU], by rw [hU]; exact hPc, va_K.moved hW.alike hK, hDc.weaken (fun _ _ _ _ => trivial), hE U hU hW⟩
  refine va_calli (va_runV (As := As) (rest := rest) Sx (hM H.size) cw ⟨sb_blind hEb, va_recv hK hPl hc he, pre⟩ rfl hlen hsz hst (lv_room (pc := pc) (ls := ls) (rest := st0) (m := m) hroom) hdg hf) hS (fun q _ h => hFc q h) hFc (fun r u t H1 locs1 ht hvm hw hB hz1 hk1 hS => ?_)
  obtain ⟨hP1, hD1⟩ := hB
  rw [ht] at hP1
  obtain ⟨hP, hD⟩ := va_joinP hP hD isC isR hC hR hn hdis hk1 hFc hP1 hD1
  exact kk r u H1 locs1 hw hP hD hS
theorem sbP_Vv {S : Type} {post : S → Prop} {w1 pl1 : S → va_W} (Sx : CallFix p m c cc nL s args LW own)
    (hM : ∀ sz : Nat, Met l y (ws_ y bytes maxL ret) rm (sbPre D tys (wc ++ pl) E sz (.ref b :: As)) (va_Qv post (sbEnd D (fun u => w1 u ++ pl1 u) (va_A (wc ++ pl) sz)) (va_A (wc ++ pl) sz)) mc ms (va_A (wc ++ pl) sz))
    (cw : CallW R s args own C idx y bytes maxL ret (ws_ y bytes maxL ret) rm mc ms n) (q0 ci : Nat) {fs : List Value} {T : u_T} {N : Nat} (hc : vwCl[ci]? = some (C, T, N)) (he : wc[q0]? = some (b, .inr (ci, fs)))
    (hK : va_K D vwCl tys s) (hP : va_P D vwCl (X ++ pl) H) (hD : va_D A0 (X ++ pl)) (hS : va_S A0 s.heap H locs) (hA : ∀ q, s.heap.size ≤ q → A0 q)
    (isC isR : List Nat) (hC : isC.map (fun i => X[i]?) = wc.map some) (hR : isR.map (fun i => X[i]?) = (isR.filterMap (fun i => X[i]?)).map some) (hnC : va_nd isC = true) (hn : va_nd isR = true) (hdis : ∀ i ∈ isR, i ∉ isC)
    (hEb : ∀ (U : State) (g : JFrame) (mk : MethodId) (a : Array Value), E H.size U → E H.size (U.calling g mk a)) (hE : ∀ U : State, U.heap = H → s.WarmedH U.vm → E H.size U)
    (hst : st0 = As.reverse ++ .ref b :: rest) (hlen : As.length = n) (hsz : ls.size = nL) (hroom : (rest.map fun v => v.category).sum ≤ 8) (hdg : decode cc pc = .ok (.invokevirtual idx, 3)) (hf : cells + mc ≤ R.cells ∧ slots + ms ≤ R.slots)
    (kk : ∀ (u : S) (H1 : Heap) (locs1 : List Loc), post u → va_P D vwCl ((isR.filterMap (fun i => X[i]?) ++ w1 u) ++ pl1 u) H1 → va_D A0 ((isR.filterMap (fun i => X[i]?) ++ w1 u) ++ pl1 u) → va_S A0 s.heap H1 locs1 → W p l e R s m args below meth c H1 locs1 (cells + mc) (slots + ms) Q (F0 m (pc + 3) ls (rest))) :
    W p l e R s m args below meth c H locs cells slots Q (F0 m pc ls st0) := by
  have hPc := va_P.part hP isC hC
  have hPl := sb_sub hP.left isC hC
  have hDc := va_D.part hD isC hnC hC
  have hFc := va_freeP hD hS hA isC hC
  have pre : ∀ U : State, U.heap = H → s.WarmedH U.vm → sbPre D tys (wc ++ pl) E H.size (.ref b :: As) (.ref b :: As).toArray U := fun U hU hW => ⟨rfl, by rw [hU], by rw [hU]; exact hPc, va_K.moved hW.alike hK, hDc.weaken (fun _ _ _ _ => trivial), hE U hU hW⟩
  refine va_callv (va_runV (As := As) (rest := rest) Sx (hM H.size) cw ⟨sb_blind hEb, va_recv hK hPl hc he, pre⟩ rfl hlen hsz hst (lv_room (pc := pc) (ls := ls) (rest := st0) (m := m) hroom) hdg hf) hS (fun q _ h => hFc q h) hFc (fun u t H1 locs1 ht hvm hw hB hz1 hk1 hS => ?_)
  obtain ⟨hP1, hD1⟩ := hB
  rw [ht] at hP1
  obtain ⟨hP, hD⟩ := va_joinP hP hD isC isR hC hR hn hdis hk1 hFc hP1 hD1
  exact kk u H1 locs1 hw hP hD hS
end SBCALL3
theorem glen_m {x : Int32} {n k m : Nat} (h : glen x n = true) (hn : k + (2 + 2 * n) ≤ m) : k + (2 + 2 * Int32.toNatClampNeg x) ≤ m := by
  have := glen_n h
  omega
theorem glen_mw {x : Int32} {n k : Nat} (h : glen x n = true) : k + (2 + 2 * Int32.toNatClampNeg x) ≤ k + (2 + 2 * n) := by
  have := glen_n h
  omega
/-- a stretch that may be copied -/
def gcp (sp dp n : Int32) (n0 n1 : Nat) : Bool := decide (0 ≤ sp.toInt) && decide (0 ≤ dp.toInt) && decide (0 ≤ n.toInt) && decide (sp.toNatClampNeg + n.toNatClampNeg ≤ n0) && decide (dp.toNatClampNeg + n.toNatClampNeg ≤ n1)
theorem nneg32 {x : Int32} (h : 0 ≤ x.toInt) : ¬ x < 0 := by
  intro q
  have q2 := Int32.lt_iff_toInt_lt.mp q
  have e : (0 : Int32).toInt = 0 := rfl
  omega
theorem gcp_e {sp dp n : Int32} {n0 n1 : Nat} (h : gcp sp dp n n0 n1 = true) : ¬ sp < 0 ∧ ¬ dp < 0 ∧ ¬ n < 0 ∧ sp.toNatClampNeg + n.toNatClampNeg ≤ n0 ∧ dp.toNatClampNeg + n.toNatClampNeg ≤ n1 := by
  simp only [gcp, Bool.and_eq_true, decide_eq_true_eq] at h
  exact ⟨nneg32 h.1.1.1.1, nneg32 h.1.1.1.2, nneg32 h.1.1.2, h.1.2, h.2⟩
def gdec (p : Prop) [Decidable p] : Bool := decide p
theorem gdec_e {p : Prop} [Decidable p] (h : gdec p = true) : p := of_decide_eq_true h
section SB4
variable {p : Program} {l : Launch} {e : Env} {R : Room} {s : State} {m : MethodId} {args : Array Value} {below : List Frame} {meth : Method} {c : Code} {H : Heap} {locs : List Loc} {cells slots : Nat} {Q : State → Prop}
variable {cc : ByteArray} {pc : Nat} {ls : Array Slot} {rest : List Value} {D : va_G} {A : Nat → Prop} {cI cF cJ cD : ClassId} {ws : va_W} {H0 : Heap}
theorem sb_cpyJ (hexec : p.tables.exec = Jvm.exec) (hb : c.code = cc) (hml : c.maxLocals = ls.size) {own : String} {index : Nat} (hown : s.vm.findClass own = some m.cls) (hlink : (Cond.methodLink own index arraycopyName).before args s = true) (hnat : (Cond.native arraycopyName).before args s = true) (hstat : (Cond.static arraycopyName).before args s = true) (hini : (Cond.initialized "java/lang/System").before args s = true)
    (hover : sbAO (.array .int) s) (hK : va_K D vwCl (TY cI cF cJ cD) s) (hP : va_P D vwCl ws H) (hD : va_D A ws) (hS : va_S A H0 H locs) (q0 q1 : Nat) {a a0 n0 n1 : Nat} {f g : Nat → Option Nat} (ha0 : ws[q0]? = some (a0, .inl (cJ, n0, .inr (.inr (.inr (.inr f)))))) (ha1 : ws[q1]? = some (a, .inl (cJ, n1, .inr (.inr (.inr (.inr g))))))
    {sp dp n : Int32} (h1 : ¬ sp < 0) (h2 : ¬ dp < 0) (h3 : ¬ n < 0) (h4 : sp.toNatClampNeg + n.toNatClampNeg ≤ n0) (h5 : dp.toNatClampNeg + n.toNatClampNeg ≤ n1) (hel : ∀ i : Nat, i < n.toNatClampNeg → ∀ y : Nat, f (sp.toNatClampNeg + i) = some y → ∃ (k : Nat) (w : Nat) (z : Nat → Int32), ws[k]? = some (y, .inl (cI, w, .inl z)))
    (hframes : 1 ≤ R.frames) (hlocals : (rest.map fun v => v.category).sum + (nativeFrameWords "java/lang/System" "arraycopy" 5 + 11) ≤ R.locals) (hdg : decode cc pc = .ok (.invokestatic index, 3))
    (kk : ∀ (H1 : Heap) (locs1 : List Loc), va_P D vwCl (ws.set q1 (a, .inl (cJ, n1, .inr (.inr (.inr (.inr (va_cpy f g sp.toNatClampNeg dp.toNatClampNeg n.toNatClampNeg))))))) H1 → va_D A (ws.set q1 (a, .inl (cJ, n1, .inr (.inr (.inr (.inr (va_cpy f g sp.toNatClampNeg dp.toNatClampNeg n.toNatClampNeg))))))) → va_S A H0 H1 locs1 → W p l e R s m args below meth c H1 locs1 cells slots Q (F0 m (pc + 3) ls rest)) : W p l e R s m args below meth c H locs cells slots Q (F0 m pc ls (.int n :: .int dp :: .ref a :: .int sp :: .ref a0 :: rest)) := by
  have nn : ∀ z : Int32, ¬ z < 0 → z.toInt = (z.toNatClampNeg : Int) := by
    intro z hz
    have hz0 : (0 : Int) ≤ z.toInt := by
      have := Int32.not_lt.mp hz
      simpa using Int32.le_iff_toInt_le.mp this
    show z.toInt = ((z.toInt.toNat : Nat) : Int)
    omega
  intro T hT X
  have hc0 : H[a0]? = some (vp_cell cJ (n0, .inr (.inr (.inr (.inr f))))) := hP q0 _ ha0
  have hc1 : H[a]? = some (vp_cell cJ (n1, .inr (.inr (.inr (.inr g))))) := hP q1 _ ha1
  obtain ⟨kA, k1, k2⟩ := sb_J hover hK
  obtain ⟨-, kC, hkC, -⟩ := (hK.2 0 (cI, .int) rfl).1 0 (fun _ => .null)
  have hkC : s.vm.classes[cI]? = some kC := hkC
  obtain ⟨vm', X', step⟩ := X.arraycopy hexec hown hlink hnat hstat hini (src := a0) (dst := a) (cs := vp_cell cJ (n0, .inr (.inr (.inr (.inr f))))) (cd := vp_cell cJ (n1, .inr (.inr (.inr (.inr g))))) (srcPos := sp) (destPos := dp) (n := n) (by rw [hT]; exact hc0) (by rw [hT]; exact hc1)
    (fun _ h => by cases h) (fun _ h => by cases h) (fun h => by cases h) (fun h => by cases h) k1 k1 k2 k2 rfl h1 h2 h3
    (by rw [nn sp h1, nn n h3]; show ¬ _ > ((arrV cJ n0 (fun j => va_rf (f j))).slots.size : Int); rw [arrV_size]; omega)
    (by rw [nn dp h2, nn n h3]; show ¬ _ > ((arrV cJ n1 (fun j => va_rf (g j))).slots.size : Int); rw [arrV_size]; omega)
    (fun vm₁ hal i hi => by
      have e : (vp_cell cJ (n0, .inr (.inr (.inr (.inr f))))).slots.getD (sp.toNatClampNeg + i) .null = va_rf (f (sp.toNatClampNeg + i)) := by
        show (arrV cJ n0 (fun j => va_rf (f j))).slots.getD _ _ = _
        rw [Array.getD_eq_getD_getElem?, arrV_read _ _ (by omega)]
        rfl
      rw [e]
      cases hy : f (sp.toNatClampNeg + i) with
      | none => exact ⟨rfl, trivial⟩
      | some y =>
        obtain ⟨k9, w, z, hz⟩ := hel i hi y hy
        have g1 : H[y]? = some (vp_cell cI (w, .inl z)) := hP k9 _ hz
        obtain ⟨kC', hkC', -⟩ := hal.2.2 _ _ hkC
        refine ⟨rfl, _, (show T.heap[y]? = some _ by rw [hT]; exact g1), (fun q h => by cases h), ⟨kC', hkC'⟩, ?_, ?_⟩
        · exact ⟨kC', hkC'⟩
        · exact va_asg _ _)
    (g := F0 m pc ls (.int n :: .int dp :: .ref a :: .int sp :: .ref a0 :: rest)) rfl (by rw [hml]) (rest := rest) rfl (by rw [hb]; exact hdg) hframes (by show 2 * 0 + _ + _ ≤ _; omega)
  have e1 : copied (vp_cell cJ (n0, .inr (.inr (.inr (.inr f))))) (vp_cell cJ (n1, .inr (.inr (.inr (.inr g))))) sp dp n = vp_cell cJ (n1, .inr (.inr (.inr (.inr (va_cpy f g sp.toNatClampNeg dp.toNatClampNeg n.toNatClampNeg))))) := by
    rw [vp_cell_q, vp_cell_q, vp_cell_q]
    exact va_copied (fun z => va_rf z) cJ cJ f g h4
  rw [e1] at X' step
  have hl : a < H.size := (Array.getElem?_eq_some_iff.mp hc1).1
  have hheap : ((T.setVm vm').setCell a (vp_cell cJ (n1, .inr (.inr (.inr (.inr (va_cpy f g sp.toNatClampNeg dp.toNatClampNeg n.toNatClampNeg))))))).heap = H.setIfInBounds a (vp_cell cJ (n1, .inr (.inr (.inr (.inr (va_cpy f g sp.toNatClampNeg dp.toNatClampNeg n.toNatClampNeg)))))) := by rw [← hT]; rfl
  have oq : ∀ q : Nat, q ≠ a → (H.setIfInBounds a (vp_cell cJ (n1, .inr (.inr (.inr (.inr (va_cpy f g sp.toNatClampNeg dp.toNatClampNeg n.toNatClampNeg)))))))[q]? = H[q]? := fun q hq => by simp [Array.getElem?_setIfInBounds, Ne.symm hq]
  obtain ⟨t, a1, b1⟩ := kk _ _ (hP.set hD ha1 (show (H.setIfInBounds a _)[a]? = some _ by simp [Array.getElem?_setIfInBounds, hl]) oq) (hD.set ha1) ⟨by simp; exact hS.1, fun q g1 g2 => by
      rw [oq q (fun e => g2 (by rw [e]; exact hD.2 q1 _ ha1))]
      exact hS.2.1 q g1 g2, fun q hq => by
      rcases List.mem_append.mp hq with h | h
      · exact hS.2.2 q h
      · obtain ⟨z, -, hz⟩ := List.mem_map.mp h
        rw [← hz]
        exact hD.2 q1 _ ha1⟩ _ hheap X'
  exact ⟨t, step t a1, b1⟩
end SB4
