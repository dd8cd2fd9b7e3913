/-! the layer, second part: answers that are a known cell; methods that throw; handlers -/
def tU (A : Nat → Prop) (U : State) (H : Heap) : Prop := vx_Zq Bundle.tN "UNASSIGNED_STACK" Bundle.steD A U H
def tN_ (A : Nat → Prop) (U : State) (H : Heap) : Prop := vx_Zq Bundle.tN "SUPPRESSED_SENTINEL" Bundle.listD A U H
/-- Throwable's two statics lie outside A -/
def ZQ (A : Nat → Prop) (U : State) (H : Heap) : Prop := tU A U H ∧ tN_ A U H
theorem ZQ.moved {A : Nat → Prop} {u U : State} {H : Heap} (hvm : u.vm.Alike U.vm) (h : ZQ A u H) : ZQ A U H := ⟨vx_Zq.moved hvm h.1, vx_Zq.moved hvm h.2⟩
theorem ZQ.kept {A : Nat → Prop} {U : State} {H H1 : Heap} (h : ZQ A U H) (hq : ∀ a : Nat, a < H.size → ¬ A a → H1[a]? = H[a]?) : ZQ A U H1 := ⟨vx_Zq.kept h.1 hq, vx_Zq.kept h.2 hq⟩
theorem ZQ.narrow {A B : Nat → Prop} {U : State} {H : Heap} (h : ZQ A U H) (hAB : ∀ q, B q → A q) : ZQ B U H := ⟨vx_Zq.narrow h.1 hAB, vx_Zq.narrow h.2 hAB⟩
abbrev PrX (D : va_G) (tys : List (ClassId × FieldType)) (av : List Value) (wc : va_W) (sz : Nat) : Array Value → State → Prop := va_Pc av (fun U => U.heap.size = sz ∧ va_P D vwCl wc U.heap ∧ va_K D vwCl tys U ∧ va_D (fun _ => True) wc ∧ NW U ∧ ZQ (va_A wc sz) U U.heap)
theorem PrX.blind {D : va_G} {tys : List (ClassId × FieldType)} {av : List Value} {wc : va_W} {sz : Nat} : FrameBlind (PrX D tys av wc sz) := fun a U g mk q => by
  obtain ⟨q0, q1, qP, qK, qD, qN, qZ⟩ := q
  exact ⟨q0, q1, qP, va_K.moved (u := U) (U := U.calling g mk a) (Vm.Alike.refl U.vm) qK, qD, NW.same (u := U) (U := U.calling g mk a) rfl qN, ZQ.moved (u := U) (U := U.calling g mk a) (Vm.Alike.refl U.vm) qZ⟩
/-- what holds where it has thrown: XP of the class' name, the world wc as it was -/
abbrev XCo (D : va_G) (tys : List (ClassId × FieldType)) (A : Nat → Prop) (wc : va_W) (XP : String → Prop) : String → State → State → Prop := vx_X (fun _ : Unit => True) (fun E _ t => XP E ∧ Bo D tys A wc t) A
def XI (l : Launch) (y : MethodName) (wsy : List Cond) (rm : Room) (D : va_G) (tys : List (ClassId × FieldType)) (av : List Value) (wc : va_W) (S : Type) (post : Int32 → S → Prop) (w1 : S → va_W) (wx : va_W) (XP : String → Prop) (mc ms : Nat) : Prop := ∀ sz : Nat, vx_Met l y wsy rm (PrX D tys av wc sz) (va_Qi post (fun u t => Bo D tys (va_A wc sz) (w1 u) t) (va_A wc sz)) (XCo D tys (va_A wc sz) wx XP) mc ms (va_A wc sz)
/-- as MI, of a method that calls such a one: Throwable's statics are asked for -/
def MIX (l : Launch) (y : MethodName) (wsy : List Cond) (rm : Room) (D : va_G) (tys : List (ClassId × FieldType)) (av : List Value) (wc : va_W) (S : Type) (post : Int32 → S → Prop) (w1 : S → va_W) (mc ms : Nat) : Prop := ∀ sz : Nat, Met l y wsy rm (PrX D tys av wc sz) (va_Qi post (fun u t => Bo D tys (va_A wc sz) (w1 u) t) (va_A wc sz)) mc ms (va_A wc sz)
/-- a reference to a cell that the caller knows -/
def MRq (l : Launch) (y : MethodName) (wsy : List Cond) (rm : Room) (D : va_G) (tys : List (ClassId × FieldType)) (av : List Value) (wc : va_W) (q : Nat) (mc ms : Nat) : Prop := ∀ sz : Nat, Met l y wsy rm (Pr D tys av wc sz) (va_Qr (fun _ : Unit => True) (fun _ a t => a = q ∧ Bo D tys (va_A wc sz) wc t) (va_A wc sz)) mc ms (va_A wc sz)
section XL2
variable {p : Program} {l : Launch} {e : Env} {R : Room} {s : State} {m : MethodId} {args : Array Value} {below : List Frame} {meth : Method} {c : Code} {Q : State → Prop}
variable {D : va_G} {tys : List (ClassId × FieldType)} {A : Nat → Prop} {H0 : Heap} {nL k n : Nat} {ws : va_W} {lv : List (Nat × Value)} {pc : Nat} {st : List Value} {cc : ByteArray} {Ts : List Cond} {own : String}
theorem x_aretq (C : CallFix p m c cc nL s args Ts own) (hK : va_K D vwCl tys s) (hlocks : meth.locks = false) {rt : FieldType} (hr : meth.sig.returnType = some rt) (hrt : (∃ n, rt = .object n) ∨ ∃ t, rt = .array t) {wc : va_W} {q sz mc ms : Nat} (hQ : Q = MQ below (va_Qr (fun _ : Unit => True) (fun _ a t => a = q ∧ Bo D tys (va_A wc sz) wc t) (va_A wc sz)) args s mc ms (va_A wc sz)) (hH0 : H0 = s.heap) (hAA : A = va_A wc sz) {a : Nat} (ha : a = q) (is : List Nat) (hnd : va_nd is = true) (hs : is.map (fun i => ws[i]?) = wc.map some) (h1 : k ≤ mc) (h2 : n ≤ ms) (hdg : decode cc pc = .ok (.areturn, 1)) : X_ p l e R s m args below meth c Q D A H0 nL k n ws lv pc [.ref a] := fun H locs ls hP hD hS hl => by
  subst hQ
  subst hH0
  subst hAA
  exact W.widen h1 h2 (W.aret C.1 C.2.1 hr hrt (Or.inr ⟨a, rfl⟩) (fun t ht hW => ⟨⟨(), a, rfl, trivial, ha, by rw [ht]; exact hP.subm is hs, va_K.moved hW.alike hK, hD.sub is hnd hs⟩, hS.F ht⟩) hS.2.2 hdg hlocks)
theorem x_callrq {wc : va_W} {q mc ms : Nat} {stk : List Value} {a : Array Value} (hr : XRun p l e R s m args below meth c D nL k n ws lv pc stk st mc ms (fun sz => va_Qr (fun _ : Unit => True) (fun _ a t => a = q ∧ Bo D tys (va_A wc sz) wc t) (va_A wc sz) a) (fun sz => va_A wc sz)) (hA : ∀ q, H0.size ≤ q → A q) (isC : List Nat) (hC : isC.map (fun i => ws[i]?) = wc.map some) (isR : List Nat) (wr : va_W) (hR : isR.map (fun i => ws[i]?) = wr.map some) (hnr : va_nd isR = true) (hdis : ∀ i ∈ isR, i ∉ isC) (isP : List Nat) (hnp : va_nd isP = true) (hPm : isP.map (fun i => (wr ++ wc)[i]?) = ws.map some) (K : X_ p l e R s m args below meth c Q D A H0 nL (k + mc) (n + ms) ws lv (pc + 3) (.ref q :: st)) : X_ p l e R s m args below meth c Q D A H0 nL k n ws lv pc stk := fun H locs ls hP hD hS hl => by
  have hFc := va_free (wc := wc) hD hS hA isC hC
  refine va_callr (hr H locs ls hP (hD.weaken (fun _ _ _ _ => trivial)) hl) hS (fun q _ h => hFc q h) hFc (fun u ra t H1 locs1 ht hvm hw hB hz1 hk1 hS1 => ?_)
  obtain ⟨rfl, hP1, hK1, hD1⟩ := hB
  rw [ht] at hP1
  obtain ⟨hP2, hD2⟩ := va_join (wr := wr) (w1 := wc) hP hD isC isR hC hR hnr hdis hk1 hFc hP1 hD1
  exact K H1 locs1 ls (hP2.subm isP hPm) (hD2.sub isP hnp hPm) hS1 hl
/-- a method that may throw ends by returning -/
theorem x_toMQ {Qc : Array Value → State → Outcome → State → Prop} {XC : String → State → State → Prop} {mc ms : Nat} {fr : Addr → Prop} (hQ : Q = vx_MQ below Qc XC args s mc ms fr) (K : X_ p l e R s m args below meth c (MQ below Qc args s mc ms fr) D A H0 nL k n ws lv pc st) : X_ p l e R s m args below meth c Q D A H0 nL k n ws lv pc st := fun H locs ls hP hD hS hl => by
  subst hQ
  exact vx_ret (K H locs ls hP hD hS hl)
theorem x_throw0 (C : CallFix p m c cc nL s args Ts own) (hK : va_K D vwCl tys s) (hNW : NW s) (hl0 : l.stackTraces = false) (hlocks : meth.locks = false) (htab : ∀ x ∈ c.exceptionTable.toList, False) {S : Type} {Qp : Array Value → State → Outcome → State → Prop} {wc wx : va_W} {sz mc ms : Nat} {XP : String → Prop} (hQ : Q = vx_MQ below Qp (XCo D tys (va_A wc sz) wx XP) args s mc ms (va_A wc sz)) (hH0 : H0 = s.heap) (hAA : A = va_A wc sz) (hZ : ZQ A s s.heap) {cls : String} {names : List String} {ik ic : Nat} (hcls : Bundle.fit cls = true) (hnames : ∀ n ∈ names, Bundle.fit n = true)
    (hk : Cond.classLink own ik cls ∈ Ts) (hini : Cond.initialized cls ∈ Ts) (hg : ∀ w ∈ (vx_at0 own ic cls names).filter goodWord, w ∈ Ts) (hb : ∀ w ∈ (vx_at0 own ic cls names).filter (fun w => !goodWord w), w ∈ nwl) (hgood : ∀ w ∈ Cond.classLink own ik cls :: Cond.initialized cls :: vx_at0 own ic cls names, vx_ot w = true)
    (d0 : decode cc pc = .ok (.new ik, 3)) (d3 : decode cc (pc + 3) = .ok (.dup, 1)) (d4 : decode cc (pc + 4) = .ok (.invokespecial ic, 3)) (d7 : decode cc (pc + 7) = .ok (.athrow, 1))
    (hRf : names.length + 3 < R.frames) (hRl : (st.map fun v => v.category).sum + (13 * (names.length + 1) + 42) ≤ R.locals) (hRc : k + 1 ≤ R.cells) (hRs : n + 6 ≤ R.slots) (hX : XP cls) (is : List Nat) (hnd : va_nd is = true) (hs : is.map (fun i => ws[i]?) = wx.map some) (h1 : k + 1 ≤ mc) (h2 : n + 6 ≤ ms) : X_ p l e R s m args below meth c Q D A H0 nL k n ws lv pc st := fun H locs ls hP hD hS hl => by
  subst hQ
  subst hH0
  subst hAA
  refine vx_throw0 C.1 C.2.1 hl0 C.2.2.2.1 hcls hnames (C.2.2.2.2 _ hk) (C.2.2.2.2 _ hini) (vx_hat (fun w hw => C.2.2.2.2 _ (hg w hw)) hb (fun w hw => nwp_use (nwl_ok w hw) (hNW w hw))) hgood hZ.1 hZ.2 hS (by rw [hl.1]; exact C.2.2.1.symm) d0 d3 d4 d7 (fun x hx => (htab x hx).elim) hRf hRl hRc hRs hlocks (fun t hvm hsz hq => ?_) hS.2.2 h1 h2
  exact ⟨(), trivial, ⟨hX, (hP.subm is hs).kept (fun k q hk => hq q.1 ((hP.subm is hs) k q hk).lt), va_K.moved hvm hK, hD.sub is hnd hs⟩, Nat.le_trans hS.1 hsz, fun q h1 h2 => (hq q (Nat.lt_of_lt_of_le h1 hS.1)).trans (hS.2.1 q h1 h2)⟩
/-- .. a call that comes back or throws -/
def XRunX (p : Program) (l : Launch) (e : Env) (R : Room) (s : State) (m : MethodId) (args : Array Value) (below : List Frame) (meth : Method) (c : Code) (D : va_G) (A : Nat → Prop) (H0 : Heap) (nL k n : Nat) (ws : va_W) (lv : List (Nat × Value)) (pc : Nat) (stk st : List Value) (mc ms : Nat) (Qa : Nat → State → Outcome → State → Prop) (XC : Nat → String → State → State → Prop) (fr : Nat → Addr → Prop) : Prop :=
  ∀ (H : Heap) (locs : List Loc) (ls : Array Slot), va_P D vwCl ws H → va_D A ws → va_S A H0 H locs → lv_has ls nL lv → vx_Run p l e R s m args below meth c H locs k n mc ms (F0 m pc ls stk) st (Qa H.size) (XC H.size) (fr H.size)
theorem x_runVX (C : CallFix p m c cc nL s args Ts own) (hK : va_K D vwCl tys s) (hNW : NW s) (hH0 : H0 = s.heap) (hZ : ZQ A s s.heap) (hA : ∀ q, H0.size ≤ q → A q) {y : MethodName} {bytes : ByteArray} {maxL mc ms nA ix : Nat} {ret : Option FieldType} {wsy : List Cond} {rm : Room} {wc : va_W} {Qc : Nat → Array Value → State → Outcome → State → Prop} {XC : Nat → String → State → State → Prop} {fr : Nat → Addr → Prop} {Cc : String} {b : Nat} {As : List Value} (hM : ∀ sz : Nat, vx_Met l y wsy rm (PrX D tys (.ref b :: As) wc sz) (Qc sz) (XC sz) mc ms (fr sz)) (cw : CallW R s args own Cc ix y bytes maxL ret wsy rm mc ms nA) (isC : List Nat) (hC : isC.map (fun i => ws[i]?) = wc.map some) (hnc : va_nd isC = true) (q0 ci : Nat) {qc : vw_C} {fs : List Value} (he : ws[q0]? = some (b, .inr (ci, fs))) (hc : vwCl[ci]? = some qc) (hcc : qc.1 = Cc) {stk : List Value} (hst : stk = As.reverse ++ .ref b :: st) (hn : As.length = nA) (hWd : (st.map fun v => v.category).sum ≤ 8) (hdg : decode cc pc = .ok (.invokevirtual ix, 3)) (hf : k + mc ≤ R.cells ∧ n + ms ≤ R.slots) : XRunX p l e R s m args below meth c D A H0 nL k n ws lv pc stk st mc ms (fun sz => Qc sz (.ref b :: As).toArray) XC fr := fun H locs ls hP hD hS hl => by
  subst hH0
  have hFc := va_free (wc := wc) hD hS hA isC hC
  have hZ1 : ZQ (va_A wc H.size) s H := (hZ.kept hS.2.1).narrow hFc
  exact vx_runV C (hM H.size) cw ⟨PrX.blind, hcc ▸ va_recv hK hP hc he, fun U hU hW => ⟨rfl, by rw [hU], by rw [hU]; exact hP.subm isC hC, va_K.moved hW.alike hK, ((hD.weaken (fun _ _ _ _ => trivial)).sub isC hnc hC), hNW.warm hW, by rw [hU]; exact hZ1.moved hW.alike⟩⟩ rfl hn hl.1 hst (lv_room hWd) hdg hf
/-- a static call of a method of PrX, with a table of its own -/
theorem x_runSW (C : CallFix p m c cc nL s args Ts own) (hK : va_K D vwCl tys s) (hNW : NW s) (hH0 : H0 = s.heap) (hZ : ZQ A s s.heap) (hA : ∀ q, H0.size ≤ q → A q) {y : MethodName} {bytes : ByteArray} {maxL mc ms nA ix : Nat} {ret : Option FieldType} {hh : List (Nat × Nat × Nat × Nat)} {wsy : List Cond} {rm : Room} {wc : va_W} {Qc : Nat → Array Value → State → Outcome → State → Prop} {fr : Nat → Addr → Prop} {As : List Value} (hM : ∀ sz : Nat, Met l y wsy rm (PrX D tys As wc sz) (Qc sz) mc ms (fr sz)) (cw : vx_CSW R s args own ix y bytes maxL ret hh wsy rm mc ms nA) (isC : List Nat) (hC : isC.map (fun i => ws[i]?) = wc.map some) (hnc : va_nd isC = true) {stk : List Value} (hst : stk = As.reverse ++ st) (hn : As.length = nA) (hWd : (st.map fun v => v.category).sum ≤ 8) (hdg : decode cc pc = .ok (.invokestatic ix, 3)) (hf : k + mc ≤ R.cells ∧ n + ms ≤ R.slots) (H : Heap) (locs : List Loc) (ls : Array Slot) (hP : va_P D vwCl ws H) (hD : va_D A ws) (hS : va_S A H0 H locs) (hl : lv_has ls nL lv) : va_Run p l e R s m args below meth c H locs k n mc ms (F0 m pc ls stk) st (Qc H.size As.toArray) (fr H.size) := by
  subst hH0
  have hFc := va_free (wc := wc) hD hS hA isC hC
  have hZ1 : ZQ (va_A wc H.size) s H := (hZ.kept hS.2.1).narrow hFc
  exact vx_runSW C (hM H.size) cw ⟨PrX.blind, fun U hU hW => ⟨rfl, by rw [hU], by rw [hU]; exact hP.subm isC hC, va_K.moved hW.alike hK, ((hD.weaken (fun _ _ _ _ => trivial)).sub isC hnc hC), hNW.warm hW, by rw [hU]; exact hZ1.moved hW.alike⟩⟩ rfl hn hl.1 hst (lv_room hWd) hdg hf
/-- thrown: a state with q over the frame -/
def XT_ (p : Program) (l : Launch) (e : Env) (R : Room) (s : State) (m : MethodId) (args : Array Value) (below : List Frame) (meth : Method) (c : Code) (Q : State → Prop) (D : va_G) (A : Nat → Prop) (H0 : Heap) (nL k n : Nat) (ws : va_W) (lv : List (Nat × Value)) (pc : Nat) (st : List Value) (E : String) : Prop :=
  ∀ (H : Heap) (locs : List Loc) (ls : Array Slot) (ce : Cell) (q : Addr), va_P D vwCl ws H → va_D A ws → va_S A H0 H locs → lv_has ls nL lv → H[q]? = some ce → ce.vm = .none → s.vm.findClass E = some ce.cls → vx_W p l e R s m args below meth c H locs k n Q (F0 m pc ls st) q
theorem x_callXi {S : Type} {post : Int32 → S → Prop} {w1 : S → va_W} {wc wx : va_W} {XP : String → Prop} {mc ms : Nat} {stk : List Value} {a : Array Value} (hr : XRunX p l e R s m args below meth c D A H0 nL k n ws lv pc stk st mc ms (fun sz => va_Qi post (fun u t => Bo D tys (va_A wc sz) (w1 u) t) (va_A wc sz) a) (fun sz => XCo D tys (va_A wc sz) wx XP) (fun sz => va_A wc sz)) (hA : ∀ q, H0.size ≤ q → A q) (isC : List Nat) (hC : isC.map (fun i => ws[i]?) = wc.map some) (isR : List Nat) (wr : va_W) (hR : isR.map (fun i => ws[i]?) = wr.map some) (hnr : va_nd isR = true) (hdis : ∀ i ∈ isR, i ∉ isC) (isP : List Nat) (hnp : va_nd isP = true) {wf : S → va_W} (hPm : ∀ u, isP.map (fun i => (wr ++ w1 u)[i]?) = (wf u).map some) {wsx : va_W} (hPx : isP.map (fun i => (wr ++ wx)[i]?) = wsx.map some)
    (KX : ∀ E : String, XP E → XT_ p l e R s m args below meth c Q D A H0 nL (k + mc) (n + ms) wsx lv pc st E) (K : ∀ (r : Int32) (u : S), post r u → X_ p l e R s m args below meth c Q D A H0 nL (k + mc) (n + ms) (wf u) lv (pc + 3) (.int r :: st)) : X_ p l e R s m args below meth c Q D A H0 nL k n ws lv pc stk := fun H locs ls hP hD hS hl => by
  have hFc := va_free (wc := wc) hD hS hA isC hC
  refine vx_calli (hr H locs ls hP hD hS hl) hS (fun q _ h => hFc q h) hFc (fun q _ h => hFc q h) (fun E ce q9 u t H1 locs1 ht hvm hu hB hz1 hk1 hS1 hce hcv hcl => ?_) (fun r u t H1 locs1 ht hvm hw hB hz1 hk1 hS1 => ?_)
  · obtain ⟨hE, hP1, hK1, hD1⟩ := hB
    rw [ht] at hP1
    obtain ⟨hP2, hD2⟩ := va_join (wr := wr) (w1 := wx) hP hD isC isR hC hR hnr hdis hk1 hFc hP1 hD1
    exact KX E hE H1 locs1 ls ce q9 (hP2.subm isP hPx) (hD2.sub isP hnp hPx) hS1 hl hce hcv hcl
  · obtain ⟨hP1, hK1, hD1⟩ := hB
    rw [ht] at hP1
    obtain ⟨hP2, hD2⟩ := va_join (wr := wr) (w1 := w1 u) hP hD isC isR hC hR hnr hdis hk1 hFc hP1 hD1
    exact K r u hw H1 locs1 ls (hP2.subm isP (hPm u)) (hD2.sub isP hnp (hPm u)) hS1 hl
theorem x_catch (C : CallFix p m c cc nL s args Ts own) (hNW : NW s) {name E : String} (pre : List ExceptionTableEntry) (x : ExceptionTableEntry) (suf : List ExceptionTableEntry) (hsplit : c.exceptionTable.toList = pre ++ x :: suf) (hpass : ∀ z ∈ pre, covers z pc = false ∨ (z.catchType ≠ 0 ∧ ∃ nm : String, (Cond.classLink own z.catchType nm).before args s = true ∧ va_Nc E nm s)) (hx : covers x pc = true) (h0 : x.catchType ≠ 0) (hlink : (Cond.classLink own x.catchType name) ∈ Ts) (nw : Nat) (hcast : nwl[nw]? = some (Cond.castable E name)) (tgt : Nat) (ht : x.handlerPc = tgt)
    (K : ∀ q : Nat, X_ p l e R s m args below meth c Q D A H0 nL k n ws lv tgt [.ref q]) : XT_ p l e R s m args below meth c Q D A H0 nL k n ws lv pc st E := fun H locs ls ce q hP hD hS hl hce hcv hcl => by
  subst ht
  exact vx_catch C.2.2.2.1 pre x suf hsplit hpass hx h0 (C.2.2.2.2 _ hlink) (hNW.use nw hcast) hce hcv hcl (K q H locs ls hP hD hS hl)
theorem x_ddiv (C : CallFix p m c cc nL s args Ts own) {x y : UInt64} (hne : vf_n64 (FP.ddiv x y)) (hdg : decode cc pc = .ok (.ddiv, 1)) (K : X_ p l e R s m args below meth c Q D A H0 nL k n ws lv (pc + 1) (.double (FP.ddiv x y) :: st)) : X_ p l e R s m args below meth c Q D A H0 nL k n ws lv pc (.double y :: .double x :: st) := fun H locs ls hP hD hS hl => lv_ddiv C.1 C.2.1 hdg hne (K H locs ls hP hD hS hl)
end XL2
theorem ddiv_ok {a b : Int32} (hb : b ≠ 0) : vf_n64 (FP.ddiv (FP.i2d a) (FP.i2d b)) := by
  have h : Jvm.FP.Core.dIsNaN (Jvm.FP.Core.ddiv (Jvm.FP.Core.i2d a) (Jvm.FP.Core.i2d b)) = false :=
    Jvm.FP.Core.ddiv_out (Jvm.FP.Core.DFin.notNaN (Jvm.FP.Core.i2d_fin a)) (Jvm.FP.Core.i2d_fin b) (fun z => Jvm.FP.Core.i2d_ne_zero hb ((Jvm.FP.Core.zero_bits2 _).mp z))
  have h2 : ¬ 9218868437227405312 < (Jvm.FP.Core.ddiv (Jvm.FP.Core.i2d a) (Jvm.FP.Core.i2d b)).toNat % 2 ^ 63 := fun z => by
    rw [(Jvm.FP.Core.isNaN_bits _).mpr z] at h
    cases h
  show (FP.ddiv (FP.i2d a) (FP.i2d b)) &&& 0x7fffffffffffffff ≤ 0x7ff0000000000000
  rw [UInt64.le_iff_toNat_le, UInt64.toNat_and]
  have e : (0x7fffffffffffffff : UInt64).toNat = 2 ^ 63 - 1 := rfl
  rw [e, Nat.and_two_pow_sub_one_eq_mod]
  exact Nat.le_of_not_lt h2
theorem x_metX {l : Launch} {y : MethodName} {wsy wsy' : List Cond} {rm : Room} {D : va_G} {tys : List (ClassId × FieldType)} {av : List Value} {wc : va_W} {Qc : Array Value → State → Outcome → State → Prop} {XC : String → State → State → Prop} {mc ms sz : Nat} {cc : ByteArray} {maxL : Nat} {ret : Option FieldType}
    (hy : plainName y.cls = true) (hw : wsy = Cond.code y cc maxL ret :: wsy') (hlen : (lg_sl av).length ≤ maxL) (lv : List (Nat × Value)) (hlv : lv_args 0 av = lv)
    (body : ∀ (p : Program) (e : Env) (s : State) (m : MethodId) (args : Array Value) (below : List Frame) (meth : Method) (c : Code) (Q : State → Prop) (A : Nat → Prop) (H0 : Heap), CallFix p m c cc maxL s args wsy y.cls → va_K D vwCl tys s → NW s → meth.locks = false → meth.sig.returnType = ret → meth.name = y.name → Q = vx_MQ below Qc XC args s mc ms (va_A wc sz) → H0 = s.heap → A = va_A wc sz → (∀ q, H0.size ≤ q → A q) → ZQ A s s.heap → (∀ x ∈ c.exceptionTable.toList, False) →
      X_ p l e rm s m args below meth c Q D A H0 maxL 0 0 wc lv 0 []) :
    vx_Met l y wsy rm (PrX D tys av wc sz) Qc XC mc ms (va_A wc sz) := by
  refine vx_ofW (cc := cc) (maxL := maxL) (ret := ret) hy hw ?_
  intro p e s m args below meth c s₁ B hml htab hv
  obtain ⟨rfl, hsz, hP, hK, hD0, hNW, hZ⟩ := hv
  have hts := atoms_spec (ws := wsy) B.pre
  have hown : s.vm.findClass y.cls = some m.cls := findClass_of_methodNamed B.named
  have hl := lv_entry av (n := maxL) hlen
  rw [lg_entry_eq]
  rw [hlv] at hl
  subst hsz
  exact body p e s m _ below meth c _ _ _ ⟨B.exec, B.bytes, hml, hown, hts⟩ hK hNW B.notSynchronized B.returns (name_of_methodNamed B.named B.method).1 rfl rfl rfl (fun q h => Or.inr h) hZ htab s.heap [] _ hP hD0.self va_S.rf hl
