/-! the layer, sixth part: the law's helpers, which catch -/
def NC3 (U : State) : Prop := va_Nc "java/lang/IllegalStateException" "java/lang/IllegalArgumentException" U ∧ va_Nc "java/lang/IllegalArgumentException" "java/lang/IndexOutOfBoundsException" U ∧ va_Nc "java/lang/IllegalArgumentException" "java/lang/IllegalStateException" U
theorem NC3.moved {u U : State} (hvm : u.vm.Alike U.vm) (h : NC3 u) : NC3 U := ⟨h.1.moved hvm, h.2.1.moved hvm, h.2.2.moved hvm⟩
abbrev PrW (D : va_G) (tys : List (ClassId × FieldType)) (av : List Value) (wc : va_W) (sz : Nat) : Array Value → State → Prop := va_Pc av (fun U => U.heap.size = sz ∧ va_P D vwCl wc U.heap ∧ va_K D vwCl tys U ∧ va_D (fun _ => True) wc ∧ NW U ∧ ZQ (va_A wc sz) U U.heap ∧ NC3 U)
theorem PrW.blind {D : va_G} {tys : List (ClassId × FieldType)} {av : List Value} {wc : va_W} {sz : Nat} : FrameBlind (PrW D tys av wc sz) := fun a U g mk q => by
  obtain ⟨q0, q1, qP, qK, qD, qN, qZ, qC⟩ := q
  exact ⟨q0, q1, qP, va_K.moved (u := U) (U := U.calling g mk a) (Vm.Alike.refl U.vm) qK, qD, NW.same (u := U) (U := U.calling g mk a) rfl qN, ZQ.moved (u := U) (U := U.calling g mk a) (Vm.Alike.refl U.vm) qZ, NC3.moved (u := U) (U := U.calling g mk a) (Vm.Alike.refl U.vm) qC⟩
def MIW (l : Launch) (y : MethodName) (wsy : List Cond) (rm : Room) (D : va_G) (tys : List (ClassId × FieldType)) (av : List Value) (wc : va_W) (S : Type) (post : Int32 → S → Prop) (w1 : S → va_W) (mc ms : Nat) : Prop := ∀ sz : Nat, Met l y wsy rm (PrW D tys av wc sz) (va_Qi post (fun u t => Bo D tys (va_A wc sz) (w1 u) t) (va_A wc sz)) mc ms (va_A wc sz)
theorem met_ofWH {l : Launch} {y : MethodName} {ws ws' : List Cond} {rm : Room} {Pc : Array Value → State → Prop} {Qc : Array Value → State → Outcome → State → Prop} {mc ms : Nat} {free : Addr → Prop} {cc : ByteArray} {maxL : Nat} {ret : Option FieldType} {hh : List (Nat × Nat × Nat × Nat)}
    (hy : plainName y.cls = true) (hw : ws = Cond.codeWith y cc maxL ret hh :: ws')
    (body : ∀ p e s m args below meth c s₁, BodyLoose p l y (headSpec ws rm) cc maxL ret e s m args below meth c s₁ → c.maxLocals = maxL → Pc args s →
      W p l e (headSpec ws rm).room s m args below meth c s.heap [] 0 0 (MQ below Qc args s mc ms free) (entryFrame m args maxL)) : Met l y ws rm Pc Qc mc ms free := by
  refine MetFree.of_bodyS (code := cc) (maxLocals := maxL) (ret := ret) hy ?_ ?_
  · intro args s m h hn
    obtain ⟨m9, meth, c, hn9, h1, h2, h3, h4, -, h5, h6, -⟩ := Cond.codeWith_spec (atoms_spec (ws := ws) h _ (by rw [hw]; exact List.mem_cons_self))
    cases hn.symm.trans hn9
    exact ⟨meth, c, h1, h2, h3, h4, h5, h6⟩
  · intro p e s m args below meth c s₁ B hml hP _
    have hh0 : s₁.heap = s.heap := by rw [B.state]; rfl
    obtain ⟨t, a1, o, b1, b2, b3⟩ := body p e s m args below meth c s₁ B hml hP s₁ hh0 (Stand.of_body B)
    exact ⟨t, o, a1, b1, b2, ⟨b3.1, b3.2⟩⟩
theorem x_metW {l : Launch} {y : MethodName} {wsy wsy' : List Cond} {rm : Room} {D : va_G} {tys : List (ClassId × FieldType)} {av : List Value} {wc : va_W} {Qc : Array Value → State → Outcome → State → Prop} {mc ms sz : Nat} {cc : ByteArray} {maxL : Nat} {ret : Option FieldType} {hh : List (Nat × Nat × Nat × Nat)}
    (hy : plainName y.cls = true) (hw : wsy = Cond.codeWith y cc maxL ret hh :: wsy') (hlen : (lg_sl av).length ≤ maxL) (lv : List (Nat × Value)) (hlv : lv_args 0 av = lv)
    (body : ∀ (p : Program) (e : Env) (s : State) (m : MethodId) (args : Array Value) (below : List Frame) (meth : Method) (c : Code) (Q : State → Prop) (A : Nat → Prop) (H0 : Heap), CallFix p m c cc maxL s args wsy y.cls → va_K D vwCl tys s → NW s → meth.locks = false → meth.sig.returnType = ret → meth.name = y.name → Q = MQ below Qc args s mc ms (va_A wc sz) → H0 = s.heap → A = va_A wc sz → (∀ q, H0.size ≤ q → A q) → ZQ A s s.heap → NC3 s → c.exceptionTable.toList = tableOf hh →
      X_ p l e rm s m args below meth c Q D A H0 maxL 0 0 wc lv 0 []) :
    Met l y wsy rm (PrW D tys av wc sz) Qc mc ms (va_A wc sz) := by
  refine met_ofWH (cc := cc) (maxL := maxL) (ret := ret) (hh := hh) hy hw ?_
  intro p e s m args below meth c s₁ B hml hv
  obtain ⟨rfl, hsz, hP, hK, hD0, hNW, hZ, hNC⟩ := hv
  have hts := atoms_spec (ws := wsy) B.pre
  have htab := vx_table (x := y) B (hts _ (by rw [hw]; exact List.mem_cons_self))
  have hown : s.vm.findClass y.cls = some m.cls := findClass_of_methodNamed B.named
  have hl := lv_entry av (n := maxL) hlen
  rw [lg_entry_eq]
  rw [hlv] at hl
  subst hsz
  exact body p e s m _ below meth c _ _ _ ⟨B.exec, B.bytes, hml, hown, hts⟩ hK hNW B.notSynchronized B.returns (name_of_methodNamed B.named B.method).1 rfl rfl rfl (fun q h => Or.inr h) hZ hNC htab s.heap [] _ hP hD0.self va_S.rf hl
section XL7
variable {p : Program} {l : Launch} {e : Env} {R : Room} {s : State} {m : MethodId} {args : Array Value} {below : List Frame} {meth : Method} {c : Code} {Q : State → Prop}
variable {D : va_G} {tys : List (ClassId × FieldType)} {A : Nat → Prop} {H0 : Heap} {nL k n : Nat} {ws : va_W} {lv : List (Nat × Value)} {pc : Nat} {st : List Value} {cc : ByteArray} {Ts : List Cond} {own : String}
/-- a static call of a helper: as x_runS, for the calls' lemmas -/
def XRunA (p : Program) (l : Launch) (e : Env) (R : Room) (s : State) (m : MethodId) (args : Array Value) (below : List Frame) (meth : Method) (c : Code) (A : Nat → Prop) (H0 : Heap) (D : va_G) (nL k n : Nat) (ws : va_W) (lv : List (Nat × Value)) (pc : Nat) (stk st : List Value) (mc ms : Nat) (Qa : Nat → State → Outcome → State → Prop) (fr : Nat → Addr → Prop) : Prop :=
  ∀ (H : Heap) (locs : List Loc) (ls : Array Slot), va_P D vwCl ws H → va_D A ws → va_S A H0 H locs → lv_has ls nL lv → va_Run p l e R s m args below meth c H locs k n mc ms (F0 m pc ls stk) st (Qa H.size) (fr H.size)
theorem x_runSWW (C : CallFix p m c cc nL s args Ts own) (hK : va_K D vwCl tys s) (hNW : NW s) (hH0 : H0 = s.heap) (hZ : ZQ A s s.heap) (hNC : NC3 s) (hA : ∀ q, H0.size ≤ q → A q) {y : MethodName} {bytes : ByteArray} {maxL mc ms nA ix : Nat} {ret : Option FieldType} {hh : List (Nat × Nat × Nat × Nat)} {wsy : List Cond} {rm : Room} {wc : va_W} {Qc : Nat → Array Value → State → Outcome → State → Prop} {fr : Nat → Addr → Prop} {As : List Value} (hM : ∀ sz : Nat, Met l y wsy rm (PrW D tys As wc sz) (Qc sz) mc ms (fr sz)) (cw : vx_CSW R s args own ix y bytes maxL ret hh wsy rm mc ms nA) (isC : List Nat) (hC : isC.map (fun i => ws[i]?) = wc.map some) (hnc : va_nd isC = true) {stk : List Value} (hst : stk = As.reverse ++ st) (hn : As.length = nA) (hWd : (st.map fun v => v.category).sum ≤ 8) (hdg : decode cc pc = .ok (.invokestatic ix, 3)) (hf : k + mc ≤ R.cells ∧ n + ms ≤ R.slots) : XRunA p l e R s m args below meth c A H0 D nL k n ws lv pc stk st mc ms (fun sz => Qc sz As.toArray) fr := fun H locs ls hP hD hS hl => by
  subst hH0
  have hFc := va_free (wc := wc) hD hS hA isC hC
  have hZ1 : ZQ (va_A wc H.size) s H := (hZ.kept hS.2.1).narrow hFc
  exact vx_runSW C (hM H.size) cw ⟨PrW.blind, fun U hU hW => ⟨rfl, by rw [hU], by rw [hU]; exact hP.subm isC hC, va_K.moved hW.alike hK, ((hD.weaken (fun _ _ _ _ => trivial)).sub isC hnc hC), hNW.warm hW, by rw [hU]; exact hZ1.moved hW.alike, hNC.moved hW.alike⟩⟩ rfl hn hl.1 hst (lv_room hWd) hdg hf
theorem x_calliW {S : Type} {post : Int32 → S → Prop} {w1 : S → va_W} {wc : va_W} {mc ms : Nat} {stk : List Value} {a : Array Value} (hr : XRunA p l e R s m args below meth c A H0 D nL k n ws lv pc stk st mc ms (fun sz => va_Qi post (fun u t => Bo D tys (va_A wc sz) (w1 u) t) (va_A wc sz) a) (fun sz => va_A wc sz)) (hA : ∀ q, H0.size ≤ q → A q) (isC : List Nat) (hC : isC.map (fun i => ws[i]?) = wc.map some) (isR : List Nat) (wr : va_W) (hR : isR.map (fun i => ws[i]?) = wr.map some) (hnr : va_nd isR = true) (hdis : ∀ i ∈ isR, i ∉ isC) (isP : List Nat) (hnp : va_nd isP = true) {wf : S → va_W} (hPm : ∀ u, isP.map (fun i => (wr ++ w1 u)[i]?) = (wf u).map some) (K : ∀ (r : Int32) (u : S), post r u → X_ p l e R s m args below meth c Q D A H0 nL (k + mc) (n + ms) (wf u) lv (pc + 3) (.int r :: st)) : X_ p l e R s m args below meth c Q D A H0 nL k n ws lv pc stk := fun H locs ls hP hD hS hl => by
  have hFc := va_free (wc := wc) hD hS hA isC hC
  refine va_calli (hr H locs ls hP hD hS hl) hS (fun q _ h => hFc q h) hFc (fun r u t H1 locs1 ht hvm hw hB hz1 hk1 hS1 => ?_)
  obtain ⟨hP1, hK1, hD1⟩ := hB
  rw [ht] at hP1
  obtain ⟨hP2, hD2⟩ := va_join (wr := wr) (w1 := w1 u) hP hD isC isR hC hR hnr hdis hk1 hFc hP1 hD1
  exact K r u hw H1 locs1 ls (hP2.subm isP (hPm u)) (hD2.sub isP hnp (hPm u)) hS1 hl
end XL7
theorem bl1 {b : Bool} (h : ¬ bI b = 0) : (bI b).toInt64 = 1 := by rw [bI_ne0 h]; rfl
theorem bl0 {b : Bool} (h : bI b = 0) : (bI b).toInt64 = 0 := by rw [bI_eq0 h]; rfl
