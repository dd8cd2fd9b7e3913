/-! ===== BEGIN words of one list among another's, by their places ===== -/
theorem goodIn_r {big : List Cond} (ws : List Cond) (ps : List Nat) (hp : ws = ps.filterMap (fun i => big[i]?)) (h : ws.all goodWord = true) : GoodIn big ws := by
  intro w hw
  have h1 := List.all_eq_true.mp h w hw
  rw [hp] at hw
  obtain ⟨i, -, hi⟩ := List.mem_filterMap.mp hw
  have hm : w ∈ big := by first | exact List.mem_of_getElem? hi | exact List.getElem?_mem hi
  exact ⟨hm, good_of_word h1⟩
theorem goodIn_app {big a b : List Cond} (ha : GoodIn big a) (hb : GoodIn big b) : GoodIn big (a ++ b) := fun w h => (List.mem_append.mp h).elim (ha w) (hb w)
theorem goodIn_ca {big a b : List Cond} {c : Cond} (ha : GoodIn big (c :: a)) (hb : GoodIn big b) : GoodIn big (c :: (a ++ b)) := fun w h => (List.mem_cons.mp h).elim (fun e => ha w (List.mem_cons.mpr (Or.inl e))) (fun h => (List.mem_append.mp h).elim (fun h => ha w (List.mem_cons.mpr (Or.inr h))) (hb w))
theorem goodIn_sub {big ws : List Cond} (hm : ∀ w ∈ ws, w ∈ big) (h : ws.all goodWord = true) : GoodIn big ws := fun w hw => ⟨hm w hw, good_of_word (List.all_eq_true.mp h w hw)⟩
/-! ===== END ===== -/


/-! ===== BEGIN exceptions that leave a method, and their catching by the caller (launches without stack traces) ===== -/
section VXA
/-! The laws vx_back, vx_callV, vx_callS, vx_callSW, vx_throw0, vx_throwS follow proofs of the library, with one case more: JvmDerived/Free/Laws.lean (Back.of_free), Shelf42/LK1.lean (callV, callS), Shelf/KitTraced.lean (throwNew0V, throwNewS). -/
/-- where a method has thrown q: the class by its name, the cell, what was written, the world -/
def vx_T (XC : String → State → State → Prop) (st : State) (q : Addr) (t : State) (mc ms : Nat) (free : Addr → Prop) : Prop :=
  ∃ (E : String) (ce : Cell) (L : List Loc), XC E st t ∧ t.heap[q]? = some ce ∧ ce.vm = .none ∧ st.vm.findClass E = some ce.cls ∧ st.WarmedH t.vm ∧ st.sameButNew ({ t with vm := st.vm } : State) L mc ms ∧ ∀ z ∈ L, free z.base
def vx_Q (Qc : Array Value → State → Outcome → State → Prop) (XC : String → State → State → Prop) (mc ms : Nat) (free : Addr → Prop) : Array Value → State → Outcome → State → Prop := fun a st o t =>
  (Qc a st o t ∧ ∃ L, FrameEnd st o t L mc ms ∧ ∀ q ∈ L, free q.base) ∨ ∃ q, o = .threw q ∧ vx_T XC st q t mc ms free
/-- a callee that returns or throws -/
def vx_Met (l : Launch) (y : MethodName) (ws : List Cond) (rm : Room) (Pc : Array Value → State → Prop) (Qc : Array Value → State → Outcome → State → Prop) (XC : String → State → State → Prop) (mc ms : Nat) (free : Addr → Prop) : Prop :=
  MetFree l y (headSpec ws rm) Pc (fun _ _ _ _ _ => True) (vx_Q Qc XC mc ms free)
def vx_Post (XC : String → State → State → Prop) (mc ms : Nat) (free : Addr → Prop) : Pt → Array Value → Addr → Pt → Prop := fun A a q B =>
  ∃ (g : JFrame) (mk : MethodId) (t : State) (L : List Loc) (E : String) (ce : Cell), B.U.heap = t.heap ∧ B.U.vm = t.vm ∧ XC E (A.U.calling g mk a) t ∧ t.heap[q]? = some ce ∧ ce.vm = .none ∧ A.U.vm.findClass E = some ce.cls ∧ B.locs = A.locs ++ L ∧ (∀ z ∈ L, free z.base) ∧ B.cells = A.cells + mc ∧ B.slots = A.slots + ms
def vx_Back (l : Launch) (R : Room) (p : Program) (e : Env) (below : List Frame) (s : State) (sargs : Array Value) (y : MethodName) (len W9 : Nat)
    (Pre : Pt → Array Value → Prop) (Post : Pt → Array Value → Option Value → Pt → Prop) (PostX : Pt → Array Value → Addr → Pt → Prop) : Prop :=
  ∀ (m : MethodId) (meth : Method) (c : Code) (A : Pt) (g : JFrame) (ig : Instr) (mk : MethodId) (a : Array Value),
    Stand p l e R s m sargs below meth c A.U A.locs A.cells A.slots → g.method = m → g.locals.size = c.maxLocals → decode c.code g.pc = .ok (ig, len) →
    2 * g.monitorRoom + (g.stack.map fun v => v.category).sum ≤ W9 → A.U.methodNamed? y = some mk → Pre A a →
    (∃ (v : Option Value) (B : Pt), Stand p l e R s m sargs below meth c B.U B.locs B.cells B.slots ∧ Post A a v B ∧
      Steps p.tables e below (doInvoke e (A.U.setTop g) [] mk a).1 (B.U.setTop { g with pc := g.pc + len, stack := v.toList ++ g.stack })) ∨
    (∃ (q : Addr) (B : Pt), Stand p l e R s m sargs below meth c B.U B.locs B.cells B.slots ∧ PostX A a q B ∧
      Steps p.tables e below (doInvoke e (A.U.setTop g) [] mk a).1 ((B.U.setTop g).pushFrame (.throwing q)))
section Payer
variable {l : Launch} {R : Room} {p : Program} {e : Env} {below : List Frame} {s : State} {sargs : Array Value} {y : MethodName} {len W9 : Nat}
theorem vx_back {ws : List Cond} {rm : Room} {Pc : Array Value → State → Prop} {Qc : Array Value → State → Outcome → State → Prop} {XC : String → State → State → Prop} {mc ms : Nat} {free : Addr → Prop} {bytes : ByteArray} {maxL : Nat} {ret : Option FieldType}
    (hM : vx_Met l y ws rm Pc Qc XC mc ms free) (hblind : FrameBlind Pc) (hrc : rm.cells = mc) (hrs : rm.slots = ms)
    (hframes : rm.frames + 1 ≤ R.frames) (hlocals : W9 + (maxL + 11) + rm.locals ≤ R.locals)
    (hws : ∀ w ∈ ws, ∀ a' U, s.WarmedH U.vm → w.before a' U = true) (hcode : Cond.code y bytes maxL ret ∈ ws) (hinit : ∀ a' U, s.WarmedH U.vm → (Cond.initialized y.cls).before a' U = true) :
    vx_Back l R p e below s sargs y len W9 (PreOf R mc ms Pc) (PostOf Qc mc ms free) (vx_Post XC mc ms free) := by
  intro m meth c A g ig mk a X hg hsize hdg hW hn hp
  have h1 : (headSpec ws rm).pre.before a A.U = true := atoms_intro fun w hw => hws w hw _ _ X.warmed
  have h2 : (Cond.code y bytes maxL ret).before a A.U = true := hws _ hcode _ _ X.warmed
  have h3 : (Cond.initialized y.cls).before a A.U = true := hinit _ _ X.warmed
  have h4 : A.cells + (headSpec ws rm).room.cells ≤ R.cells := by rw [show (headSpec ws rm).room.cells = mc from hrc]; exact hp.1
  have h5 : A.slots + (headSpec ws rm).room.slots ≤ R.slots := by rw [show (headSpec ws rm).room.slots = ms from hrs]; exact hp.2.1
  have hPc : Pc a (A.U.calling g mk a) := hblind _ _ _ _ hp.2.2
  obtain ⟨U, Ls, c0, s0⟩ := A
  dsimp only [Pt.U, Pt.locs, Pt.cells, Pt.slots] at h1 h2 h3 h4 h5 X hn hPc ⊢
  obtain ⟨methY, cY, hmY, hcY, -, hlY, -, -, -, -⟩ := Cond.code_spec hn h2
  obtain ⟨kY, hkY, -⟩ := className_of_methodNamed hn
  have hinitY : kY.init = .initialized := Cond.initialized_spec (findClass_of_methodNamed hn) hkY h3
  have h : At U g.method c below := by rw [hg]; exact X.here
  have hlocals9 : W9 + (maxL + 11) + (headSpec ws rm).room.locals ≤ R.locals := hlocals
  have happ : (headSpec ws rm).appliesLoose y e.platform (U.calling g mk a) = true :=
    Spec.appliesLoose_calling (g := g) h hdg hn hkY hinitY
      (X.room_calling (g := g) (R' := (headSpec ws rm).room) hsize hmY hcY hframes (by rw [hlY]; omega) h4 h5) h1
  obtain ⟨mid, hmid⟩ := h.above
  have hfr : (U.setTop g).frames = (.java g :: mid) ++ below := by rw [State.frames_setTop' g h.top, hmid]; rfl
  obtain ⟨o, s₂, hsteps, -, hend, hq⟩ := Steps.callFree hM p X.admits X.cas X.clock (acts := []) hfr happ hPc trivial
  have hq' : vx_Q Qc XC mc ms free a (U.calling g mk a) o s₂ := hq
  rw [State.frames_setTop' g h.top] at hend
  obtain ⟨g₀, hg0⟩ := Option.isSome_iff_exists.mp h.top
  obtain ⟨r, hr⟩ := State.topJava?_eq_some.mp hg0
  have hr' : (({ U with heap := s₂.heap, slotsUsed := s₂.slotsUsed } : State).setVm s₂.vm).frames = .java g₀ :: r := hr
  rcases hq' with ⟨hqc, L, hfe, hL⟩ | ⟨q, rfl, E, ce, L, hx, hce, hcv, hcl, hW₂, hsm, hL⟩
  · obtain ⟨⟨v, rfl⟩, hW₂, e2, q2, q3, q4, q5, q6⟩ := id hfe
    have e3 : s₂ = ({ (U.calling g mk a).setFrames s₂.frames with heap := s₂.heap, slotsUsed := s₂.slotsUsed } : State).setVm s₂.vm := by
      have : s₂ = ({ s₂ with vm := (U.calling g mk a).vm } : State).setVm s₂.vm := rfl
      rw [e2] at this
      exact this
    obtain ⟨c₂, i₂, len₂, hc₂, hd₂, hf₂⟩ := hend
    have hW' : U.WarmedH s₂.vm := hW₂
    have hcc : c₂ = c := by
      have h1 : s₂.code? g.method = U.code? g.method := by
        rw [State.code?_eq, State.code?_eq, hW'.alike.method?]
      exact Option.some.inj (hc₂.symm.trans (h1.trans h.code))
    subst hcc
    have hlen : len₂ = len := by rw [hdg] at hd₂; cases hd₂; rfl
    subst hlen
    have hs₂ : s₂ = (({ U with heap := s₂.heap, slotsUsed := s₂.slotsUsed } : State).setVm s₂.vm).setTop { g with pc := g.pc + len₂, stack := v.toList ++ g.stack } := by
      refine e3.trans ?_
      rw [hf₂, State.calling_eq h.top, State.setFrames_setFrames, State.setTop_of_frames _ hr', hr]
      rfl
    have hsame : U.sameButNew ({ U with heap := s₂.heap, slotsUsed := s₂.slotsUsed } : State) L mc ms := by
      refine ⟨?_, q2, q3, q4, q5, q6⟩
      obtain ⟨t, ht, -⟩ := State.frames_cons hr
      show ({ U with heap := s₂.heap, slotsUsed := s₂.slotsUsed } : State) = { U.setFrames U.frames with heap := s₂.heap, slotsUsed := s₂.slotsUsed }
      rw [State.setFrames_self ht]
    subst hg
    refine Or.inl ⟨v, ⟨(({ U with heap := s₂.heap, slotsUsed := s₂.slotsUsed } : State).setVm s₂.vm), Ls ++ L, c0 + mc, s0 + ms⟩,
      ⟨X.admits, X.cas, X.clock, X.frames, X.room, X.hears, X.method, X.code, (X.here.setHeapUsed s₂.heap s₂.slotsUsed).setVm hW'.alike, X.tail, State.WarmedH.trans X.warmed hW', X.limits, X.bytes, X.same.trans (hsame.setVm s.vm)⟩,
      ⟨g, mk, s₂, L, rfl, rfl, hqc, rfl, hL, rfl, rfl⟩, ?_⟩
    show Steps p.tables e below _ ((({ U with heap := s₂.heap, slotsUsed := s₂.slotsUsed } : State).setVm s₂.vm).setTop { g with pc := g.pc + len₂, stack := v.toList ++ g.stack })
    rw [← hs₂]
    exact hsteps
  · obtain ⟨e2, q2, q3, q4, q5, q6⟩ := id hsm
    have e3 : s₂ = ({ (U.calling g mk a).setFrames s₂.frames with heap := s₂.heap, slotsUsed := s₂.slotsUsed } : State).setVm s₂.vm := by
      have : s₂ = ({ s₂ with vm := (U.calling g mk a).vm } : State).setVm s₂.vm := rfl
      rw [e2] at this
      exact this
    have hf₂ : s₂.frames = .throwing q :: .java g :: U.frames.tail := hend
    have hW' : U.WarmedH s₂.vm := hW₂
    have hs₂ : s₂ = ((({ U with heap := s₂.heap, slotsUsed := s₂.slotsUsed } : State).setVm s₂.vm).setTop g).pushFrame (.throwing q) := by
      refine e3.trans ?_
      rw [hf₂, State.calling_eq h.top, State.setFrames_setFrames, State.pushFrame, State.frames_setTop _ hr', State.setTop_of_frames _ hr', State.setFrames_setFrames, hr]
      rfl
    have hsame : U.sameButNew ({ U with heap := s₂.heap, slotsUsed := s₂.slotsUsed } : State) L mc ms := by
      refine ⟨?_, q2, q3, q4, q5, q6⟩
      obtain ⟨t, ht, -⟩ := State.frames_cons hr
      show ({ U with heap := s₂.heap, slotsUsed := s₂.slotsUsed } : State) = { U.setFrames U.frames with heap := s₂.heap, slotsUsed := s₂.slotsUsed }
      rw [State.setFrames_self ht]
    subst hg
    refine Or.inr ⟨q, ⟨(({ U with heap := s₂.heap, slotsUsed := s₂.slotsUsed } : State).setVm s₂.vm), Ls ++ L, c0 + mc, s0 + ms⟩,
      ⟨X.admits, X.cas, X.clock, X.frames, X.room, X.hears, X.method, X.code, (X.here.setHeapUsed s₂.heap s₂.slotsUsed).setVm hW'.alike, X.tail, State.WarmedH.trans X.warmed hW', X.limits, X.bytes, X.same.trans (hsame.setVm s.vm)⟩,
      ⟨g, mk, s₂, L, E, ce, rfl, rfl, hx, hce, hcv, hcl, rfl, hL, rfl, rfl⟩, ?_⟩
    show Steps p.tables e below _ (((({ U with heap := s₂.heap, slotsUsed := s₂.slotsUsed } : State).setVm s₂.vm).setTop g).pushFrame (.throwing q))
    rw [← hs₂]
    exact hsteps
end Payer
section Calls
variable {p : Program} {l : Launch} {e : Env} {R : Room} {s : State} {m : MethodId} {args : Array Value} {below : List Frame} {meth : Method} {c : Code} {T : State} {locs : List Loc} {cells slots : Nat}
theorem vx_callV (X : Stand p l e R s m args below meth c T locs cells slots) (hexec : p.tables.exec = Jvm.exec) {own C : String} {index : Nat} {y : MethodName} {bytes : ByteArray} {maxL : Nat} {ret : Option FieldType}
    (hown : s.vm.findClass own = some m.cls) (hlink : (Cond.methodLink own index y).before args s = true) (hinst : (Cond.instanceMethod y).before args s = true) (hsel : (Cond.selects C y y).before args s = true)
    (hcode : (Cond.code y bytes maxL ret).before args s = true) (hy : y.cls ≠ "java/lang/invoke/MethodHandle" ∧ y.cls ≠ "java/lang/invoke/VarHandle")
    {W9 : Nat} {Pre : Pt → Array Value → Prop} {Post : Pt → Array Value → Option Value → Pt → Prop} {PostX : Pt → Array Value → Addr → Pt → Prop} (hK : vx_Back l R p e below s args y 3 W9 Pre Post PostX)
    {b : Addr} {cellB : Cell} (hcell : T.heap[b]? = some cellB) (hobj : cellB.vm.isStatics = false) (hcls : s.vm.findClass C = some cellB.cls)
    {g : JFrame} (hg : g.method = m) (hsize : g.locals.size = c.maxLocals) {argsL rest : List Value} (hlen : ∀ sig, parseMethodDescriptor y.desc = some sig → argsL.length = sig.parameters.length)
    (hstack : g.stack = argsL.reverse ++ .ref b :: rest) (hW : 2 * g.monitorRoom + (rest.map fun v => v.category).sum ≤ W9) (hdg : decode c.code g.pc = .ok (.invokevirtual index, 3))
    (hpre : ∀ vm₁, s.WarmedH vm₁ → Pre ⟨T.setVm vm₁, locs, cells, slots⟩ (Value.ref b :: argsL).toArray) :
    (∃ (v : Option Value) (vm₁ : Vm) (B : Pt), s.WarmedH vm₁ ∧ Stand p l e R s m args below meth c B.U B.locs B.cells B.slots ∧ Post ⟨T.setVm vm₁, locs, cells, slots⟩ (Value.ref b :: argsL).toArray v B ∧
      ∀ target, Steps p.tables e below (B.U.setTop { g with pc := g.pc + 3, stack := v.toList ++ rest }) target → Steps p.tables e below (T.setTop g) target) ∨
    (∃ (q : Addr) (vm₁ : Vm) (B : Pt), s.WarmedH vm₁ ∧ Stand p l e R s m args below meth c B.U B.locs B.cells B.slots ∧ PostX ⟨T.setVm vm₁, locs, cells, slots⟩ (Value.ref b :: argsL).toArray q B ∧
      Steps p.tables e below (T.setTop g) ((B.U.setTop { g with stack := rest }).pushFrame (.throwing q))) := by
  obtain ⟨mk, methM, hnamed, hmethM, hstM, habM⟩ := Cond.instanceMethod_spec hinst
  obtain ⟨methM', cM, hmethM', -, -, -, -, -, -, hsigM⟩ := Cond.code_spec hnamed hcode
  cases hmethM.symm.trans hmethM'
  obtain ⟨c2, r2, m2, q1, q2, q3, q4, kP, hkP, hkPi⟩ := Cond.selects_spec hsel
  cases hcls.symm.trans q1
  cases (State.methodFound?_of_named hnamed hy).symm.trans q2
  cases hnamed.symm.trans q3
  have hselP : selectMethod e.platform s.vm cellB.cls mk = .method mk := by rw [Launch.admits_selectMethod X.admits]; exact q4
  obtain ⟨vm₁, X₁, hstep₁⟩ := X.invokevirtual hexec hown hlink hnamed hmethM hstM hkP hkPi hy (a := b) (cell := cellB) hcell
    (fun z h => by rw [h] at hobj; cases hobj) hselP hmethM habM hkP hkPi (g := g) hg (argsL := argsL) (rest := rest) (hlen _ hsigM) hstack hdg
  rcases hK m meth c ⟨T.setVm vm₁, locs, cells, slots⟩ { g with stack := rest } (.invokevirtual index) mk (Value.ref b :: argsL).toArray X₁ hg hsize hdg hW (X₁.named hnamed) (hpre vm₁ X₁.warmed) with ⟨v, B, X', hpost, hsteps⟩ | ⟨q, B, X', hpost, hsteps⟩
  · exact Or.inl ⟨v, vm₁, B, X₁.warmed, X', hpost, fun target h => hstep₁ _ fun acts => by rw [doInvoke_state]; exact hsteps.trans h⟩
  · exact Or.inr ⟨q, vm₁, B, X₁.warmed, X', hpost, hstep₁ _ fun acts => by rw [doInvoke_state]; exact hsteps⟩
theorem vx_callS (X : Stand p l e R s m args below meth c T locs cells slots) (hexec : p.tables.exec = Jvm.exec) {own : String} {index : Nat} {y : MethodName} {bytes : ByteArray} {maxL : Nat} {ret : Option FieldType}
    (hown : s.vm.findClass own = some m.cls) (hlink : (Cond.methodLink own index y).before args s = true) (hstat : (Cond.static y).before args s = true) (hinit : (Cond.initialized y.cls).before args s = true)
    (hcode : (Cond.code y bytes maxL ret).before args s = true) (hy : y.cls ≠ "java/lang/invoke/MethodHandle" ∧ y.cls ≠ "java/lang/invoke/VarHandle")
    {W9 : Nat} {Pre : Pt → Array Value → Prop} {Post : Pt → Array Value → Option Value → Pt → Prop} {PostX : Pt → Array Value → Addr → Pt → Prop} (hK : vx_Back l R p e below s args y 3 W9 Pre Post PostX)
    {g : JFrame} (hg : g.method = m) (hsize : g.locals.size = c.maxLocals) {argsL rest : List Value} (hlen : ∀ sig, parseMethodDescriptor y.desc = some sig → argsL.length = sig.parameters.length)
    (hstack : g.stack = argsL.reverse ++ rest) (hW : 2 * g.monitorRoom + (rest.map fun v => v.category).sum ≤ W9) (hdg : decode c.code g.pc = .ok (.invokestatic index, 3))
    (hpre : ∀ vm₁, s.WarmedH vm₁ → Pre ⟨T.setVm vm₁, locs, cells, slots⟩ argsL.toArray) :
    (∃ (v : Option Value) (vm₁ : Vm) (B : Pt), s.WarmedH vm₁ ∧ Stand p l e R s m args below meth c B.U B.locs B.cells B.slots ∧ Post ⟨T.setVm vm₁, locs, cells, slots⟩ argsL.toArray v B ∧
      ∀ target, Steps p.tables e below (B.U.setTop { g with pc := g.pc + 3, stack := v.toList ++ rest }) target → Steps p.tables e below (T.setTop g) target) ∨
    (∃ (q : Addr) (vm₁ : Vm) (B : Pt), s.WarmedH vm₁ ∧ Stand p l e R s m args below meth c B.U B.locs B.cells B.slots ∧ PostX ⟨T.setVm vm₁, locs, cells, slots⟩ argsL.toArray q B ∧
      Steps p.tables e below (T.setTop g) ((B.U.setTop { g with stack := rest }).pushFrame (.throwing q))) := by
  obtain ⟨mk, hnamed⟩ := Cond.code_named hcode
  obtain ⟨methM, cM, hmethM, -, -, -, -, -, -, hsigM⟩ := Cond.code_spec hnamed hcode
  have hstatic : methM.isStatic = true := Cond.static_spec hnamed hmethM hstat
  obtain ⟨kP, hkP, -⟩ := className_of_methodNamed hnamed
  have hinitP : kP.init = .initialized := Cond.initialized_spec (findClass_of_methodNamed hnamed) hkP hinit
  obtain ⟨vm₁, X₁, hstep₁⟩ := X.invokestatic hexec hown hlink hnamed hmethM hstatic hkP hinitP hy (g := g) hg (argsL := argsL) (rest := rest) (hlen _ hsigM) hstack hdg
  rcases hK m meth c ⟨T.setVm vm₁, locs, cells, slots⟩ { g with stack := rest } (.invokestatic index) mk argsL.toArray X₁ hg hsize hdg hW (X₁.named hnamed) (hpre vm₁ X₁.warmed) with ⟨v, B, X', hpost, hsteps⟩ | ⟨q, B, X', hpost, hsteps⟩
  · exact Or.inl ⟨v, vm₁, B, X₁.warmed, X', hpost, fun target h => hstep₁ _ fun acts => by rw [doInvoke_state]; exact hsteps.trans h⟩
  · exact Or.inr ⟨q, vm₁, B, X₁.warmed, X', hpost, hstep₁ _ fun acts => by rw [doInvoke_state]; exact hsteps⟩
end Calls
theorem vx_cls {s : State} {T : State} {vm₁ : Vm} {E : String} {k : ClassId} (hW : s.WarmedH vm₁) (h : (T.setVm vm₁).vm.findClass E = some k) : s.vm.findClass E = some k := by
  have h1 : vm₁.findClass E = some k := h
  rw [hW.alike.findClass] at h1
  exact h1
/-- the method's frame g, with q thrown over it -/
def vx_W (p : Program) (l : Launch) (e : Env) (R : Room) (s : State) (m : MethodId) (args : Array Value) (below : List Frame) (meth : Method) (c : Code) (H : Heap) (locs : List Loc) (cells slots : Nat) (Q : State → Prop) (g : JFrame) (q : Addr) : Prop :=
  ∀ T : State, T.heap = H → Stand p l e R s m args below meth c T locs cells slots → ∃ t, Steps p.tables e below ((T.setTop g).pushFrame (.throwing q)) t ∧ Q t
def vx_Run (p : Program) (l : Launch) (e : Env) (R : Room) (s : State) (m : MethodId) (args : Array Value) (below : List Frame) (meth : Method) (c : Code) (H : Heap) (locs : List Loc) (cells slots mc ms : Nat) (g : JFrame) (rest : List Value) (Qa : State → Outcome → State → Prop) (XC : String → State → State → Prop) (free : Addr → Prop) : Prop :=
  ∀ T : State, T.heap = H → Stand p l e R s m args below meth c T locs cells slots →
    (∃ (v : Option Value) (st₀ t T' : State) (L : List Loc), st₀.heap = H ∧ Stand p l e R s m args below meth c T' (locs ++ L) (cells + mc) (slots + ms) ∧ (∀ q ∈ L, free q.base) ∧ T'.heap = t.heap ∧ T'.vm = t.vm ∧ Qa st₀ (.returned v) t ∧
      Goes p e below T g T' { g with pc := g.pc + 3, stack := v.toList ++ rest }) ∨
    (∃ (q : Addr) (st₀ t T' : State) (L : List Loc) (E : String) (ce : Cell), st₀.heap = H ∧ Stand p l e R s m args below meth c T' (locs ++ L) (cells + mc) (slots + ms) ∧ (∀ z ∈ L, free z.base) ∧ T'.heap = t.heap ∧ T'.vm = t.vm ∧ XC E st₀ t ∧ t.heap[q]? = some ce ∧ ce.vm = .none ∧ s.vm.findClass E = some ce.cls ∧
      Steps p.tables e below (T.setTop g) ((T'.setTop { g with stack := rest }).pushFrame (.throwing q)))
def vx_X {S : Type} (px : S → Prop) (B : String → S → State → Prop) (A : Nat → Prop) : String → State → State → Prop := fun E st t => ∃ u : S, px u ∧ B E u t ∧ va_F A st t
section Runs
variable {p : Program} {l : Launch} {e : Env} {R : Room} {s : State} {m : MethodId} {args : Array Value} {below : List Frame} {meth : Method} {c : Code} {H : Heap} {locs : List Loc} {cells slots : Nat}
variable {y : MethodName} {bytes cc : ByteArray} {maxL nL mc ms n index : Nat} {ret : Option FieldType} {ws : List Cond} {rm : Room} {Pc : Array Value → State → Prop} {Qc : Array Value → State → Outcome → State → Prop} {XC : String → State → State → Prop} {free : Addr → Prop} {Ts : List Cond} {own C : String} {b : Addr} {As rest : List Value} {g : JFrame}
theorem vx_callBack (cb : CallB R s args own index y bytes maxL ret ws rm mc ms n) (hM : vx_Met l y ws rm Pc Qc XC mc ms free) (hbl : FrameBlind Pc) : vx_Back l R p e below s args y 3 8 (PreOf R mc ms Pc) (PostOf Qc mc ms free) (vx_Post XC mc ms free) := by
  obtain ⟨hrc, hrs, hfr, hlo, hws, hcw, -, hini, -⟩ := cb
  exact vx_back (bytes := bytes) (maxL := maxL) (ret := ret) hM hbl hrc hrs hfr hlo hws hcw (fun a' U hW => word_at hW (Or.inl (by first | rfl | simp [Cond.onTables, Cond.keeps, Cond.steady])) hini)
theorem vx_runV (S : CallFix p m c cc nL s args Ts own) (hM : vx_Met l y ws rm Pc Qc XC mc ms free) (cw : CallW R s args own C index y bytes maxL ret ws rm mc ms n) (hp : PreV s H C b Pc As)
    (hg : g.method = m) (hn : As.length = n) (hsize : g.locals.size = nL) (hstack : g.stack = As.reverse ++ .ref b :: rest) (hW : 2 * g.monitorRoom + (rest.map fun v => v.category).sum ≤ 8) (hdg : decode cc g.pc = .ok (.invokevirtual index, 3)) (hf : cells + mc ≤ R.cells ∧ slots + ms ≤ R.slots) :
    vx_Run p l e R s m args below meth c H locs cells slots mc ms g rest (Qc (Value.ref b :: As).toArray) XC free := by
  have hK : vx_Back l R p e below s args y 3 8 (PreOf R mc ms Pc) (PostOf Qc mc ms free) (vx_Post XC mc ms free) := vx_callBack cw.1 hM hp.1
  obtain ⟨⟨-, -, -, -, -, -, hcode, -, hy, hlen, hl⟩, hin, hse⟩ := cw
  obtain ⟨hx, hb, hml, ho, -⟩ := S
  obtain ⟨-, ⟨cellB, hcB, hoB, hclB⟩, hPc⟩ := hp
  intro T hT X
  rcases vx_callV X hx (C := C) (bytes := bytes) (maxL := maxL) (ret := ret) ho hl hin hse hcode hy hK (by rw [hT]; exact hcB) hoB hclB hg (hsize.trans hml.symm) (argsL := As) (rest := rest) (fun sig h => hn.trans (hlen sig h)) hstack hW (by rw [hb]; exact hdg)
    (fun vm₁ hW₁ => ⟨hf.1, hf.2, hPc (T.setVm vm₁) hT hW₁⟩) with ⟨v, vm₁, ⟨U', l2, c2, s2⟩, hW₁, X', ⟨g', mk, t, L, e1, e2, hq, h1, hL, h2, h3⟩, st⟩ | ⟨q, vm₁, ⟨U', l2, c2, s2⟩, hW₁, X', ⟨g', mk, t, L, E, ce, e1, e2, hq, hce, hcv, hcl, h1, hL, h2, h3⟩, st⟩
  · dsimp only [Pt.U, Pt.locs, Pt.cells, Pt.slots] at X' e1 e2 h1 h2 h3 st
    subst h1; subst h2; subst h3
    exact Or.inl ⟨v, (T.setVm vm₁).calling g' mk (Value.ref b :: As).toArray, t, U', L, hT, X', hL, e1, e2, hq, st⟩
  · dsimp only [Pt.U, Pt.locs, Pt.cells, Pt.slots] at X' e1 e2 h1 h2 h3 st hcl
    subst h1; subst h2; subst h3
    exact Or.inr ⟨q, (T.setVm vm₁).calling g' mk (Value.ref b :: As).toArray, t, U', L, E, ce, hT, X', hL, e1, e2, hq, hce, hcv, vx_cls hW₁ hcl, st⟩
theorem vx_runS (S : CallFix p m c cc nL s args Ts own) (hM : vx_Met l y ws rm Pc Qc XC mc ms free) (cw : CallB R s args own index y bytes maxL ret ws rm mc ms n ∧ (Cond.static y).before args s = true) (hp : PreS s H Pc As)
    (hg : g.method = m) (hn : As.length = n) (hsize : g.locals.size = nL) (hstack : g.stack = As.reverse ++ rest) (hW : 2 * g.monitorRoom + (rest.map fun v => v.category).sum ≤ 8) (hdg : decode cc g.pc = .ok (.invokestatic index, 3)) (hf : cells + mc ≤ R.cells ∧ slots + ms ≤ R.slots) :
    vx_Run p l e R s m args below meth c H locs cells slots mc ms g rest (Qc As.toArray) XC free := by
  have hK : vx_Back l R p e below s args y 3 8 (PreOf R mc ms Pc) (PostOf Qc mc ms free) (vx_Post XC mc ms free) := vx_callBack cw.1 hM hp.1
  obtain ⟨⟨-, -, -, -, -, -, hcode, hini, hy, hlen, hl⟩, hstt⟩ := cw
  obtain ⟨hx, hb, hml, ho, -⟩ := S
  intro T hT X
  rcases vx_callS X hx (bytes := bytes) (maxL := maxL) (ret := ret) ho hl hstt hini hcode hy hK hg (hsize.trans hml.symm) (argsL := As) (rest := rest) (fun sig h => hn.trans (hlen sig h)) hstack hW (by rw [hb]; exact hdg)
    (fun vm₁ hW₁ => ⟨hf.1, hf.2, hp.2 (T.setVm vm₁) hT hW₁⟩) with ⟨v, vm₁, ⟨U', l2, c2, s2⟩, hW₁, X', ⟨g', mk, t, L, e1, e2, hq, h1, hL, h2, h3⟩, st⟩ | ⟨q, vm₁, ⟨U', l2, c2, s2⟩, hW₁, X', ⟨g', mk, t, L, E, ce, e1, e2, hq, hce, hcv, hcl, h1, hL, h2, h3⟩, st⟩
  · dsimp only [Pt.U, Pt.locs, Pt.cells, Pt.slots] at X' e1 e2 h1 h2 h3 st
    subst h1; subst h2; subst h3
    exact Or.inl ⟨v, (T.setVm vm₁).calling g' mk As.toArray, t, U', L, hT, X', hL, e1, e2, hq, st⟩
  · dsimp only [Pt.U, Pt.locs, Pt.cells, Pt.slots] at X' e1 e2 h1 h2 h3 st hcl
    subst h1; subst h2; subst h3
    exact Or.inr ⟨q, (T.setVm vm₁).calling g' mk As.toArray, t, U', L, E, ce, hT, X', hL, e1, e2, hq, hce, hcv, vx_cls hW₁ hcl, st⟩
end Runs
section Rows
variable {p : Program} {l : Launch} {e : Env} {R : Room} {s : State} {m : MethodId} {args : Array Value} {below : List Frame} {meth : Method} {c : Code} {H : Heap} {locs : List Loc} {cells slots : Nat} {Q : State → Prop}
variable {mc ms : Nat} {free : Addr → Prop} {A0 A1 : Nat → Prop} {H0 : Heap} {a : Array Value} {pc : Nat} {ls : Array Slot} {st0 rest : List Value}
theorem vx_keep {st₀ t T' : State} {L : List Loc} (h0 : st₀.heap = H) (e1 : T'.heap = t.heap) (hS : va_S A0 H0 H locs) (hA : ∀ q, q < H.size → A1 q → A0 q) (hf : ∀ q, free q → A0 q) (hL : ∀ q ∈ L, free q.base) (hF : va_F A1 st₀ t) :
    H.size ≤ T'.heap.size ∧ (∀ q : Nat, q < H.size → ¬ A1 q → T'.heap[q]? = H[q]?) ∧ va_S A0 H0 T'.heap (locs ++ L) := by
  obtain ⟨hz, hk⟩ := hF
  rw [h0] at hz hk
  exact ⟨by rw [e1]; exact hz, fun q h1 h2 => by rw [e1]; exact hk q h1 h2,
    ⟨Nat.le_trans hS.1 (by rw [e1]; exact hz), fun q h1 h2 => by rw [e1, hk q (Nat.lt_of_lt_of_le h1 hS.1) (fun z => h2 (hA q (Nat.lt_of_lt_of_le h1 hS.1) z))]; exact hS.2.1 q h1 h2, fun q hq => by
      rcases List.mem_append.mp hq with h | h
      · exact hS.2.2 q h
      · exact hf _ (hL q h)⟩⟩
theorem vx_calli {S SX : Type} {post : Int32 → S → Prop} {px : SX → Prop} {B : S → State → Prop} {BX : String → SX → State → Prop} {AX : Nat → Prop} (hr : vx_Run p l e R s m args below meth c H locs cells slots mc ms (F0 m pc ls st0) rest (va_Qi post B A1 a) (vx_X px BX AX) free) (hS : va_S A0 H0 H locs) (hA : ∀ q, q < H.size → A1 q → A0 q) (hf : ∀ q, free q → A0 q) (hAX : ∀ q, q < H.size → AX q → A0 q)
    (kx : ∀ (E : String) (ce : Cell) (q9 : Addr) (u : SX) (t : State) (H1 : Heap) (locs1 : List Loc), t.heap = H1 → s.vm.Alike t.vm → px u → BX E u t → H.size ≤ H1.size → (∀ q : Nat, q < H.size → ¬ AX q → H1[q]? = H[q]?) → va_S A0 H0 H1 locs1 → H1[q9]? = some ce → ce.vm = .none → s.vm.findClass E = some ce.cls → vx_W p l e R s m args below meth c H1 locs1 (cells + mc) (slots + ms) Q (F0 m pc ls rest) q9)
    (kk : ∀ (r : Int32) (u : S) (t : State) (H1 : Heap) (locs1 : List Loc), t.heap = H1 → s.vm.Alike t.vm → post r u → B u t → H.size ≤ H1.size → (∀ q : Nat, q < H.size → ¬ A1 q → H1[q]? = H[q]?) → va_S A0 H0 H1 locs1 → W p l e R s m args below meth c H1 locs1 (cells + mc) (slots + ms) Q (F0 m (pc + 3) ls (.int r :: rest))) : W p l e R s m args below meth c H locs cells slots Q (F0 m pc ls st0) := by
  intro T hT X
  rcases hr T hT X with ⟨v, st₀, t, T', L, h0, X', hL, e1, e2, ⟨⟨r, u, hv, hp, hb⟩, hF⟩, st⟩ | ⟨q, st₀, t, T', L, E, ce, h0, X', hL, e1, e2, ⟨u, hp, hb, hF⟩, hce, hcv, hcl, st⟩
  · cases hv
    obtain ⟨k1, k2, k3⟩ := vx_keep h0 e1 hS hA hf hL hF
    obtain ⟨t2, a1, b1⟩ := kk r u t T'.heap (locs ++ L) e1.symm (by rw [← e2]; exact X'.warmed.alike) hp hb k1 k2 k3 T' rfl X'
    exact ⟨t2, st t2 a1, b1⟩
  · obtain ⟨k1, k2, k3⟩ := vx_keep h0 e1 hS hAX hf hL hF
    obtain ⟨t2, a1, b1⟩ := kx E ce q u t T'.heap (locs ++ L) e1.symm (by rw [← e2]; exact X'.warmed.alike) hp hb k1 k2 k3 (by rw [e1]; exact hce) hcv hcl T' rfl X'
    exact ⟨t2, st.trans a1, b1⟩
theorem vx_calll {S SX : Type} {post : Int64 → S → Prop} {px : SX → Prop} {B : S → State → Prop} {BX : String → SX → State → Prop} {AX : Nat → Prop} (hr : vx_Run p l e R s m args below meth c H locs cells slots mc ms (F0 m pc ls st0) rest (va_Ql post B A1 a) (vx_X px BX AX) free) (hS : va_S A0 H0 H locs) (hA : ∀ q, q < H.size → A1 q → A0 q) (hf : ∀ q, free q → A0 q) (hAX : ∀ q, q < H.size → AX q → A0 q)
    (kx : ∀ (E : String) (ce : Cell) (q9 : Addr) (u : SX) (t : State) (H1 : Heap) (locs1 : List Loc), t.heap = H1 → s.vm.Alike t.vm → px u → BX E u t → H.size ≤ H1.size → (∀ q : Nat, q < H.size → ¬ AX q → H1[q]? = H[q]?) → va_S A0 H0 H1 locs1 → H1[q9]? = some ce → ce.vm = .none → s.vm.findClass E = some ce.cls → vx_W p l e R s m args below meth c H1 locs1 (cells + mc) (slots + ms) Q (F0 m pc ls rest) q9)
    (kk : ∀ (r : Int64) (u : S) (t : State) (H1 : Heap) (locs1 : List Loc), t.heap = H1 → s.vm.Alike t.vm → post r u → B u t → H.size ≤ H1.size → (∀ q : Nat, q < H.size → ¬ A1 q → H1[q]? = H[q]?) → va_S A0 H0 H1 locs1 → W p l e R s m args below meth c H1 locs1 (cells + mc) (slots + ms) Q (F0 m (pc + 3) ls (.long r :: rest))) : W p l e R s m args below meth c H locs cells slots Q (F0 m pc ls st0) := by
  intro T hT X
  rcases hr T hT X with ⟨v, st₀, t, T', L, h0, X', hL, e1, e2, ⟨⟨r, u, hv, hp, hb⟩, hF⟩, st⟩ | ⟨q, st₀, t, T', L, E, ce, h0, X', hL, e1, e2, ⟨u, hp, hb, hF⟩, hce, hcv, hcl, st⟩
  · cases hv
    obtain ⟨k1, k2, k3⟩ := vx_keep h0 e1 hS hA hf hL hF
    obtain ⟨t2, a1, b1⟩ := kk r u t T'.heap (locs ++ L) e1.symm (by rw [← e2]; exact X'.warmed.alike) hp hb k1 k2 k3 T' rfl X'
    exact ⟨t2, st t2 a1, b1⟩
  · obtain ⟨k1, k2, k3⟩ := vx_keep h0 e1 hS hAX hf hL hF
    obtain ⟨t2, a1, b1⟩ := kx E ce q u t T'.heap (locs ++ L) e1.symm (by rw [← e2]; exact X'.warmed.alike) hp hb k1 k2 k3 (by rw [e1]; exact hce) hcv hcl T' rfl X'
    exact ⟨t2, st.trans a1, b1⟩
theorem vx_callf {S SX : Type} {post : UInt32 → S → Prop} {px : SX → Prop} {B : S → State → Prop} {BX : String → SX → State → Prop} {AX : Nat → Prop} (hr : vx_Run p l e R s m args below meth c H locs cells slots mc ms (F0 m pc ls st0) rest (va_Qf post B A1 a) (vx_X px BX AX) free) (hS : va_S A0 H0 H locs) (hA : ∀ q, q < H.size → A1 q → A0 q) (hf : ∀ q, free q → A0 q) (hAX : ∀ q, q < H.size → AX q → A0 q)
    (kx : ∀ (E : String) (ce : Cell) (q9 : Addr) (u : SX) (t : State) (H1 : Heap) (locs1 : List Loc), t.heap = H1 → s.vm.Alike t.vm → px u → BX E u t → H.size ≤ H1.size → (∀ q : Nat, q < H.size → ¬ AX q → H1[q]? = H[q]?) → va_S A0 H0 H1 locs1 → H1[q9]? = some ce → ce.vm = .none → s.vm.findClass E = some ce.cls → vx_W p l e R s m args below meth c H1 locs1 (cells + mc) (slots + ms) Q (F0 m pc ls rest) q9)
    (kk : ∀ (r : UInt32) (u : S) (t : State) (H1 : Heap) (locs1 : List Loc), t.heap = H1 → s.vm.Alike t.vm → post r u → B u t → H.size ≤ H1.size → (∀ q : Nat, q < H.size → ¬ A1 q → H1[q]? = H[q]?) → va_S A0 H0 H1 locs1 → W p l e R s m args below meth c H1 locs1 (cells + mc) (slots + ms) Q (F0 m (pc + 3) ls (.float r :: rest))) : W p l e R s m args below meth c H locs cells slots Q (F0 m pc ls st0) := by
  intro T hT X
  rcases hr T hT X with ⟨v, st₀, t, T', L, h0, X', hL, e1, e2, ⟨⟨r, u, hv, hp, hb⟩, hF⟩, st⟩ | ⟨q, st₀, t, T', L, E, ce, h0, X', hL, e1, e2, ⟨u, hp, hb, hF⟩, hce, hcv, hcl, st⟩
  · cases hv
    obtain ⟨k1, k2, k3⟩ := vx_keep h0 e1 hS hA hf hL hF
    obtain ⟨t2, a1, b1⟩ := kk r u t T'.heap (locs ++ L) e1.symm (by rw [← e2]; exact X'.warmed.alike) hp hb k1 k2 k3 T' rfl X'
    exact ⟨t2, st t2 a1, b1⟩
  · obtain ⟨k1, k2, k3⟩ := vx_keep h0 e1 hS hAX hf hL hF
    obtain ⟨t2, a1, b1⟩ := kx E ce q u t T'.heap (locs ++ L) e1.symm (by rw [← e2]; exact X'.warmed.alike) hp hb k1 k2 k3 (by rw [e1]; exact hce) hcv hcl T' rfl X'
    exact ⟨t2, st.trans a1, b1⟩
theorem vx_calld {S SX : Type} {post : UInt64 → S → Prop} {px : SX → Prop} {B : S → State → Prop} {BX : String → SX → State → Prop} {AX : Nat → Prop} (hr : vx_Run p l e R s m args below meth c H locs cells slots mc ms (F0 m pc ls st0) rest (va_Qd post B A1 a) (vx_X px BX AX) free) (hS : va_S A0 H0 H locs) (hA : ∀ q, q < H.size → A1 q → A0 q) (hf : ∀ q, free q → A0 q) (hAX : ∀ q, q < H.size → AX q → A0 q)
    (kx : ∀ (E : String) (ce : Cell) (q9 : Addr) (u : SX) (t : State) (H1 : Heap) (locs1 : List Loc), t.heap = H1 → s.vm.Alike t.vm → px u → BX E u t → H.size ≤ H1.size → (∀ q : Nat, q < H.size → ¬ AX q → H1[q]? = H[q]?) → va_S A0 H0 H1 locs1 → H1[q9]? = some ce → ce.vm = .none → s.vm.findClass E = some ce.cls → vx_W p l e R s m args below meth c H1 locs1 (cells + mc) (slots + ms) Q (F0 m pc ls rest) q9)
    (kk : ∀ (r : UInt64) (u : S) (t : State) (H1 : Heap) (locs1 : List Loc), t.heap = H1 → s.vm.Alike t.vm → post r u → B u t → H.size ≤ H1.size → (∀ q : Nat, q < H.size → ¬ A1 q → H1[q]? = H[q]?) → va_S A0 H0 H1 locs1 → W p l e R s m args below meth c H1 locs1 (cells + mc) (slots + ms) Q (F0 m (pc + 3) ls (.double r :: rest))) : W p l e R s m args below meth c H locs cells slots Q (F0 m pc ls st0) := by
  intro T hT X
  rcases hr T hT X with ⟨v, st₀, t, T', L, h0, X', hL, e1, e2, ⟨⟨r, u, hv, hp, hb⟩, hF⟩, st⟩ | ⟨q, st₀, t, T', L, E, ce, h0, X', hL, e1, e2, ⟨u, hp, hb, hF⟩, hce, hcv, hcl, st⟩
  · cases hv
    obtain ⟨k1, k2, k3⟩ := vx_keep h0 e1 hS hA hf hL hF
    obtain ⟨t2, a1, b1⟩ := kk r u t T'.heap (locs ++ L) e1.symm (by rw [← e2]; exact X'.warmed.alike) hp hb k1 k2 k3 T' rfl X'
    exact ⟨t2, st t2 a1, b1⟩
  · obtain ⟨k1, k2, k3⟩ := vx_keep h0 e1 hS hAX hf hL hF
    obtain ⟨t2, a1, b1⟩ := kx E ce q u t T'.heap (locs ++ L) e1.symm (by rw [← e2]; exact X'.warmed.alike) hp hb k1 k2 k3 (by rw [e1]; exact hce) hcv hcl T' rfl X'
    exact ⟨t2, st.trans a1, b1⟩
theorem vx_callv {S SX : Type} {post : S → Prop} {px : SX → Prop} {B : S → State → Prop} {BX : String → SX → State → Prop} {AX : Nat → Prop} (hr : vx_Run p l e R s m args below meth c H locs cells slots mc ms (F0 m pc ls st0) rest (va_Qv post B A1 a) (vx_X px BX AX) free) (hS : va_S A0 H0 H locs) (hA : ∀ q, q < H.size → A1 q → A0 q) (hf : ∀ q, free q → A0 q) (hAX : ∀ q, q < H.size → AX q → A0 q)
    (kx : ∀ (E : String) (ce : Cell) (q9 : Addr) (u : SX) (t : State) (H1 : Heap) (locs1 : List Loc), t.heap = H1 → s.vm.Alike t.vm → px u → BX E u t → H.size ≤ H1.size → (∀ q : Nat, q < H.size → ¬ AX q → H1[q]? = H[q]?) → va_S A0 H0 H1 locs1 → H1[q9]? = some ce → ce.vm = .none → s.vm.findClass E = some ce.cls → vx_W p l e R s m args below meth c H1 locs1 (cells + mc) (slots + ms) Q (F0 m pc ls rest) q9)
    (kk : ∀ (u : S) (t : State) (H1 : Heap) (locs1 : List Loc), t.heap = H1 → s.vm.Alike t.vm → post u → B u t → H.size ≤ H1.size → (∀ q : Nat, q < H.size → ¬ A1 q → H1[q]? = H[q]?) → va_S A0 H0 H1 locs1 → W p l e R s m args below meth c H1 locs1 (cells + mc) (slots + ms) Q (F0 m (pc + 3) ls (rest))) : W p l e R s m args below meth c H locs cells slots Q (F0 m pc ls st0) := by
  intro T hT X
  rcases hr T hT X with ⟨v, st₀, t, T', L, h0, X', hL, e1, e2, ⟨⟨u, hv, hp, hb⟩, hF⟩, st⟩ | ⟨q, st₀, t, T', L, E, ce, h0, X', hL, e1, e2, ⟨u, hp, hb, hF⟩, hce, hcv, hcl, st⟩
  · cases hv
    obtain ⟨k1, k2, k3⟩ := vx_keep h0 e1 hS hA hf hL hF
    obtain ⟨t2, a1, b1⟩ := kk u t T'.heap (locs ++ L) e1.symm (by rw [← e2]; exact X'.warmed.alike) hp hb k1 k2 k3 T' rfl X'
    exact ⟨t2, st t2 a1, b1⟩
  · obtain ⟨k1, k2, k3⟩ := vx_keep h0 e1 hS hAX hf hL hF
    obtain ⟨t2, a1, b1⟩ := kx E ce q u t T'.heap (locs ++ L) e1.symm (by rw [← e2]; exact X'.warmed.alike) hp hb k1 k2 k3 (by rw [e1]; exact hce) hcv hcl T' rfl X'
    exact ⟨t2, st.trans a1, b1⟩
/-- caught by the row x of this method's table; the rows ahead don't take it -/
theorem vx_catch {own name : String} {E : String} {ce : Cell} {q : Addr} (hown : s.vm.findClass own = some m.cls) (pre : List ExceptionTableEntry) (x : ExceptionTableEntry) (suf : List ExceptionTableEntry) (hsplit : c.exceptionTable.toList = pre ++ x :: suf)
    (hpass : ∀ z ∈ pre, covers z pc = false ∨ (z.catchType ≠ 0 ∧ ∃ nm : String, (Cond.classLink own z.catchType nm).before args s = true ∧ va_Nc E nm s)) (hx : covers x pc = true) (h0 : x.catchType ≠ 0)
    (hlink : (Cond.classLink own x.catchType name).before args s = true) (hcast : (Cond.castable E name).before args s = true) (hcell : H[q]? = some ce) (hv : ce.vm = .none) (hcl : s.vm.findClass E = some ce.cls)
    (kk : W p l e R s m args below meth c H locs cells slots Q (F0 m x.handlerPc ls [.ref q])) : vx_W p l e R s m args below meth c H locs cells slots Q (F0 m pc ls rest) q := by
  intro T hT X
  have hpl : e.platform.magicAccessors = ({} : Platform).magicAccessors := by rw [X.admits.platform]
  obtain ⟨c3, c4, hc3, hc4, hasg⟩ := Cond.castable_spec hcast
  cases Option.some.inj (hc3.symm.trans hcl)
  obtain ⟨c5, hc5, hcl5⟩ := Cond.classLink_spec hown hlink e.platform hpl
  cases Option.some.inj (hc4.symm.trans hc5)
  obtain ⟨vm', X', st⟩ := X.thenCaughtThrough q (g := F0 m pc ls rest) rfl (Steps.refl _) (by rw [hT]; exact hcell) (by rw [hv]; rfl) (by obtain ⟨k9, h9, -⟩ := Vm.findClass_spec hcl; exact ⟨k9, h9⟩) pre x suf hsplit
    (fun z hz => by
      rcases hpass z hz with h | ⟨hz0, nm, hl1, hn1⟩
      · exact Or.inl h
      · obtain ⟨c6, hc6, hcl6⟩ := Cond.classLink_spec hown hl1 e.platform hpl
        obtain ⟨a8, b8, h1, h2, h3⟩ := hn1
        cases Option.some.inj (h1.symm.trans hcl)
        cases Option.some.inj (h2.symm.trans hc6)
        exact Or.inr ⟨hz0, _, hcl6, h3⟩) hx (Or.inr ⟨h0, c4, hcl5, hasg⟩)
  obtain ⟨t, a1, b1⟩ := kk (T.setVm vm') hT X'
  exact ⟨t, st.trans a1, b1⟩
end Rows
section Ends
variable {p : Program} {l : Launch} {e : Env} {R : Room} {s : State} {m : MethodId} {args : Array Value} {below : List Frame} {meth : Method} {c : Code} {H : Heap} {locs : List Loc} {cells slots : Nat} {Q : State → Prop}
variable {mc ms : Nat} {free : Addr → Prop} {A0 A1 : Nat → Prop} {H0 : Heap} {a : Array Value} {ls : Array Slot} {st0 rest : List Value}
variable {Qc : Array Value → State → Outcome → State → Prop} {XC : String → State → State → Prop}
/-- what a body that may throw owes at its end -/
def vx_MQ (below : List Frame) (Qc : Array Value → State → Outcome → State → Prop) (XC : String → State → State → Prop) (a : Array Value) (s : State) (mc ms : Nat) (free : Addr → Prop) : State → Prop := fun t =>
  ∃ o, t.status = .running ∧ Ended t below o ∧ vx_Q Qc XC mc ms free a s o t
theorem vx_ret {g : JFrame} {mc ms : Nat} (k : W p l e R s m args below meth c H locs cells slots (MQ below Qc args s mc ms free) g) : W p l e R s m args below meth c H locs cells slots (vx_MQ below Qc XC args s mc ms free) g := by
  intro T hT X
  obtain ⟨t, a1, o, b1, b2, b3, b4⟩ := k T hT X
  exact ⟨t, a1, o, b1, b2, Or.inl ⟨b3, b4⟩⟩
/-- not caught here: it goes on to the caller -/
theorem vx_widen {g : JFrame} {q : Addr} {k n : Nat} (h1 : cells ≤ k) (h2 : slots ≤ n) (kk : vx_W p l e R s m args below meth c H locs k n Q g q) : vx_W p l e R s m args below meth c H locs cells slots Q g q := fun T hT X => kk T hT (stand_widen X h1 h2)
theorem vx_out {pc : Nat} {E : String} {ce : Cell} {q : Addr} {mc ms : Nat} (hout : ∀ x ∈ c.exceptionTable.toList, covers x pc = false) (hlocks : meth.locks = false) (hcell : H[q]? = some ce) (hv : ce.vm = .none) (hcl : s.vm.findClass E = some ce.cls)
    (hx : ∀ t : State, t.heap = H → s.vm.Alike t.vm → XC E s t) (hf : ∀ z ∈ locs, free z.base) (hc : cells ≤ mc) (hs : slots ≤ ms) :
    vx_W p l e R s m args below meth c H locs cells slots (vx_MQ below Qc XC args s mc ms free) (F0 m pc ls rest) q := by
  intro T hT X
  obtain ⟨st1, hrun, hend, hW, hsm⟩ := X.leaveThrown q (g := F0 m pc ls rest) rfl rfl rfl hout hlocks
  have hcell9 : (T.setFrames (.throwing q :: below)).heap[q]? = some ce := by
    show T.heap[q]? = some ce
    rw [hT]; exact hcell
  exact ⟨_, st1, .threw q, hrun, hend, Or.inr ⟨q, rfl, E, ce, locs, hx _ hT hW.alike, hcell9, hv, hcl, hW, hsm.mono hc hs, hf⟩⟩
theorem vx_frame {U : State} {k n : Nat} (h : s.sameButNew ({ U with vm := s.vm } : State) locs k n) : s.heap.size ≤ U.heap.size ∧ ∀ q : Nat, q < s.heap.size → (∀ z ∈ locs, z.base ≠ q) → U.heap[q]? = s.heap[q]? := by
  obtain ⟨-, h2, -, -, -, h6⟩ := h
  refine ⟨h2, fun q hq hz => ?_⟩
  obtain ⟨c9, e1, e2, e3, e4⟩ := h6 q _ (Array.getElem?_eq_getElem hq)
  have hs : c9.slots = (s.heap[q]).slots := Array.ext_getElem? fun i => e4 i fun hm => hz _ hm rfl
  have h9 : c9 = s.heap[q] := by
    rw [hs] at e2
    exact e2
  have e5 : U.heap[q]? = some c9 := e1
  rw [e5, h9, Array.getElem?_eq_getElem hq]
/-- the words of a throw but the four that speak of the heap -/
def vx_no (w : Cond) : Bool := decide (w ≠ .isRef (.static Bundle.tN "UNASSIGNED_STACK" Bundle.steD)) && decide (w ≠ .isRef (.static Bundle.tN "SUPPRESSED_SENTINEL" Bundle.listD)) && decide (w ≠ .laysStatic Bundle.tN "UNASSIGNED_STACK" Bundle.steD) && decide (w ≠ .laysStatic Bundle.tN "SUPPRESSED_SENTINEL" Bundle.listD)
def vx_at0 (own : String) (ic : Nat) (X : String) (names : List String) : List Cond := (Bundle.ownAtoms0 own ic X names).filter vx_no
def vx_atS (own : String) (ic : Nat) (X : String) (names : List String) : List Cond := (Bundle.ownAtoms own ic X names).filter vx_no
/-- a word that the tables alone decide, or a good one -/
def vx_ot (w : Cond) : Bool := w.onTables || goodWord w
theorem vx_ot_at {args a' : Array Value} {s U : State} {w : Cond} (hW : s.WarmedH U.vm) (hvm : s.vm = U.vm) (hg : vx_ot w = true) (h : w.before args s = true) : w.before a' U = true := by
  simp only [vx_ot, Bool.or_eq_true] at hg
  rcases hg with hg | hg
  · exact va_tabs hg hvm h
  · exact word_at hW (good_of_word hg) h
/-- a list's words: the good ones out of the method's own list, the others by premises of their own -/
theorem vx_hat {args : Array Value} {s : State} {L B : List Cond} (h1 : ∀ w ∈ L.filter goodWord, w.before args s = true) (h2 : ∀ w ∈ L.filter (fun w => !goodWord w), w ∈ B) (h3 : ∀ w ∈ B, w.before args s = true) : ∀ w ∈ L, w.before args s = true := by
  intro w hw
  by_cases g : goodWord w = true
  · exact h1 w (List.mem_filter.mpr ⟨hw, g⟩)
  · refine h3 w (h2 w (List.mem_filter.mpr ⟨hw, ?_⟩))
    show (!goodWord w) = true
    cases hgw : goodWord w
    · rfl
    · exact absurd hgw g
theorem vx_c {args : Array Value} {s : State} {w : Cond} {B : List Cond} (h : w.before args s = true) (t : ∀ w ∈ B, w.before args s = true) : ∀ w' ∈ w :: B, w'.before args s = true := fun w' h' => (List.mem_cons.mp h').elim (fun e => by rw [e]; exact h) (t w')
theorem vx_n {args : Array Value} {s : State} : ∀ w ∈ ([] : List Cond), w.before args s = true := fun _ h => nomatch h
theorem vx_own {args : Array Value} {s : State} {L : List Cond} (h1 : ∀ w ∈ L.filter vx_no, w.before args s = true)
    (hU : (Cond.isRef (.static Bundle.tN "UNASSIGNED_STACK" Bundle.steD)).before args s = true) (hN : (Cond.isRef (.static Bundle.tN "SUPPRESSED_SENTINEL" Bundle.listD)).before args s = true)
    (lU : (Cond.laysStatic Bundle.tN "UNASSIGNED_STACK" Bundle.steD).before args s = true) (lN : (Cond.laysStatic Bundle.tN "SUPPRESSED_SENTINEL" Bundle.listD).before args s = true) : ∀ w ∈ L, w.before args s = true := by
  intro w hw
  by_cases e1 : w = .isRef (.static Bundle.tN "UNASSIGNED_STACK" Bundle.steD)
  · rw [e1]; exact hU
  · by_cases e2 : w = .isRef (.static Bundle.tN "SUPPRESSED_SENTINEL" Bundle.listD)
    · rw [e2]; exact hN
    · by_cases e3 : w = .laysStatic Bundle.tN "UNASSIGNED_STACK" Bundle.steD
      · rw [e3]; exact lU
      · by_cases e4 : w = .laysStatic Bundle.tN "SUPPRESSED_SENTINEL" Bundle.listD
        · rw [e4]; exact lN
        · exact h1 w (List.mem_filter.mpr ⟨hw, by unfold vx_no; rw [decide_eq_true e1, decide_eq_true e2, decide_eq_true e3, decide_eq_true e4]; rfl⟩)
/-- where a static field lies, its class's statics cell in H -/
def vx_L (C n d : String) (A : Nat → Prop) (U : State) (H : Heap) : Prop := ∃ (c : ClassId) (k : Class) (i : Nat) (f : Field) (a : Nat) (cell : Cell), U.vm.findClass C = some c ∧ U.fieldFound? C n d = some (c, k, i, f) ∧ f.isStatic = true ∧ k.statics = some a ∧ H[a]? = some cell ∧ cell.vm.isStatics = true ∧ cell.cls = c ∧ f.slot < cell.slots.size ∧ k.staticTypes[f.slot]? = some f.type ∧ ¬ A a
theorem vx_L.moved {C n d : String} {A : Nat → Prop} {u U : State} {H : Heap} (hvm : u.vm.Alike U.vm) (h : vx_L C n d A u H) : vx_L C n d A U H := by
  obtain ⟨c, k, i, f, a, cell, h1, h2, h3, h4, h5, h6, h7, h8, h9, h10⟩ := h
  obtain ⟨k', hi', he⟩ := State.fieldFound?_setVm hvm h2
  exact ⟨c, k', i, f, a, cell, by rw [hvm.findClass]; exact h1, hi', h3, by rw [he]; exact h4, h5, h6, h7, h8, by rw [he]; exact h9, h10⟩
theorem vx_L.kept {C n d : String} {A : Nat → Prop} {U : State} {H H1 : Heap} (h : vx_L C n d A U H) (hq : ∀ a : Nat, a < H.size → ¬ A a → H1[a]? = H[a]?) : vx_L C n d A U H1 := by
  obtain ⟨c, k, i, f, a, cell, h1, h2, h3, h4, h5, h6, h7, h8, h9, h10⟩ := h
  exact ⟨c, k, i, f, a, cell, h1, h2, h3, h4, by rw [hq a (Array.getElem?_eq_some_iff.mp h5).1 h10]; exact h5, h6, h7, h8, h9, h10⟩
theorem vx_L.narrow {C n d : String} {A B : Nat → Prop} {U : State} {H : Heap} (h : vx_L C n d A U H) (hAB : ∀ q, B q → A q) : vx_L C n d B U H := by
  obtain ⟨c, k, i, f, a, cell, h1, h2, h3, h4, h5, h6, h7, h8, h9, h10⟩ := h
  exact ⟨c, k, i, f, a, cell, h1, h2, h3, h4, h5, h6, h7, h8, h9, fun z => h10 (hAB _ z)⟩
theorem vx_L.word {C n d : String} {A : Nat → Prop} {s : State} {args : Array Value} (h : vx_L C n d A s s.heap) : (Cond.laysStatic C n d).before args s = true := by
  obtain ⟨c, k, i, f, a, cell, h1, h2, h3, h4, h5, h6, h7, h8, h9, -⟩ := h
  show (Cond.laysStatic C n d).holds args s none s [] = true
  exact Cond.laysStatic_of h1 h2 h3 h4 h5 h6 h7 h8 h9
/-- .. and what it holds: null or some reference -/
def vx_Zq (C n d : String) (A : Nat → Prop) (U : State) (H : Heap) : Prop := va_Zq C n d A U H ∧ vx_L C n d A U H
theorem vx_Zq.moved {C n d : String} {A : Nat → Prop} {u U : State} {H : Heap} (hvm : u.vm.Alike U.vm) (h : vx_Zq C n d A u H) : vx_Zq C n d A U H := ⟨va_Zq.moved hvm h.1, vx_L.moved hvm h.2⟩
theorem vx_Zq.kept {C n d : String} {A : Nat → Prop} {U : State} {H H1 : Heap} (h : vx_Zq C n d A U H) (hq : ∀ a : Nat, a < H.size → ¬ A a → H1[a]? = H[a]?) : vx_Zq C n d A U H1 := ⟨va_Zq.kept h.1 hq, vx_L.kept h.2 hq⟩
theorem vx_Zq.narrow {C n d : String} {A B : Nat → Prop} {U : State} {H : Heap} (h : vx_Zq C n d A U H) (hAB : ∀ q, B q → A q) : vx_Zq C n d B U H := ⟨va_Zq.narrow h.1 hAB, vx_L.narrow h.2 hAB⟩
theorem vx_Zqof {args : Array Value} {s : State} {C n d : String} {A : Nat → Prop} (hl : (Cond.laysStatic C n d).before args s = true) (hini : (Cond.initialized C).before args s = true) (h : (Cond.isRef (.static C n d)).before args s = true) (hA : ∀ a : Nat, a < s.heap.size → ¬ A a) : vx_Zq C n d A s s.heap := by
  refine ⟨va_Zqof hl hini h hA, ?_⟩
  obtain ⟨c, k, i, f, a, cell, h1, h2, h3, h4, h5, h6, h7, h8, h9⟩ := Cond.laysStatic_spec hl
  exact ⟨c, k, i, f, a, cell, h1, h2, h3, h4, h5, h6, h7, h8, h9, hA a (Array.getElem?_eq_some_iff.mp h5).1⟩
theorem vx_isRef {C n d : String} {v : Value} {A : Nat → Prop} {s : State} {args : Array Value} (h : va_Z C n d v A s s.heap) (hv : v.isRef = true) : (Cond.isRef (.static C n d)).before args s = true := by
  obtain ⟨cf, kf, fi, f, a, cell, h1, h2, h3, h4, h5, h6, h7, -⟩ := h
  have he : (Term.static C n d).eval args s none [] s = some v := by
    simp [Term.eval, State.fieldNamed?, h1, h2, h4, h5, h6, h7]
  simp only [Cond.before, Cond.holds, Cond.value, he]
  cases v <;> simp_all [Value.isRef]
theorem vx_isRefq {C n d : String} {A : Nat → Prop} {s : State} {args : Array Value} (h : va_Zq C n d A s s.heap) : (Cond.isRef (.static C n d)).before args s = true := by
  rcases h with h | ⟨t, h⟩
  · exact vx_isRef h rfl
  · exact vx_isRef h rfl
/-- the same frame, seen from here: as if the method were called anew in this heap -/
theorem vx_rebase {T : State} (X : Stand p l e R s m args below meth c T locs cells slots) {R' : Room} (hf : R'.frames ≤ R.frames) (hl : R'.locals ≤ R.locals) (hc : cells + R'.cells ≤ R.cells) (hs : slots + R'.slots ≤ R.slots) :
    Stand p l e R' ((T.setVm s.vm).setFrames (.invoking m args :: below)) m args below meth c T [] 0 0 := by
  have htop : (T.setVm s.vm).topJava?.isSome := X.here.top
  have hF : ((T.setVm s.vm).setFrames (.invoking m args :: below)).frames = .invoking m args :: below := State.frames_setFrames _ (State.cur_lt_of_top htop)
  obtain ⟨g₀, hg0⟩ := Option.isSome_iff_exists.mp htop
  obtain ⟨r, hr⟩ := State.topJava?_eq_some.mp hg0
  have hl9 : e.platform.stackLimits (T.setVm s.vm).me = e.platform.stackLimits s.me := X.limits
  have hb9 : (T.setVm s.vm).me.stackBytes = s.me.stackBytes := X.bytes
  refine ⟨X.admits, X.cas, X.clock, hF, ?_, X.hears, X.method, X.code, X.here, X.tail, X.warmed, ?_, ?_, ?_⟩
  · have h := X.room
    have hU : ((T.setVm s.vm).setFrames (.invoking m args :: below)).localsInUse = s.localsInUse := by
      rw [State.localsInUse_invoking hF (meth := meth) (c := c) X.method X.code, State.localsInUse_invoking X.frames X.method X.code]
    simp only [State.hasRoom, Bool.and_eq_true, decide_eq_true_eq] at h ⊢
    obtain ⟨⟨⟨⟨h1, h2, h3, h4, h5, h6⟩, h7⟩, h8⟩, h9⟩ := h
    rw [X.frames, List.length_cons] at h2 h3
    have q1 := X.heapSize
    have q2 := X.used
    simp only [hF, hU, List.length_cons, State.stackLimits_setFrames, State.stackBytes_setFrames, hl9, hb9]
    refine ⟨⟨⟨⟨by omega, by omega, by omega, by omega, by omega, h6⟩, ?_⟩, ?_⟩, X.book⟩
    · show T.heap.size + R'.cells ≤ e.platform.maxCells
      omega
    · show T.slotsUsed + R'.slots ≤ e.platform.maxSlots
      omega
  · rw [State.stackLimits_setFrames]; rfl
  · rw [State.stackBytes_setFrames]; rfl
  · refine ⟨?_, Nat.le_refl _, Nat.le_refl _, ?_, ?_, fun a c9 h9 => ⟨c9, h9, rfl, rfl, fun _ _ => rfl⟩⟩
    · obtain ⟨t, ht, -⟩ := State.frames_cons hr
      show T.setVm s.vm = { ((T.setVm s.vm).setFrames (.invoking m args :: below)).setFrames (T.setVm s.vm).frames with heap := T.heap, slotsUsed := T.slotsUsed }
      rw [State.setFrames_setFrames, State.setFrames_self ht]
      rfl
    · show T.slotsUsed = T.slotsUsed + ((T.heap.toList.drop T.heap.size).map (·.slots.size)).sum
      rw [List.drop_eq_nil_of_le (Nat.le_of_eq Array.length_toList)]
      rfl
    · show ((T.heap.toList.drop T.heap.size).map (·.slots.size)).sum ≤ 0
      rw [List.drop_eq_nil_of_le (Nat.le_of_eq Array.length_toList)]
      exact Nat.le_refl _
/-- 'throw new E()': new; dup; invokespecial; athrow -/
theorem vx_throw0 {cc : ByteArray} {pc : Nat} (hexec : p.tables.exec = Jvm.exec) (hb : c.code = cc) (hl : l.stackTraces = false) {own cls : String} {names : List String} {ik ic mc ms : Nat} {A : Nat → Prop}
    (hown : s.vm.findClass own = some m.cls) (hcls : Bundle.fit cls = true) (hnames : ∀ n ∈ names, Bundle.fit n = true)
    (hk : (Cond.classLink own ik cls).before args s = true) (hini : (Cond.initialized cls).before args s = true) (hat : ∀ w ∈ vx_at0 own ic cls names, w.before args s = true)
    (hgood : ∀ w ∈ Cond.classLink own ik cls :: Cond.initialized cls :: vx_at0 own ic cls names, vx_ot w = true)
    (hU : vx_Zq Bundle.tN "UNASSIGNED_STACK" Bundle.steD A s s.heap) (hN : vx_Zq Bundle.tN "SUPPRESSED_SENTINEL" Bundle.listD A s s.heap) (hS : va_S A s.heap H locs) (hsize : ls.size = c.maxLocals)
    (d0 : decode cc pc = .ok (.new ik, 3)) (d3 : decode cc (pc + 3) = .ok (.dup, 1)) (d4 : decode cc (pc + 4) = .ok (.invokespecial ic, 3)) (d7 : decode cc (pc + 7) = .ok (.athrow, 1))
    (hout : ∀ x ∈ c.exceptionTable.toList, covers x (pc + 7) = false)
    (hRframes : names.length + 3 < R.frames) (hRlocals : (rest.map fun v => v.category).sum + (13 * (names.length + 1) + 42) ≤ R.locals) (hRcells : cells + 1 ≤ R.cells) (hRslots : slots + 6 ≤ R.slots) (hlocks : meth.locks = false)
    (hx : ∀ t : State, s.vm.Alike t.vm → H.size ≤ t.heap.size → (∀ q : Nat, q < H.size → t.heap[q]? = H[q]?) → XC cls s t)
    (hf : ∀ z ∈ locs, free z.base) (hc : cells + 1 ≤ mc) (hs : slots + 6 ≤ ms) :
    W p l e R s m args below meth c H locs cells slots (vx_MQ below Qc XC args s mc ms free) (F0 m pc ls rest) := by
  intro T hT X
  have htr : e.platform.stackTraces = false := (show e.platform.stackTraces = l.stackTraces by rw [X.admits.platform]).trans hl
  have Y := vx_rebase X (R' := { frames := R.frames, locals := R.locals, cells := 1, slots := 6 }) (Nat.le_refl _) (Nat.le_refl _) hRcells hRslots
  obtain ⟨s', hA⟩ : ∃ z, z = (T.setVm s.vm).setFrames (.invoking m args :: below) := ⟨_, rfl⟩
  rw [← hA] at Y
  have hvm : s'.vm = s.vm := by rw [hA]; rfl
  have hhp : s'.heap = H := by rw [hA]; exact hT
  have hW0 : s.WarmedH s'.vm := by rw [hvm]; exact State.WarmedH.refl s
  have hat' : ∀ w ∈ vx_at0 own ic cls names, w.before args s' = true := fun w hw => vx_ot_at hW0 hvm.symm (hgood w (List.mem_cons_of_mem _ (List.mem_cons_of_mem _ hw))) (hat w hw)
  have hk' : (Cond.classLink own ik cls).before args s' = true := vx_ot_at hW0 hvm.symm (hgood _ List.mem_cons_self) hk
  have hini' : (Cond.initialized cls).before args s' = true := vx_ot_at hW0 hvm.symm (hgood _ (List.mem_cons_of_mem _ List.mem_cons_self)) hini
  have hU' : vx_Zq Bundle.tN "UNASSIGNED_STACK" Bundle.steD A s' s'.heap := by rw [hhp]; exact vx_Zq.moved hW0.alike (hU.kept hS.2.1)
  have hN' : vx_Zq Bundle.tN "SUPPRESSED_SENTINEL" Bundle.listD A s' s'.heap := by rw [hhp]; exact vx_Zq.moved hW0.alike (hN.kept hS.2.1)
  have h : ∀ w ∈ Bundle.ownAtoms0 own ic cls names, w.before args s' = true := vx_own hat' (vx_isRefq hU'.1) (vx_isRefq hN'.1) hU'.2.word hN'.2.word
  have hown' : s'.vm.findClass own = some m.cls := by rw [hvm]; exact hown
  have hins : (Cond.instantiable cls 6).before args s' = true := h _ (by simp [Bundle.ownAtoms0])
  obtain ⟨vm₁, cX, kX, hfX, hkX, -, -, X₁, st1⟩ := Y.newCold hexec (own := own) (C := cls) (index := ik) (n := 6) hown' hk' hins hini'
    (g := F0 m pc ls rest) rfl (by rw [hb]; exact d0) (Nat.le_refl _) (Nat.le_refl _)
  generalize hT1 : (T.setVm vm₁).pushCell { cls := cX, slots := kX.instanceTypes.map defaultValue, vm := .none } = T1 at X₁ st1
  have hcat : (Value.ref T.heap.size).category = 1 := rfl
  have hcellA : T1.heap[T.heap.size]? = some (freshCell cX kX) := by rw [← hT1]; exact State.heap_pushCell_size _ _
  have d3' : decode c.code (pc + 3) = .ok (.dup, 1) := by rw [hb]; exact d3
  obtain ⟨U, hsteps, hrun, hend, hW, hsame, ce, hce, hO⟩ := X₁.ctorThrow0 hexec htr (own := own) (cls := cls) (names := names) (ic := ic) hown' hcls hnames h (fun x hx => nomatch hx) hfX hkX hcellA (by rw [hhp, hT]; exact Nat.le_refl _)
    (g := { method := m, pc := pc + 4, locals := ls, stack := .ref T.heap.size :: .ref T.heap.size :: rest, locked := none }) rfl hsize rfl rfl (rest := rest) rfl
    (by rw [hb]; exact d4) (by rw [hb]; exact d7) hout hRframes (by simp only [List.map_cons, List.sum_cons, hcat]; omega) hlocks
  obtain ⟨f1, f2⟩ := vx_frame hsame
  rw [hhp] at f1 f2
  have hWs : s.WarmedH U.vm := State.WarmedH.trans hW0 hW
  have hcl : s.vm.findClass cls = some ce.cls := by
    have h9 := hO.cls
    rw [hvm] at h9
    exact h9
  have hall : s.sameButNew ({ U with vm := s.vm } : State) locs mc ms := by
    subst hA
    obtain ⟨e1, e2⟩ := hsame
    rw [State.setFrames_setFrames] at e1
    have h2 : (T.setVm s.vm).sameButNew ({ U with vm := s.vm } : State) [] (0 + 1) (0 + 6) := ⟨e1, e2⟩
    have h3 := X.same.trans h2
    rw [List.append_nil] at h3
    exact h3.mono hc hs
  refine ⟨U, ?_, .threw T.heap.size, hrun, hend, Or.inr ⟨T.heap.size, rfl, cls, ce, locs, hx U hWs.alike f1 (fun q hq => f2 q hq (fun z hz => nomatch hz)), hce, hO.vm, hcl, hWs, hall, hf⟩⟩
  refine st1 _ ?_
  show Steps p.tables e below (T1.setTop { method := m, pc := pc + 3, locals := ls, stack := .ref T.heap.size :: rest, locked := none }) _
  jvm_step X₁.here [X₁.here.top, hexec, d3', Value.category]
  exact hsteps
/-- 'throw new E("text")': new; dup; ldc; invokespecial; athrow -/
theorem vx_throwS {cc : ByteArray} {pc : Nat} (hexec : p.tables.exec = Jvm.exec) (hb : c.code = cc) (hl : l.stackTraces = false) {own cls text : String} {names : List String} {ik is ic mc ms sa : Nat} {A : Nat → Prop}
    (hown : s.vm.findClass own = some m.cls) (hcls : Bundle.fit cls = true) (hnames : ∀ n ∈ names, Bundle.fit n = true)
    (hk : (Cond.classLink own ik cls).before args s = true) (hini : (Cond.initialized cls).before args s = true) (hstr : vk_R own is text sa s) (hat : ∀ w ∈ vx_atS own ic cls names, w.before args s = true)
    (hgood : ∀ w ∈ Cond.classLink own ik cls :: Cond.initialized cls :: vx_atS own ic cls names, vx_ot w = true)
    (hU : vx_Zq Bundle.tN "UNASSIGNED_STACK" Bundle.steD A s s.heap) (hN : vx_Zq Bundle.tN "SUPPRESSED_SENTINEL" Bundle.listD A s s.heap) (hS : va_S A s.heap H locs) (hsize : ls.size = c.maxLocals)
    (d0 : decode cc pc = .ok (.new ik, 3)) (d3 : decode cc (pc + 3) = .ok (.dup, 1)) (d4 : decode cc (pc + 4) = .ok (.ldc is, 2)) (d6 : decode cc (pc + 6) = .ok (.invokespecial ic, 3)) (d9 : decode cc (pc + 9) = .ok (.athrow, 1))
    (hout : ∀ x ∈ c.exceptionTable.toList, covers x (pc + 9) = false)
    (hRframes : names.length + 3 < R.frames) (hRlocals : (rest.map fun v => v.category).sum + (13 * (names.length + 1) + 43) ≤ R.locals) (hRcells : cells + 1 ≤ R.cells) (hRslots : slots + 6 ≤ R.slots) (hlocks : meth.locks = false)
    (hx : ∀ t : State, s.vm.Alike t.vm → H.size ≤ t.heap.size → (∀ q : Nat, q < H.size → t.heap[q]? = H[q]?) → XC cls s t)
    (hf : ∀ z ∈ locs, free z.base) (hc : cells + 1 ≤ mc) (hs : slots + 6 ≤ ms) :
    W p l e R s m args below meth c H locs cells slots (vx_MQ below Qc XC args s mc ms free) (F0 m pc ls rest) := by
  intro T hT X
  have htr : e.platform.stackTraces = false := (show e.platform.stackTraces = l.stackTraces by rw [X.admits.platform]).trans hl
  have Y := vx_rebase X (R' := { frames := R.frames, locals := R.locals, cells := 1, slots := 6 }) (Nat.le_refl _) (Nat.le_refl _) hRcells hRslots
  obtain ⟨s', hA⟩ : ∃ z, z = (T.setVm s.vm).setFrames (.invoking m args :: below) := ⟨_, rfl⟩
  rw [← hA] at Y
  have hvm : s'.vm = s.vm := by rw [hA]; rfl
  have hhp : s'.heap = H := by rw [hA]; exact hT
  have hW0 : s.WarmedH s'.vm := by rw [hvm]; exact State.WarmedH.refl s
  have hat' : ∀ w ∈ vx_atS own ic cls names, w.before args s' = true := fun w hw => vx_ot_at hW0 hvm.symm (hgood w (List.mem_cons_of_mem _ (List.mem_cons_of_mem _ hw))) (hat w hw)
  have hk' : (Cond.classLink own ik cls).before args s' = true := vx_ot_at hW0 hvm.symm (hgood _ List.mem_cons_self) hk
  have hini' : (Cond.initialized cls).before args s' = true := vx_ot_at hW0 hvm.symm (hgood _ (List.mem_cons_of_mem _ List.mem_cons_self)) hini
  have hU' : vx_Zq Bundle.tN "UNASSIGNED_STACK" Bundle.steD A s' s'.heap := by rw [hhp]; exact vx_Zq.moved hW0.alike (hU.kept hS.2.1)
  have hN' : vx_Zq Bundle.tN "SUPPRESSED_SENTINEL" Bundle.listD A s' s'.heap := by rw [hhp]; exact vx_Zq.moved hW0.alike (hN.kept hS.2.1)
  have h : ∀ w ∈ Bundle.ownAtoms own ic cls names, w.before args s' = true := vx_own hat' (vx_isRefq hU'.1) (vx_isRefq hN'.1) hU'.2.word hN'.2.word
  have hown' : s'.vm.findClass own = some m.cls := by rw [hvm]; exact hown
  have hins : (Cond.instantiable cls 6).before args s' = true := h _ (by simp [Bundle.ownAtoms])
  obtain ⟨vm₁, cX, kX, hfX, hkX, -, -, X₁, st1⟩ := Y.newCold hexec (own := own) (C := cls) (index := ik) (n := 6) hown' hk' hins hini'
    (g := F0 m pc ls rest) rfl (by rw [hb]; exact d0) (Nat.le_refl _) (Nat.le_refl _)
  generalize hT1 : (T.setVm vm₁).pushCell { cls := cX, slots := kX.instanceTypes.map defaultValue, vm := .none } = T1 at X₁ st1
  have hcat : (Value.ref T.heap.size).category = 1 := rfl
  have hcellA : T1.heap[T.heap.size]? = some (freshCell cX kX) := by rw [← hT1]; exact State.heap_pushCell_size _ _
  have d3' : decode c.code (pc + 3) = .ok (.dup, 1) := by rw [hb]; exact d3
  have d4' : decode c.code (pc + 4) = .ok (.ldc is, 2) := by rw [hb]; exact d4
  have hstr' : vk_R own is text sa s' := vk_R.warm hW0 hstr
  obtain ⟨U, hsteps, hrun, hend, hW, hsame, ce, hce, hO⟩ := X₁.ctorThrowS hexec htr (own := own) (cls := cls) (names := names) (ic := ic) hown' hcls hnames h (fun x hx => nomatch hx) hfX hkX hcellA (by rw [hhp, hT]; exact Nat.le_refl _) (msg := .ref sa) rfl
    (g := { method := m, pc := pc + 6, locals := ls, stack := .ref sa :: .ref T.heap.size :: .ref T.heap.size :: rest, locked := none }) rfl hsize rfl rfl (rest := rest) rfl
    (by rw [hb]; exact d6) (by rw [hb]; exact d9) hout hRframes (by simp only [List.map_cons, List.sum_cons, hcat]; omega) hlocks
  obtain ⟨f1, f2⟩ := vx_frame hsame
  rw [hhp] at f1 f2
  have hWs : s.WarmedH U.vm := State.WarmedH.trans hW0 hW
  have hcl : s.vm.findClass cls = some ce.cls := by
    have h9 := hO.cls
    rw [hvm] at h9
    exact h9
  have hall : s.sameButNew ({ U with vm := s.vm } : State) locs mc ms := by
    subst hA
    obtain ⟨e1, e2⟩ := hsame
    rw [State.setFrames_setFrames] at e1
    have h2 : (T.setVm s.vm).sameButNew ({ U with vm := s.vm } : State) [] (0 + 1) (0 + 6) := ⟨e1, e2⟩
    have h3 := X.same.trans h2
    rw [List.append_nil] at h3
    exact h3.mono hc hs
  refine ⟨U, ?_, .threw T.heap.size, hrun, hend, Or.inr ⟨T.heap.size, rfl, cls, ce, locs, hx U hWs.alike f1 (fun q hq => f2 q hq (fun z hz => nomatch hz)), hce, hO.vm, hcl, hWs, hall, hf⟩⟩
  refine st1 _ ?_
  show Steps p.tables e below (T1.setTop { method := m, pc := pc + 3, locals := ls, stack := .ref T.heap.size :: rest, locked := none }) _
  jvm_step X₁.here [X₁.here.top, hexec, d3', Value.category]
  exact X₁.ldcString hexec (own := own) (text := text) (index := is) (a := sa) hown' hstr'.1 hstr'.2
    (g := { method := m, pc := pc + 4, locals := ls, stack := .ref T.heap.size :: .ref T.heap.size :: rest, locked := none }) rfl d4' _ hsteps
/-- 'throw new E("text")', the text by a wide index -/
theorem vx_throwSW {cc : ByteArray} {pc : Nat} (hexec : p.tables.exec = Jvm.exec) (hb : c.code = cc) (hl : l.stackTraces = false) {own cls text : String} {names : List String} {ik is ic mc ms sa : Nat} {A : Nat → Prop}
    (hown : s.vm.findClass own = some m.cls) (hcls : Bundle.fit cls = true) (hnames : ∀ n ∈ names, Bundle.fit n = true)
    (hk : (Cond.classLink own ik cls).before args s = true) (hini : (Cond.initialized cls).before args s = true) (hstr : vk_R own is text sa s) (hat : ∀ w ∈ vx_atS own ic cls names, w.before args s = true)
    (hgood : ∀ w ∈ Cond.classLink own ik cls :: Cond.initialized cls :: vx_atS own ic cls names, vx_ot w = true)
    (hU : vx_Zq Bundle.tN "UNASSIGNED_STACK" Bundle.steD A s s.heap) (hN : vx_Zq Bundle.tN "SUPPRESSED_SENTINEL" Bundle.listD A s s.heap) (hS : va_S A s.heap H locs) (hsize : ls.size = c.maxLocals)
    (d0 : decode cc pc = .ok (.new ik, 3)) (d3 : decode cc (pc + 3) = .ok (.dup, 1)) (d4 : decode cc (pc + 4) = .ok (.ldc_w is, 3)) (d7 : decode cc (pc + 7) = .ok (.invokespecial ic, 3)) (d10 : decode cc (pc + 10) = .ok (.athrow, 1))
    (hout : ∀ x ∈ c.exceptionTable.toList, covers x (pc + 10) = false)
    (hRframes : names.length + 3 < R.frames) (hRlocals : (rest.map fun v => v.category).sum + (13 * (names.length + 1) + 43) ≤ R.locals) (hRcells : cells + 1 ≤ R.cells) (hRslots : slots + 6 ≤ R.slots) (hlocks : meth.locks = false)
    (hx : ∀ t : State, s.vm.Alike t.vm → H.size ≤ t.heap.size → (∀ q : Nat, q < H.size → t.heap[q]? = H[q]?) → XC cls s t)
    (hf : ∀ z ∈ locs, free z.base) (hc : cells + 1 ≤ mc) (hs : slots + 6 ≤ ms) :
    W p l e R s m args below meth c H locs cells slots (vx_MQ below Qc XC args s mc ms free) (F0 m pc ls rest) := by
  intro T hT X
  have htr : e.platform.stackTraces = false := (show e.platform.stackTraces = l.stackTraces by rw [X.admits.platform]).trans hl
  have Y := vx_rebase X (R' := { frames := R.frames, locals := R.locals, cells := 1, slots := 6 }) (Nat.le_refl _) (Nat.le_refl _) hRcells hRslots
  obtain ⟨s', hA⟩ : ∃ z, z = (T.setVm s.vm).setFrames (.invoking m args :: below) := ⟨_, rfl⟩
  rw [← hA] at Y
  have hvm : s'.vm = s.vm := by rw [hA]; rfl
  have hhp : s'.heap = H := by rw [hA]; exact hT
  have hW0 : s.WarmedH s'.vm := by rw [hvm]; exact State.WarmedH.refl s
  have hat' : ∀ w ∈ vx_atS own ic cls names, w.before args s' = true := fun w hw => vx_ot_at hW0 hvm.symm (hgood w (List.mem_cons_of_mem _ (List.mem_cons_of_mem _ hw))) (hat w hw)
  have hk' : (Cond.classLink own ik cls).before args s' = true := vx_ot_at hW0 hvm.symm (hgood _ List.mem_cons_self) hk
  have hini' : (Cond.initialized cls).before args s' = true := vx_ot_at hW0 hvm.symm (hgood _ (List.mem_cons_of_mem _ List.mem_cons_self)) hini
  have hU' : vx_Zq Bundle.tN "UNASSIGNED_STACK" Bundle.steD A s' s'.heap := by rw [hhp]; exact vx_Zq.moved hW0.alike (hU.kept hS.2.1)
  have hN' : vx_Zq Bundle.tN "SUPPRESSED_SENTINEL" Bundle.listD A s' s'.heap := by rw [hhp]; exact vx_Zq.moved hW0.alike (hN.kept hS.2.1)
  have h : ∀ w ∈ Bundle.ownAtoms own ic cls names, w.before args s' = true := vx_own hat' (vx_isRefq hU'.1) (vx_isRefq hN'.1) hU'.2.word hN'.2.word
  have hown' : s'.vm.findClass own = some m.cls := by rw [hvm]; exact hown
  have hins : (Cond.instantiable cls 6).before args s' = true := h _ (by simp [Bundle.ownAtoms])
  obtain ⟨vm₁, cX, kX, hfX, hkX, -, -, X₁, st1⟩ := Y.newCold hexec (own := own) (C := cls) (index := ik) (n := 6) hown' hk' hins hini'
    (g := F0 m pc ls rest) rfl (by rw [hb]; exact d0) (Nat.le_refl _) (Nat.le_refl _)
  generalize hT1 : (T.setVm vm₁).pushCell { cls := cX, slots := kX.instanceTypes.map defaultValue, vm := .none } = T1 at X₁ st1
  have hcat : (Value.ref T.heap.size).category = 1 := rfl
  have hcellA : T1.heap[T.heap.size]? = some (freshCell cX kX) := by rw [← hT1]; exact State.heap_pushCell_size _ _
  have d3' : decode c.code (pc + 3) = .ok (.dup, 1) := by rw [hb]; exact d3
  have d4' : decode c.code (pc + 4) = .ok (.ldc_w is, 3) := by rw [hb]; exact d4
  have hstr' : vk_R own is text sa s' := vk_R.warm hW0 hstr
  obtain ⟨U, hsteps, hrun, hend, hW, hsame, ce, hce, hO⟩ := X₁.ctorThrowS hexec htr (own := own) (cls := cls) (names := names) (ic := ic) hown' hcls hnames h (fun x hx => nomatch hx) hfX hkX hcellA (by rw [hhp, hT]; exact Nat.le_refl _) (msg := .ref sa) rfl
    (g := { method := m, pc := pc + 7, locals := ls, stack := .ref sa :: .ref T.heap.size :: .ref T.heap.size :: rest, locked := none }) rfl hsize rfl rfl (rest := rest) rfl
    (by rw [hb]; exact d7) (by rw [hb]; exact d10) hout hRframes (by simp only [List.map_cons, List.sum_cons, hcat]; omega) hlocks
  obtain ⟨f1, f2⟩ := vx_frame hsame
  rw [hhp] at f1 f2
  have hWs : s.WarmedH U.vm := State.WarmedH.trans hW0 hW
  have hcl : s.vm.findClass cls = some ce.cls := by
    have h9 := hO.cls
    rw [hvm] at h9
    exact h9
  have hall : s.sameButNew ({ U with vm := s.vm } : State) locs mc ms := by
    subst hA
    obtain ⟨e1, e2⟩ := hsame
    rw [State.setFrames_setFrames] at e1
    have h2 : (T.setVm s.vm).sameButNew ({ U with vm := s.vm } : State) [] (0 + 1) (0 + 6) := ⟨e1, e2⟩
    have h3 := X.same.trans h2
    rw [List.append_nil] at h3
    exact h3.mono hc hs
  refine ⟨U, ?_, .threw T.heap.size, hrun, hend, Or.inr ⟨T.heap.size, rfl, cls, ce, locs, hx U hWs.alike f1 (fun q hq => f2 q hq (fun z hz => nomatch hz)), hce, hO.vm, hcl, hWs, hall, hf⟩⟩
  refine st1 _ ?_
  show Steps p.tables e below (T1.setTop { method := m, pc := pc + 3, locals := ls, stack := .ref T.heap.size :: rest, locked := none }) _
  jvm_step X₁.here [X₁.here.top, hexec, d3', Value.category]
  exact X₁.ldcStringW hexec (own := own) (text := text) (index := is) (a := sa) hown' hstr'.1 hstr'.2
    (g := { method := m, pc := pc + 4, locals := ls, stack := .ref T.heap.size :: .ref T.heap.size :: rest, locked := none }) rfl d4' _ hsteps
end Ends
section Bodies
variable {l : Launch}
theorem vx_ofW {y : MethodName} {ws ws' : List Cond} {rm : Room} {Pc : Array Value → State → Prop} {Qc : Array Value → State → Outcome → State → Prop} {XC : String → State → State → Prop} {mc ms : Nat} {free : Addr → Prop} {cc : ByteArray} {maxL : Nat} {ret : Option FieldType}
    (hy : plainName y.cls = true) (hw : ws = Cond.code y cc maxL ret :: ws')
    (body : ∀ p e s m args below meth c s₁, BodyLoose p l y (headSpec ws rm) cc maxL ret e s m args below meth c s₁ → c.maxLocals = maxL → (∀ x ∈ c.exceptionTable.toList, False) → Pc args s →
      W p l e (headSpec ws rm).room s m args below meth c s.heap [] 0 0 (vx_MQ below Qc XC args s mc ms free) (entryFrame m args maxL)) : vx_Met l y ws rm Pc Qc XC mc ms free := by
  refine MetFree.of_bodyS (code := cc) (maxLocals := maxL) (ret := ret) hy ?_ ?_
  · intro args s m h hn
    obtain ⟨meth, c, h1, h2, h3, h4, h5, h6, -, -⟩ := Cond.code_spec hn (atoms_spec (ws := ws) h _ (by rw [hw]; exact List.mem_cons_self))
    exact ⟨meth, c, h1, h2, h3, h4, h5, h6⟩
  · intro p e s m args below meth c s₁ B hml hP _
    have hh0 : s₁.heap = s.heap := by rw [B.state]; rfl
    have ht : ∀ x ∈ c.exceptionTable.toList, False := by
      obtain ⟨meth9, c9, h1, h2, -, -, -, -, h7, -⟩ := Cond.code_spec B.named (atoms_spec (ws := ws) B.pre _ (by rw [hw]; exact List.mem_cons_self))
      cases Option.some.inj (h1.symm.trans B.method)
      cases Option.some.inj (h2.symm.trans (Stand.of_body B).code)
      intro x hx
      rw [Array.isEmpty_iff.mp h7] at hx
      cases hx
    obtain ⟨t, a1, o, b1, b2, b3⟩ := body p e s m args below meth c s₁ B hml ht hP s₁ hh0 (Stand.of_body B)
    exact ⟨t, o, a1, b1, b2, b3⟩
/-- the table of a body with handlers -/
theorem vx_table {p : Program} {x y : MethodName} {S : Spec} {cc bytes : ByteArray} {maxL maxL' : Nat} {ret ret' : Option FieldType} {e : Env} {s s₁ : State} {m : MethodId} {args : Array Value} {below : List Frame} {meth : Method} {c : Code} {hh : List (Nat × Nat × Nat × Nat)}
    (B : BodyLoose p l y S cc maxL ret e s m args below meth c s₁) (h : (Cond.codeWith y bytes maxL' ret' hh).before args s = true) : c.exceptionTable.toList = tableOf hh := by
  obtain ⟨m9, meth9, c9, hn9, h1, h2, -, -, h6, -⟩ := Cond.codeWith_spec h
  cases Option.some.inj (hn9.symm.trans B.named)
  cases Option.some.inj (h1.symm.trans B.method)
  cases Option.some.inj (h2.symm.trans (Stand.of_body B).code)
  rw [← h6, table_eq]
end Bodies
end VXA
/-! ===== END ===== -/
/-! ===== BEGIN a static call of a method with an exception table ===== -/
section VXS
variable {p : Program} {l : Launch} {e : Env} {R : Room} {s : State} {m : MethodId} {args : Array Value} {below : List Frame} {meth : Method} {c : Code} {T : State} {H : Heap} {locs : List Loc} {cells slots : Nat}
abbrev vx_CSW (R : Room) (s : State) (args : Array Value) (own : String) (index : Nat) (y : MethodName) (bytes : ByteArray) (maxL : Nat) (ret : Option FieldType) (hh : List (Nat × Nat × Nat × Nat)) (ws : List Cond) (rm : Room) (mc ms n : Nat) : Prop :=
  (rm.cells = mc ∧ rm.slots = ms ∧ rm.frames + 1 ≤ R.frames ∧ 8 + (maxL + 11) + rm.locals ≤ R.locals ∧ (∀ w ∈ ws, ∀ (a' : Array Value) (U : State), s.WarmedH U.vm → w.before a' U = true) ∧ Cond.codeWith y bytes maxL ret hh ∈ ws) ∧
  (Cond.codeWith y bytes maxL ret hh).before args s = true ∧ (Cond.initialized y.cls).before args s = true ∧ (y.cls ≠ "java/lang/invoke/MethodHandle" ∧ y.cls ≠ "java/lang/invoke/VarHandle") ∧
  (∀ sig, parseMethodDescriptor y.desc = some sig → n = sig.parameters.length) ∧ (Cond.methodLink own index y).before args s = true ∧ (Cond.static y).before args s = true
theorem vx_cwSW {own : String} {index maxL mc ms : Nat} {y : MethodName} {bytes : ByteArray} {ret : Option FieldType} {hh : List (Nat × Nat × Nat × Nat)} {Ts ws ws' : List Cond} {rm : Room} (n : Nat) (ht : ∀ w ∈ Ts, w.before args s = true) (hT : GoodIn Ts (va_wsS own index y ws)) (hw : ws = Cond.codeWith y bytes maxL ret hh :: ws') (hrc : rm.cells = mc) (hrs : rm.slots = ms)
    (hd : y.cls ≠ "java/lang/invoke/MethodHandle" ∧ y.cls ≠ "java/lang/invoke/VarHandle" ∧ (parseMethodDescriptor y.desc).map (fun d => d.parameters.length) = some n) (hR : rm.frames + 1 ≤ R.frames ∧ 8 + (maxL + 11) + rm.locals ≤ R.locals) :
    vx_CSW R s args own index y bytes maxL ret hh ws rm mc ms n := by
  have ok : ∀ w ∈ va_wsS own index y ws, w.before args s = true := fun w h => ht w (hT w h).1
  have hG : GoodIn Ts ws := fun w h => hT w (by unfold va_wsS; exact List.mem_append_right _ h)
  have hc : Cond.codeWith y bytes maxL ret hh ∈ ws := by rw [hw]; exact List.mem_cons_self
  refine ⟨⟨hrc, hrs, hR.1, hR.2, pay_in ht hG, hc⟩, ht _ (hG _ hc).1, ok _ (by simp [va_wsS]), ⟨hd.1, hd.2.1⟩, fun sig h => ?_, ok _ (by simp [va_wsS]), ok _ (by simp [va_wsS])⟩
  have h2 := hd.2.2
  rw [h] at h2
  exact (Option.some.inj h2).symm
theorem vx_callSW (X : Stand p l e R s m args below meth c T locs cells slots) (hexec : p.tables.exec = Jvm.exec) {own : String} {index : Nat} {y : MethodName} {bytes : ByteArray} {maxL : Nat} {ret : Option FieldType} {hh : List (Nat × Nat × Nat × Nat)}
    (hown : s.vm.findClass own = some m.cls) (hlink : (Cond.methodLink own index y).before args s = true) (hstat : (Cond.static y).before args s = true) (hinit : (Cond.initialized y.cls).before args s = true)
    (hcode : (Cond.codeWith y bytes maxL ret hh).before args s = true) (hy : y.cls ≠ "java/lang/invoke/MethodHandle" ∧ y.cls ≠ "java/lang/invoke/VarHandle")
    {W9 : Nat} {Pre : Pt → Array Value → Prop} {Post : Pt → Array Value → Option Value → Pt → Prop} (hK : Back l R p e below s args y 3 W9 Pre Post)
    {g : JFrame} (hg : g.method = m) (hsize : g.locals.size = c.maxLocals) {argsL rest : List Value} (hlen : ∀ sig, parseMethodDescriptor y.desc = some sig → argsL.length = sig.parameters.length)
    (hstack : g.stack = argsL.reverse ++ rest) (hW : 2 * g.monitorRoom + (rest.map fun v => v.category).sum ≤ W9) (hdg : decode c.code g.pc = .ok (.invokestatic index, 3))
    (hpre : ∀ vm₁, s.WarmedH vm₁ → Pre ⟨T.setVm vm₁, locs, cells, slots⟩ argsL.toArray) :
    ∃ (v : Option Value) (vm₁ : Vm) (B : Pt), s.WarmedH vm₁ ∧ Stand p l e R s m args below meth c B.U B.locs B.cells B.slots ∧ Post ⟨T.setVm vm₁, locs, cells, slots⟩ argsL.toArray v B ∧
      ∀ target, Steps p.tables e below (B.U.setTop { g with pc := g.pc + 3, stack := v.toList ++ rest }) target → Steps p.tables e below (T.setTop g) target := by
  obtain ⟨mk, methM, cM, hnamed, hmethM, -, -, -, -, -, -, hsigM⟩ := Cond.codeWith_spec hcode
  have hstatic : methM.isStatic = true := Cond.static_spec hnamed hmethM hstat
  obtain ⟨kP, hkP, -⟩ := className_of_methodNamed hnamed
  have hinitP : kP.init = .initialized := Cond.initialized_spec (findClass_of_methodNamed hnamed) hkP hinit
  obtain ⟨vm₁, X₁, hstep₁⟩ := X.invokestatic hexec hown hlink hnamed hmethM hstatic hkP hinitP hy (g := g) hg (argsL := argsL) (rest := rest) (hlen _ hsigM) hstack hdg
  obtain ⟨v, B, X', hpost, hsteps⟩ := hK m meth c ⟨T.setVm vm₁, locs, cells, slots⟩ { g with stack := rest } (.invokestatic index) mk argsL.toArray X₁ hg hsize hdg hW (X₁.named hnamed) (hpre vm₁ X₁.warmed)
  exact ⟨v, vm₁, B, X₁.warmed, X', hpost, fun target h => hstep₁ _ fun acts => by rw [doInvoke_state]; exact hsteps.trans h⟩
theorem vx_runSW {y : MethodName} {bytes cc : ByteArray} {maxL nL mc ms n index : Nat} {ret : Option FieldType} {hh : List (Nat × Nat × Nat × Nat)} {ws : List Cond} {rm : Room} {Pc : Array Value → State → Prop} {Qc : Array Value → State → Outcome → State → Prop} {free : Addr → Prop} {Ts : List Cond} {own : String} {As rest : List Value} {g : JFrame}
    (S : CallFix p m c cc nL s args Ts own) (hM : Met l y ws rm Pc Qc mc ms free) (cw : vx_CSW R s args own index y bytes maxL ret hh ws rm mc ms n) (hp : PreS s H Pc As)
    (hg : g.method = m) (hn : As.length = n) (hsize : g.locals.size = nL) (hstack : g.stack = As.reverse ++ rest) (hW : 2 * g.monitorRoom + (rest.map fun v => v.category).sum ≤ 8) (hdg : decode cc g.pc = .ok (.invokestatic index, 3)) (hf : cells + mc ≤ R.cells ∧ slots + ms ≤ R.slots) :
    va_Run p l e R s m args below meth c H locs cells slots mc ms g rest (Qc As.toArray) (free) := by
  obtain ⟨⟨hrc, hrs, hfr, hlo, hws, hcw⟩, hcode, hini, hy, hlen, hl, hstt⟩ := cw
  have hK : Back l R p e below s args y 3 8 (PreOf R mc ms Pc) (PostOf Qc mc ms free) := va_backW (hh := hh) (bytes := bytes) (maxL := maxL) (ret := ret) hM hp.1 hrc hrs hfr hlo hws hcw (fun a' U hW => word_at hW (Or.inl (by first | rfl | simp [Cond.onTables, Cond.keeps, Cond.steady])) hini)
  obtain ⟨hx, hb, hml, ho, -⟩ := S
  intro T hT X
  obtain ⟨v, vm₁, ⟨U', l2, c2, s2⟩, hW₁, X', ⟨g', mk, t, L, e1, e2, hq, h1, hL, h2, h3⟩, st⟩ := vx_callSW X hx (hh := hh) (bytes := bytes) (maxL := maxL) (ret := ret) ho hl hstt hini hcode hy hK hg (hsize.trans hml.symm) (argsL := As) (rest := rest) (fun sig h => hn.trans (hlen sig h)) hstack hW (by rw [hb]; exact hdg)
    (fun vm₁ hW₁ => ⟨hf.1, hf.2, hp.2 (T.setVm vm₁) hT hW₁⟩)
  dsimp only [Pt.U, Pt.locs, Pt.cells, Pt.slots] at X' e1 e2 h1 h2 h3 st
  subst h1; subst h2; subst h3
  exact ⟨v, (T.setVm vm₁).calling g' mk As.toArray, t, U', L, hT, X', hL, e1, e2, hq, st⟩
/-- not caught here, past rows that name other classes: it goes on to the caller -/
theorem vx_outP {p : Program} {l : Launch} {e : Env} {R : Room} {s : State} {m : MethodId} {args : Array Value} {below : List Frame} {meth : Method} {c : Code} {H : Heap} {locs : List Loc} {cells slots : Nat} {free : Addr → Prop} {ls : Array Slot} {rest : List Value} {Qc : Array Value → State → Outcome → State → Prop} {XC : String → State → State → Prop}
    {pc : Nat} {own E : String} {ce : Cell} {q : Addr} {mc ms : Nat} (hown : s.vm.findClass own = some m.cls) (hlocks : meth.locks = false)
    (hpass : ∀ z ∈ c.exceptionTable.toList, covers z pc = false ∨ (z.catchType ≠ 0 ∧ ∃ nm : String, (Cond.classLink own z.catchType nm).before args s = true ∧ va_Nc E nm s)) (hcell : H[q]? = some ce) (hv : ce.vm = .none) (hcl : s.vm.findClass E = some ce.cls)
    (hx : ∀ t : State, t.heap = H → s.vm.Alike t.vm → XC E s t) (hf : ∀ z ∈ locs, free z.base) (hc : cells ≤ mc) (hs : slots ≤ ms) :
    vx_W p l e R s m args below meth c H locs cells slots (vx_MQ below Qc XC args s mc ms free) (F0 m pc ls rest) q := by
  intro T hT X
  have hpl : e.platform.magicAccessors = ({} : Platform).magicAccessors := by rw [X.admits.platform]
  obtain ⟨vm', hW', X', st⟩ := X.outThrough hlocks q (g := F0 m pc ls rest) rfl rfl rfl (cell := ce) (by rw [hT]; exact hcell) (by rw [hv]; rfl)
    (by obtain ⟨k9, h9, -⟩ := Vm.findClass_spec hcl; exact ⟨k9, h9⟩) (fun z hz => by
      rcases hpass z hz with h | ⟨hz0, nm, hl1, hn1⟩
      · exact Or.inl h
      · obtain ⟨c6, hc6, hcl6⟩ := Cond.classLink_spec hown hl1 e.platform hpl
        obtain ⟨a8, b8, h1, h2, h3⟩ := hn1
        cases Option.some.inj (h1.symm.trans hcl)
        cases Option.some.inj (h2.symm.trans hc6)
        exact Or.inr ⟨hz0, _, hcl6, h3⟩)
  obtain ⟨g₀, hfr⟩ := X'.frames_eq
  have hcell9 : ((T.setVm vm').setFrames (.throwing q :: below)).heap[q]? = some ce := by
    show T.heap[q]? = some ce
    rw [hT]; exact hcell
  have hend : Ended ((T.setVm vm').setFrames (.throwing q :: below)) below (.threw q) := State.frames_setFrames _ (State.cur_lt_of_frames hfr)
  refine ⟨(T.setVm vm').setFrames (.throwing q :: below), ?_, .threw q, X'.here.running, hend, Or.inr ⟨q, rfl, E, ce, locs, hx _ hT (X'.ends _).1.alike, hcell9, hv, hcl, (X'.ends _).1, (X'.ends _).2.mono hc hs, hf⟩⟩
  rw [X.pushThrowing_eq]
  exact st
/-- a thing of a world lies in the heap -/
theorem vx_lt {D : va_G} {cl : List vw_C} {ws : va_W} {H1 : Heap} (h : va_P D cl ws H1) {k : Nat} {q : Nat × va_E} (hk : ws[k]? = some q) : q.1 < H1.size := (h k q hk).lt
end VXS
/-! ===== END ===== -/
/-! ===== BEGIN methods with a table of their own: called by a name, returning or throwing ===== -/
section VXH
/-! vx_backW, vx_callVX, vx_callSX, vx_callVW, vx_runVW, vx_runVX, vx_runSX, vx_ofWH follow the same proofs as their sisters above (Free/Laws.lean, Shelf42/LK1.lean); vx_outP calls Shelf42/NT130.lean (outThrough). -/
section
variable {l : Launch} {R : Room} {p : Program} {e : Env} {below : List Frame} {s : State} {sargs : Array Value} {y : MethodName} {len W9 : Nat}
theorem vx_backW {ws : List Cond} {rm : Room} {Pc : Array Value → State → Prop} {Qc : Array Value → State → Outcome → State → Prop} {XC : String → State → State → Prop} {mc ms : Nat} {free : Addr → Prop} {bytes : ByteArray} {maxL : Nat} {ret : Option FieldType} {hh : List (Nat × Nat × Nat × Nat)}
    (hM : vx_Met l y ws rm Pc Qc XC mc ms free) (hblind : FrameBlind Pc) (hrc : rm.cells = mc) (hrs : rm.slots = ms)
    (hframes : rm.frames + 1 ≤ R.frames) (hlocals : W9 + (maxL + 11) + rm.locals ≤ R.locals)
    (hws : ∀ w ∈ ws, ∀ a' U, s.WarmedH U.vm → w.before a' U = true) (hcode : Cond.codeWith y bytes maxL ret hh ∈ ws) (hinit : ∀ a' U, s.WarmedH U.vm → (Cond.initialized y.cls).before a' U = true) :
    vx_Back l R p e below s sargs y len W9 (PreOf R mc ms Pc) (PostOf Qc mc ms free) (vx_Post XC mc ms free) := by
  intro m meth c A g ig mk a X hg hsize hdg hW hn hp
  have h1 : (headSpec ws rm).pre.before a A.U = true := atoms_intro fun w hw => hws w hw _ _ X.warmed
  have h2 : (Cond.codeWith y bytes maxL ret hh).before a A.U = true := hws _ hcode _ _ X.warmed
  have h3 : (Cond.initialized y.cls).before a A.U = true := hinit _ _ X.warmed
  have h4 : A.cells + (headSpec ws rm).room.cells ≤ R.cells := by rw [show (headSpec ws rm).room.cells = mc from hrc]; exact hp.1
  have h5 : A.slots + (headSpec ws rm).room.slots ≤ R.slots := by rw [show (headSpec ws rm).room.slots = ms from hrs]; exact hp.2.1
  have hPc : Pc a (A.U.calling g mk a) := hblind _ _ _ _ hp.2.2
  obtain ⟨U, Ls, c0, s0⟩ := A
  dsimp only [Pt.U, Pt.locs, Pt.cells, Pt.slots] at h1 h2 h3 h4 h5 X hn hPc ⊢
  obtain ⟨m9, methY, cY, hn9, hmY, hcY, -, hlY, -⟩ := Cond.codeWith_spec h2
  cases Option.some.inj (hn9.symm.trans hn)
  obtain ⟨kY, hkY, -⟩ := className_of_methodNamed hn
  have hinitY : kY.init = .initialized := Cond.initialized_spec (findClass_of_methodNamed hn) hkY h3
  have h : At U g.method c below := by rw [hg]; exact X.here
  have hlocals9 : W9 + (maxL + 11) + (headSpec ws rm).room.locals ≤ R.locals := hlocals
  have happ : (headSpec ws rm).appliesLoose y e.platform (U.calling g mk a) = true :=
    Spec.appliesLoose_calling (g := g) h hdg hn hkY hinitY
      (X.room_calling (g := g) (R' := (headSpec ws rm).room) hsize hmY hcY hframes (by rw [hlY]; omega) h4 h5) h1
  obtain ⟨mid, hmid⟩ := h.above
  have hfr : (U.setTop g).frames = (.java g :: mid) ++ below := by rw [State.frames_setTop' g h.top, hmid]; rfl
  obtain ⟨o, s₂, hsteps, -, hend, hq⟩ := Steps.callFree hM p X.admits X.cas X.clock (acts := []) hfr happ hPc trivial
  have hq' : vx_Q Qc XC mc ms free a (U.calling g mk a) o s₂ := hq
  rw [State.frames_setTop' g h.top] at hend
  obtain ⟨g₀, hg0⟩ := Option.isSome_iff_exists.mp h.top
  obtain ⟨r, hr⟩ := State.topJava?_eq_some.mp hg0
  have hr' : (({ U with heap := s₂.heap, slotsUsed := s₂.slotsUsed } : State).setVm s₂.vm).frames = .java g₀ :: r := hr
  rcases hq' with ⟨hqc, L, hfe, hL⟩ | ⟨q, rfl, E, ce, L, hx, hce, hcv, hcl, hW₂, hsm, hL⟩
  · obtain ⟨⟨v, rfl⟩, hW₂, e2, q2, q3, q4, q5, q6⟩ := id hfe
    have e3 : s₂ = ({ (U.calling g mk a).setFrames s₂.frames with heap := s₂.heap, slotsUsed := s₂.slotsUsed } : State).setVm s₂.vm := by
      have : s₂ = ({ s₂ with vm := (U.calling g mk a).vm } : State).setVm s₂.vm := rfl
      rw [e2] at this
      exact this
    obtain ⟨c₂, i₂, len₂, hc₂, hd₂, hf₂⟩ := hend
    have hW' : U.WarmedH s₂.vm := hW₂
    have hcc : c₂ = c := by
      have h1 : s₂.code? g.method = U.code? g.method := by
        rw [State.code?_eq, State.code?_eq, hW'.alike.method?]
      exact Option.some.inj (hc₂.symm.trans (h1.trans h.code))
    subst hcc
    have hlen : len₂ = len := by rw [hdg] at hd₂; cases hd₂; rfl
    subst hlen
    have hs₂ : s₂ = (({ U with heap := s₂.heap, slotsUsed := s₂.slotsUsed } : State).setVm s₂.vm).setTop { g with pc := g.pc + len₂, stack := v.toList ++ g.stack } := by
      refine e3.trans ?_
      rw [hf₂, State.calling_eq h.top, State.setFrames_setFrames, State.setTop_of_frames _ hr', hr]
      rfl
    have hsame : U.sameButNew ({ U with heap := s₂.heap, slotsUsed := s₂.slotsUsed } : State) L mc ms := by
      refine ⟨?_, q2, q3, q4, q5, q6⟩
      obtain ⟨t, ht, -⟩ := State.frames_cons hr
      show ({ U with heap := s₂.heap, slotsUsed := s₂.slotsUsed } : State) = { U.setFrames U.frames with heap := s₂.heap, slotsUsed := s₂.slotsUsed }
      rw [State.setFrames_self ht]
    subst hg
    refine Or.inl ⟨v, ⟨(({ U with heap := s₂.heap, slotsUsed := s₂.slotsUsed } : State).setVm s₂.vm), Ls ++ L, c0 + mc, s0 + ms⟩,
      ⟨X.admits, X.cas, X.clock, X.frames, X.room, X.hears, X.method, X.code, (X.here.setHeapUsed s₂.heap s₂.slotsUsed).setVm hW'.alike, X.tail, State.WarmedH.trans X.warmed hW', X.limits, X.bytes, X.same.trans (hsame.setVm s.vm)⟩,
      ⟨g, mk, s₂, L, rfl, rfl, hqc, rfl, hL, rfl, rfl⟩, ?_⟩
    show Steps p.tables e below _ ((({ U with heap := s₂.heap, slotsUsed := s₂.slotsUsed } : State).setVm s₂.vm).setTop { g with pc := g.pc + len₂, stack := v.toList ++ g.stack })
    rw [← hs₂]
    exact hsteps
  · obtain ⟨e2, q2, q3, q4, q5, q6⟩ := id hsm
    have e3 : s₂ = ({ (U.calling g mk a).setFrames s₂.frames with heap := s₂.heap, slotsUsed := s₂.slotsUsed } : State).setVm s₂.vm := by
      have : s₂ = ({ s₂ with vm := (U.calling g mk a).vm } : State).setVm s₂.vm := rfl
      rw [e2] at this
      exact this
    have hf₂ : s₂.frames = .throwing q :: .java g :: U.frames.tail := hend
    have hW' : U.WarmedH s₂.vm := hW₂
    have hs₂ : s₂ = ((({ U with heap := s₂.heap, slotsUsed := s₂.slotsUsed } : State).setVm s₂.vm).setTop g).pushFrame (.throwing q) := by
      refine e3.trans ?_
      rw [hf₂, State.calling_eq h.top, State.setFrames_setFrames, State.pushFrame, State.frames_setTop _ hr', State.setTop_of_frames _ hr', State.setFrames_setFrames, hr]
      rfl
    have hsame : U.sameButNew ({ U with heap := s₂.heap, slotsUsed := s₂.slotsUsed } : State) L mc ms := by
      refine ⟨?_, q2, q3, q4, q5, q6⟩
      obtain ⟨t, ht, -⟩ := State.frames_cons hr
      show ({ U with heap := s₂.heap, slotsUsed := s₂.slotsUsed } : State) = { U.setFrames U.frames with heap := s₂.heap, slotsUsed := s₂.slotsUsed }
      rw [State.setFrames_self ht]
    subst hg
    refine Or.inr ⟨q, ⟨(({ U with heap := s₂.heap, slotsUsed := s₂.slotsUsed } : State).setVm s₂.vm), Ls ++ L, c0 + mc, s0 + ms⟩,
      ⟨X.admits, X.cas, X.clock, X.frames, X.room, X.hears, X.method, X.code, (X.here.setHeapUsed s₂.heap s₂.slotsUsed).setVm hW'.alike, X.tail, State.WarmedH.trans X.warmed hW', X.limits, X.bytes, X.same.trans (hsame.setVm s.vm)⟩,
      ⟨g, mk, s₂, L, E, ce, rfl, rfl, hx, hce, hcv, hcl, rfl, hL, rfl, rfl⟩, ?_⟩
    show Steps p.tables e below _ (((({ U with heap := s₂.heap, slotsUsed := s₂.slotsUsed } : State).setVm s₂.vm).setTop g).pushFrame (.throwing q))
    rw [← hs₂]
    exact hsteps
end
variable {p : Program} {l : Launch} {e : Env} {R : Room} {s : State} {m : MethodId} {args : Array Value} {below : List Frame} {meth : Method} {c : Code} {T : State} {H : Heap} {locs : List Loc} {cells slots : Nat}
theorem vx_callVX (X : Stand p l e R s m args below meth c T locs cells slots) (hexec : p.tables.exec = Jvm.exec) {own C : String} {index : Nat} {y : MethodName} {bytes : ByteArray} {maxL : Nat} {ret : Option FieldType} {hh : List (Nat × Nat × Nat × Nat)}
    (hown : s.vm.findClass own = some m.cls) (hlink : (Cond.methodLink own index y).before args s = true) (hinst : (Cond.instanceMethod y).before args s = true) (hsel : (Cond.selects C y y).before args s = true)
    (hcode : (Cond.codeWith y bytes maxL ret hh).before args s = true) (hy : y.cls ≠ "java/lang/invoke/MethodHandle" ∧ y.cls ≠ "java/lang/invoke/VarHandle")
    {W9 : Nat} {Pre : Pt → Array Value → Prop} {Post : Pt → Array Value → Option Value → Pt → Prop} {PostX : Pt → Array Value → Addr → Pt → Prop} (hK : vx_Back l R p e below s args y 3 W9 Pre Post PostX)
    {b : Addr} {cellB : Cell} (hcell : T.heap[b]? = some cellB) (hobj : cellB.vm.isStatics = false) (hcls : s.vm.findClass C = some cellB.cls)
    {g : JFrame} (hg : g.method = m) (hsize : g.locals.size = c.maxLocals) {argsL rest : List Value} (hlen : ∀ sig, parseMethodDescriptor y.desc = some sig → argsL.length = sig.parameters.length)
    (hstack : g.stack = argsL.reverse ++ .ref b :: rest) (hW : 2 * g.monitorRoom + (rest.map fun v => v.category).sum ≤ W9) (hdg : decode c.code g.pc = .ok (.invokevirtual index, 3))
    (hpre : ∀ vm₁, s.WarmedH vm₁ → Pre ⟨T.setVm vm₁, locs, cells, slots⟩ (Value.ref b :: argsL).toArray) :
    (∃ (v : Option Value) (vm₁ : Vm) (B : Pt), s.WarmedH vm₁ ∧ Stand p l e R s m args below meth c B.U B.locs B.cells B.slots ∧ Post ⟨T.setVm vm₁, locs, cells, slots⟩ (Value.ref b :: argsL).toArray v B ∧
      ∀ target, Steps p.tables e below (B.U.setTop { g with pc := g.pc + 3, stack := v.toList ++ rest }) target → Steps p.tables e below (T.setTop g) target) ∨
    (∃ (q : Addr) (vm₁ : Vm) (B : Pt), s.WarmedH vm₁ ∧ Stand p l e R s m args below meth c B.U B.locs B.cells B.slots ∧ PostX ⟨T.setVm vm₁, locs, cells, slots⟩ (Value.ref b :: argsL).toArray q B ∧
      Steps p.tables e below (T.setTop g) ((B.U.setTop { g with stack := rest }).pushFrame (.throwing q))) := by
  obtain ⟨mk, methM, hnamed, hmethM, hstM, habM⟩ := Cond.instanceMethod_spec hinst
  obtain ⟨m8, methM', cM, hn8, hmethM', -, -, -, -, -, -, hsigM⟩ := Cond.codeWith_spec hcode
  cases Option.some.inj (hn8.symm.trans hnamed)
  cases hmethM.symm.trans hmethM'
  obtain ⟨c2, r2, m2, q1, q2, q3, q4, kP, hkP, hkPi⟩ := Cond.selects_spec hsel
  cases hcls.symm.trans q1
  cases (State.methodFound?_of_named hnamed hy).symm.trans q2
  cases hnamed.symm.trans q3
  have hselP : selectMethod e.platform s.vm cellB.cls mk = .method mk := by rw [Launch.admits_selectMethod X.admits]; exact q4
  obtain ⟨vm₁, X₁, hstep₁⟩ := X.invokevirtual hexec hown hlink hnamed hmethM hstM hkP hkPi hy (a := b) (cell := cellB) hcell
    (fun z h => by rw [h] at hobj; cases hobj) hselP hmethM habM hkP hkPi (g := g) hg (argsL := argsL) (rest := rest) (hlen _ hsigM) hstack hdg
  rcases hK m meth c ⟨T.setVm vm₁, locs, cells, slots⟩ { g with stack := rest } (.invokevirtual index) mk (Value.ref b :: argsL).toArray X₁ hg hsize hdg hW (X₁.named hnamed) (hpre vm₁ X₁.warmed) with ⟨v, B, X', hpost, hsteps⟩ | ⟨q, B, X', hpost, hsteps⟩
  · exact Or.inl ⟨v, vm₁, B, X₁.warmed, X', hpost, fun target h => hstep₁ _ fun acts => by rw [doInvoke_state]; exact hsteps.trans h⟩
  · exact Or.inr ⟨q, vm₁, B, X₁.warmed, X', hpost, hstep₁ _ fun acts => by rw [doInvoke_state]; exact hsteps⟩
theorem vx_callSX (X : Stand p l e R s m args below meth c T locs cells slots) (hexec : p.tables.exec = Jvm.exec) {own : String} {index : Nat} {y : MethodName} {bytes : ByteArray} {maxL : Nat} {ret : Option FieldType} {hh : List (Nat × Nat × Nat × Nat)}
    (hown : s.vm.findClass own = some m.cls) (hlink : (Cond.methodLink own index y).before args s = true) (hstat : (Cond.static y).before args s = true) (hinit : (Cond.initialized y.cls).before args s = true)
    (hcode : (Cond.codeWith y bytes maxL ret hh).before args s = true) (hy : y.cls ≠ "java/lang/invoke/MethodHandle" ∧ y.cls ≠ "java/lang/invoke/VarHandle")
    {W9 : Nat} {Pre : Pt → Array Value → Prop} {Post : Pt → Array Value → Option Value → Pt → Prop} {PostX : Pt → Array Value → Addr → Pt → Prop} (hK : vx_Back l R p e below s args y 3 W9 Pre Post PostX)
    {g : JFrame} (hg : g.method = m) (hsize : g.locals.size = c.maxLocals) {argsL rest : List Value} (hlen : ∀ sig, parseMethodDescriptor y.desc = some sig → argsL.length = sig.parameters.length)
    (hstack : g.stack = argsL.reverse ++ rest) (hW : 2 * g.monitorRoom + (rest.map fun v => v.category).sum ≤ W9) (hdg : decode c.code g.pc = .ok (.invokestatic index, 3))
    (hpre : ∀ vm₁, s.WarmedH vm₁ → Pre ⟨T.setVm vm₁, locs, cells, slots⟩ argsL.toArray) :
    (∃ (v : Option Value) (vm₁ : Vm) (B : Pt), s.WarmedH vm₁ ∧ Stand p l e R s m args below meth c B.U B.locs B.cells B.slots ∧ Post ⟨T.setVm vm₁, locs, cells, slots⟩ argsL.toArray v B ∧
      ∀ target, Steps p.tables e below (B.U.setTop { g with pc := g.pc + 3, stack := v.toList ++ rest }) target → Steps p.tables e below (T.setTop g) target) ∨
    (∃ (q : Addr) (vm₁ : Vm) (B : Pt), s.WarmedH vm₁ ∧ Stand p l e R s m args below meth c B.U B.locs B.cells B.slots ∧ PostX ⟨T.setVm vm₁, locs, cells, slots⟩ argsL.toArray q B ∧
      Steps p.tables e below (T.setTop g) ((B.U.setTop { g with stack := rest }).pushFrame (.throwing q))) := by
  obtain ⟨mk, methM, cM, hnamed, hmethM, -, -, -, -, -, -, hsigM⟩ := Cond.codeWith_spec hcode
  have hstatic : methM.isStatic = true := Cond.static_spec hnamed hmethM hstat
  obtain ⟨kP, hkP, -⟩ := className_of_methodNamed hnamed
  have hinitP : kP.init = .initialized := Cond.initialized_spec (findClass_of_methodNamed hnamed) hkP hinit
  obtain ⟨vm₁, X₁, hstep₁⟩ := X.invokestatic hexec hown hlink hnamed hmethM hstatic hkP hinitP hy (g := g) hg (argsL := argsL) (rest := rest) (hlen _ hsigM) hstack hdg
  rcases hK m meth c ⟨T.setVm vm₁, locs, cells, slots⟩ { g with stack := rest } (.invokestatic index) mk argsL.toArray X₁ hg hsize hdg hW (X₁.named hnamed) (hpre vm₁ X₁.warmed) with ⟨v, B, X', hpost, hsteps⟩ | ⟨q, B, X', hpost, hsteps⟩
  · exact Or.inl ⟨v, vm₁, B, X₁.warmed, X', hpost, fun target h => hstep₁ _ fun acts => by rw [doInvoke_state]; exact hsteps.trans h⟩
  · exact Or.inr ⟨q, vm₁, B, X₁.warmed, X', hpost, hstep₁ _ fun acts => by rw [doInvoke_state]; exact hsteps⟩
theorem vx_callVW (X : Stand p l e R s m args below meth c T locs cells slots) (hexec : p.tables.exec = Jvm.exec) {own C : String} {index : Nat} {y : MethodName} {bytes : ByteArray} {maxL : Nat} {ret : Option FieldType} {hh : List (Nat × Nat × Nat × Nat)}
    (hown : s.vm.findClass own = some m.cls) (hlink : (Cond.methodLink own index y).before args s = true) (hinst : (Cond.instanceMethod y).before args s = true) (hsel : (Cond.selects C y y).before args s = true)
    (hcode : (Cond.codeWith y bytes maxL ret hh).before args s = true) (hy : y.cls ≠ "java/lang/invoke/MethodHandle" ∧ y.cls ≠ "java/lang/invoke/VarHandle")
    {W9 : Nat} {Pre : Pt → Array Value → Prop} {Post : Pt → Array Value → Option Value → Pt → Prop} (hK : Back l R p e below s args y 3 W9 Pre Post)
    {b : Addr} {cellB : Cell} (hcell : T.heap[b]? = some cellB) (hobj : cellB.vm.isStatics = false) (hcls : s.vm.findClass C = some cellB.cls)
    {g : JFrame} (hg : g.method = m) (hsize : g.locals.size = c.maxLocals) {argsL rest : List Value} (hlen : ∀ sig, parseMethodDescriptor y.desc = some sig → argsL.length = sig.parameters.length)
    (hstack : g.stack = argsL.reverse ++ .ref b :: rest) (hW : 2 * g.monitorRoom + (rest.map fun v => v.category).sum ≤ W9) (hdg : decode c.code g.pc = .ok (.invokevirtual index, 3))
    (hpre : ∀ vm₁, s.WarmedH vm₁ → Pre ⟨T.setVm vm₁, locs, cells, slots⟩ (Value.ref b :: argsL).toArray) :
    ∃ (v : Option Value) (vm₁ : Vm) (B : Pt), s.WarmedH vm₁ ∧ Stand p l e R s m args below meth c B.U B.locs B.cells B.slots ∧ Post ⟨T.setVm vm₁, locs, cells, slots⟩ (Value.ref b :: argsL).toArray v B ∧
      ∀ target, Steps p.tables e below (B.U.setTop { g with pc := g.pc + 3, stack := v.toList ++ rest }) target → Steps p.tables e below (T.setTop g) target := by
  obtain ⟨mk, methM, hnamed, hmethM, hstM, habM⟩ := Cond.instanceMethod_spec hinst
  obtain ⟨m8, methM', cM, hn8, hmethM', -, -, -, -, -, -, hsigM⟩ := Cond.codeWith_spec hcode
  cases Option.some.inj (hn8.symm.trans hnamed)
  cases hmethM.symm.trans hmethM'
  obtain ⟨c2, r2, m2, q1, q2, q3, q4, kP, hkP, hkPi⟩ := Cond.selects_spec hsel
  cases hcls.symm.trans q1
  cases (State.methodFound?_of_named hnamed hy).symm.trans q2
  cases hnamed.symm.trans q3
  have hselP : selectMethod e.platform s.vm cellB.cls mk = .method mk := by rw [Launch.admits_selectMethod X.admits]; exact q4
  obtain ⟨vm₁, X₁, hstep₁⟩ := X.invokevirtual hexec hown hlink hnamed hmethM hstM hkP hkPi hy (a := b) (cell := cellB) hcell
    (fun z h => by rw [h] at hobj; cases hobj) hselP hmethM habM hkP hkPi (g := g) hg (argsL := argsL) (rest := rest) (hlen _ hsigM) hstack hdg
  obtain ⟨v, B, X', hpost, hsteps⟩ := hK m meth c ⟨T.setVm vm₁, locs, cells, slots⟩ { g with stack := rest } (.invokevirtual index) mk (Value.ref b :: argsL).toArray X₁ hg hsize hdg hW (X₁.named hnamed) (hpre vm₁ X₁.warmed)
  exact ⟨v, vm₁, B, X₁.warmed, X', hpost, fun target h => hstep₁ _ fun acts => by rw [doInvoke_state]; exact hsteps.trans h⟩
abbrev vx_CVW (R : Room) (s : State) (args : Array Value) (own C : String) (index : Nat) (y : MethodName) (bytes : ByteArray) (maxL : Nat) (ret : Option FieldType) (hh : List (Nat × Nat × Nat × Nat)) (ws : List Cond) (rm : Room) (mc ms n : Nat) : Prop :=
  (rm.cells = mc ∧ rm.slots = ms ∧ rm.frames + 1 ≤ R.frames ∧ 8 + (maxL + 11) + rm.locals ≤ R.locals ∧ (∀ w ∈ ws, ∀ (a' : Array Value) (U : State), s.WarmedH U.vm → w.before a' U = true) ∧ Cond.codeWith y bytes maxL ret hh ∈ ws) ∧
  (Cond.codeWith y bytes maxL ret hh).before args s = true ∧ (Cond.initialized y.cls).before args s = true ∧ (y.cls ≠ "java/lang/invoke/MethodHandle" ∧ y.cls ≠ "java/lang/invoke/VarHandle") ∧
  (∀ sig, parseMethodDescriptor y.desc = some sig → n = sig.parameters.length) ∧ (Cond.methodLink own index y).before args s = true ∧ (Cond.instanceMethod y).before args s = true ∧ (Cond.selects C y y).before args s = true
theorem vx_cwVW {own C : String} {index maxL mc ms : Nat} {y : MethodName} {bytes : ByteArray} {ret : Option FieldType} {hh : List (Nat × Nat × Nat × Nat)} {Ts ws ws' : List Cond} {rm : Room} (n : Nat) (ht : ∀ w ∈ Ts, w.before args s = true) (hT : GoodIn Ts (wsV own index C y ws)) (hw : ws = Cond.codeWith y bytes maxL ret hh :: ws') (hrc : rm.cells = mc) (hrs : rm.slots = ms)
    (hd : y.cls = C ∧ y.cls ≠ "java/lang/invoke/MethodHandle" ∧ y.cls ≠ "java/lang/invoke/VarHandle" ∧ (parseMethodDescriptor y.desc).map (fun d => d.parameters.length) = some n) (hR : rm.frames + 1 ≤ R.frames ∧ 8 + (maxL + 11) + rm.locals ≤ R.locals) :
    vx_CVW R s args own C index y bytes maxL ret hh ws rm mc ms n := by
  obtain ⟨hC, hd⟩ := hd
  subst hC
  have ok : ∀ w ∈ wsV own index y.cls y ws, w.before args s = true := fun w h => ht w (hT w h).1
  have hG : GoodIn Ts ws := fun w h => hT w (by unfold wsV; exact List.mem_append_right _ h)
  have hc : Cond.codeWith y bytes maxL ret hh ∈ ws := by rw [hw]; exact List.mem_cons_self
  refine ⟨⟨hrc, hrs, hR.1, hR.2, pay_in ht hG, hc⟩, ht _ (hG _ hc).1, ok _ (by simp [wsV]), ⟨hd.1, hd.2.1⟩, fun sig h => ?_, ok _ (by simp [wsV]), ok _ (by simp [wsV]), ok _ (by simp [wsV])⟩
  have h2 := hd.2.2
  rw [h] at h2
  exact (Option.some.inj h2).symm
theorem vx_runVW {y : MethodName} {bytes cc : ByteArray} {maxL nL mc ms n index : Nat} {ret : Option FieldType} {hh : List (Nat × Nat × Nat × Nat)} {ws : List Cond} {rm : Room} {Pc : Array Value → State → Prop} {Qc : Array Value → State → Outcome → State → Prop} {free : Addr → Prop} {Ts : List Cond} {own C : String} {b : Addr} {As rest : List Value} {g : JFrame}
    (S : CallFix p m c cc nL s args Ts own) (hM : Met l y ws rm Pc Qc mc ms free) (cw : vx_CVW R s args own C index y bytes maxL ret hh ws rm mc ms n) (hp : PreV s H C b Pc As)
    (hg : g.method = m) (hn : As.length = n) (hsize : g.locals.size = nL) (hstack : g.stack = As.reverse ++ .ref b :: rest) (hW : 2 * g.monitorRoom + (rest.map fun v => v.category).sum ≤ 8) (hdg : decode cc g.pc = .ok (.invokevirtual index, 3)) (hf : cells + mc ≤ R.cells ∧ slots + ms ≤ R.slots) :
    va_Run p l e R s m args below meth c H locs cells slots mc ms g rest (Qc (Value.ref b :: As).toArray) free := by
  obtain ⟨⟨hrc, hrs, hfr, hlo, hws, hcw⟩, hcode, hini, hy, hlen, hl, hin, hse⟩ := cw
  have hK : Back l R p e below s args y 3 8 (PreOf R mc ms Pc) (PostOf Qc mc ms free) := va_backW (hh := hh) (bytes := bytes) (maxL := maxL) (ret := ret) hM hp.1 hrc hrs hfr hlo hws hcw (fun a' U hW => word_at hW (Or.inl (by first | rfl | simp [Cond.onTables, Cond.keeps, Cond.steady])) hini)
  obtain ⟨hx, hb, hml, ho, -⟩ := S
  obtain ⟨-, ⟨cellB, hcB, hoB, hclB⟩, hPc⟩ := hp
  intro T hT X
  obtain ⟨v, vm₁, ⟨U', l2, c2, s2⟩, hW₁, X', ⟨g', mk, t, L, e1, e2, hq, h1, hL, h2, h3⟩, st⟩ := vx_callVW X hx (C := C) (hh := hh) (bytes := bytes) (maxL := maxL) (ret := ret) ho hl hin hse hcode hy hK (by rw [hT]; exact hcB) hoB hclB hg (hsize.trans hml.symm) (argsL := As) (rest := rest) (fun sig h => hn.trans (hlen sig h)) hstack hW (by rw [hb]; exact hdg)
    (fun vm₁ hW₁ => ⟨hf.1, hf.2, hPc (T.setVm vm₁) hT hW₁⟩)
  dsimp only [Pt.U, Pt.locs, Pt.cells, Pt.slots] at X' e1 e2 h1 h2 h3 st
  subst h1; subst h2; subst h3
  exact ⟨v, (T.setVm vm₁).calling g' mk (Value.ref b :: As).toArray, t, U', L, hT, X', hL, e1, e2, hq, st⟩
section
variable {y : MethodName} {bytes cc : ByteArray} {maxL nL mc ms n index : Nat} {ret : Option FieldType} {ws : List Cond} {rm : Room} {Pc : Array Value → State → Prop} {Qc : Array Value → State → Outcome → State → Prop} {XC : String → State → State → Prop} {free : Addr → Prop} {Ts : List Cond} {own C : String} {b : Addr} {As rest : List Value} {g : JFrame}
theorem vx_runVX {hh : List (Nat × Nat × Nat × Nat)} (S : CallFix p m c cc nL s args Ts own) (hM : vx_Met l y ws rm Pc Qc XC mc ms free) (cw : vx_CVW R s args own C index y bytes maxL ret hh ws rm mc ms n) (hp : PreV s H C b Pc As)
    (hg : g.method = m) (hn : As.length = n) (hsize : g.locals.size = nL) (hstack : g.stack = As.reverse ++ .ref b :: rest) (hW : 2 * g.monitorRoom + (rest.map fun v => v.category).sum ≤ 8) (hdg : decode cc g.pc = .ok (.invokevirtual index, 3)) (hf : cells + mc ≤ R.cells ∧ slots + ms ≤ R.slots) :
    vx_Run p l e R s m args below meth c H locs cells slots mc ms g rest (Qc (Value.ref b :: As).toArray) XC free := by
  obtain ⟨⟨hrc, hrs, hfr, hlo, hws, hcw⟩, hcode, hini, hy, hlen, hl, hin, hse⟩ := cw
  have hK : vx_Back l R p e below s args y 3 8 (PreOf R mc ms Pc) (PostOf Qc mc ms free) (vx_Post XC mc ms free) := vx_backW (hh := hh) (bytes := bytes) (maxL := maxL) (ret := ret) hM hp.1 hrc hrs hfr hlo hws hcw (fun a' U hW => word_at hW (Or.inl (by first | rfl | simp [Cond.onTables, Cond.keeps, Cond.steady])) hini)
  obtain ⟨hx, hb, hml, ho, -⟩ := S
  obtain ⟨-, ⟨cellB, hcB, hoB, hclB⟩, hPc⟩ := hp
  intro T hT X
  rcases vx_callVX X hx (C := C) (hh := hh) (bytes := bytes) (maxL := maxL) (ret := ret) ho hl hin hse hcode hy hK (by rw [hT]; exact hcB) hoB hclB hg (hsize.trans hml.symm) (argsL := As) (rest := rest) (fun sig h => hn.trans (hlen sig h)) hstack hW (by rw [hb]; exact hdg)
    (fun vm₁ hW₁ => ⟨hf.1, hf.2, hPc (T.setVm vm₁) hT hW₁⟩) with ⟨v, vm₁, ⟨U', l2, c2, s2⟩, hW₁, X', ⟨g', mk, t, L, e1, e2, hq, h1, hL, h2, h3⟩, st⟩ | ⟨q, vm₁, ⟨U', l2, c2, s2⟩, hW₁, X', ⟨g', mk, t, L, E, ce, e1, e2, hq, hce, hcv, hcl, h1, hL, h2, h3⟩, st⟩
  · dsimp only [Pt.U, Pt.locs, Pt.cells, Pt.slots] at X' e1 e2 h1 h2 h3 st
    subst h1; subst h2; subst h3
    exact Or.inl ⟨v, (T.setVm vm₁).calling g' mk (Value.ref b :: As).toArray, t, U', L, hT, X', hL, e1, e2, hq, st⟩
  · dsimp only [Pt.U, Pt.locs, Pt.cells, Pt.slots] at X' e1 e2 h1 h2 h3 st hcl
    subst h1; subst h2; subst h3
    exact Or.inr ⟨q, (T.setVm vm₁).calling g' mk (Value.ref b :: As).toArray, t, U', L, E, ce, hT, X', hL, e1, e2, hq, hce, hcv, vx_cls hW₁ hcl, st⟩
theorem vx_runSX {hh : List (Nat × Nat × Nat × Nat)} (S : CallFix p m c cc nL s args Ts own) (hM : vx_Met l y ws rm Pc Qc XC mc ms free) (cw : vx_CSW R s args own index y bytes maxL ret hh ws rm mc ms n) (hp : PreS s H Pc As)
    (hg : g.method = m) (hn : As.length = n) (hsize : g.locals.size = nL) (hstack : g.stack = As.reverse ++ rest) (hW : 2 * g.monitorRoom + (rest.map fun v => v.category).sum ≤ 8) (hdg : decode cc g.pc = .ok (.invokestatic index, 3)) (hf : cells + mc ≤ R.cells ∧ slots + ms ≤ R.slots) :
    vx_Run p l e R s m args below meth c H locs cells slots mc ms g rest (Qc As.toArray) XC free := by
  obtain ⟨⟨hrc, hrs, hfr, hlo, hws, hcw⟩, hcode, hini, hy, hlen, hl, hstt⟩ := cw
  have hK : vx_Back l R p e below s args y 3 8 (PreOf R mc ms Pc) (PostOf Qc mc ms free) (vx_Post XC mc ms free) := vx_backW (hh := hh) (bytes := bytes) (maxL := maxL) (ret := ret) hM hp.1 hrc hrs hfr hlo hws hcw (fun a' U hW => word_at hW (Or.inl (by first | rfl | simp [Cond.onTables, Cond.keeps, Cond.steady])) hini)
  obtain ⟨hx, hb, hml, ho, -⟩ := S
  intro T hT X
  rcases vx_callSX X hx (hh := hh) (bytes := bytes) (maxL := maxL) (ret := ret) ho hl hstt hini hcode hy hK hg (hsize.trans hml.symm) (argsL := As) (rest := rest) (fun sig h => hn.trans (hlen sig h)) hstack hW (by rw [hb]; exact hdg)
    (fun vm₁ hW₁ => ⟨hf.1, hf.2, hp.2 (T.setVm vm₁) hT hW₁⟩) with ⟨v, vm₁, ⟨U', l2, c2, s2⟩, hW₁, X', ⟨g', mk, t, L, e1, e2, hq, h1, hL, h2, h3⟩, st⟩ | ⟨q, vm₁, ⟨U', l2, c2, s2⟩, hW₁, X', ⟨g', mk, t, L, E, ce, e1, e2, hq, hce, hcv, hcl, h1, hL, h2, h3⟩, st⟩
  · dsimp only [Pt.U, Pt.locs, Pt.cells, Pt.slots] at X' e1 e2 h1 h2 h3 st
    subst h1; subst h2; subst h3
    exact Or.inl ⟨v, (T.setVm vm₁).calling g' mk As.toArray, t, U', L, hT, X', hL, e1, e2, hq, st⟩
  · dsimp only [Pt.U, Pt.locs, Pt.cells, Pt.slots] at X' e1 e2 h1 h2 h3 st hcl
    subst h1; subst h2; subst h3
    exact Or.inr ⟨q, (T.setVm vm₁).calling g' mk As.toArray, t, U', L, E, ce, hT, X', hL, e1, e2, hq, hce, hcv, vx_cls hW₁ hcl, st⟩
end
end VXH
theorem vx_ofWH {l : Launch} {y : MethodName} {ws ws' : List Cond} {rm : Room} {Pc : Array Value → State → Prop} {Qc : Array Value → State → Outcome → State → Prop} {XC : String → State → State → Prop} {mc ms : Nat} {free : Addr → Prop} {cc : ByteArray} {maxL : Nat} {ret : Option FieldType} {hh : List (Nat × Nat × Nat × Nat)}
    (hy : plainName y.cls = true) (hw : ws = Cond.codeWith y cc maxL ret hh :: ws')
    (body : ∀ p e s m args below meth c s₁, BodyLoose p l y (headSpec ws rm) cc maxL ret e s m args below meth c s₁ → c.maxLocals = maxL → Pc args s →
      W p l e (headSpec ws rm).room s m args below meth c s.heap [] 0 0 (vx_MQ below Qc XC args s mc ms free) (entryFrame m args maxL)) : vx_Met l y ws rm Pc Qc XC mc ms free := by
  refine MetFree.of_bodyS (code := cc) (maxLocals := maxL) (ret := ret) hy ?_ ?_
  · intro args s m h hn
    obtain ⟨m9, meth, c, hn9, h1, h2, h3, h4, -, h5, h6, -⟩ := Cond.codeWith_spec (atoms_spec (ws := ws) h _ (by rw [hw]; exact List.mem_cons_self))
    cases hn.symm.trans hn9
    exact ⟨meth, c, h1, h2, h3, h4, h5, h6⟩
  · intro p e s m args below meth c s₁ B hml hP _
    have hh0 : s₁.heap = s.heap := by rw [B.state]; rfl
    obtain ⟨t, a1, o, b1, b2, b3⟩ := body p e s m args below meth c s₁ B hml hP s₁ hh0 (Stand.of_body B)
    exact ⟨t, o, a1, b1, b2, b3⟩
/-! ===== END ===== -/

/-! ===== BEGIN printed: names, fields, word lists, decode rows ===== -/
def RX0 : String := "LoomDraft$Cloth"
def TX0 : u_T := fun k => match k with
  | 0 => ("LoomDraft$Cloth", "endsUp", "[J", true)
  | 1 => ("LoomDraft$Cloth", "floatsOfAtLeast", "[I", true)
  | 2 => ("LoomDraft$Cloth", "ends", "I", false)
  | _ => ("LoomDraft$Cloth", "picks", "I", false)
def tyX0 : Nat → FieldType := fun k => match k with
  | 0 => .array .long
  | 1 => .array .int
  | 2 => .int
  | _ => .int
abbrev wsX00 : List Cond := u_ws RX0 TX0 4
theorem nmX0 : ∀ a, a < 4 → ∀ b, b < 4 → a ≠ b → (TX0 a).2.1 ≠ (TX0 b).2.1 := by decide +kernel
theorem tyX0_ok : ∀ k, k < 4 → parseFieldDescriptor (TX0 k).2.2.1 = some (tyX0 k) := by decide +kernel
abbrev cX0_init : ByteArray := prog_2_method_1_code
def yX0_init : MethodName := ⟨RX0, "<init>", "()V"⟩
abbrev cX0_countFloats : ByteArray := prog_2_method_2_code
def yX0_countFloats : MethodName := ⟨RX0, "countFloats", "(ZZ)V"⟩
abbrev cX0_isUp : ByteArray := prog_2_method_3_code
def yX0_isUp : MethodName := ⟨RX0, "isUp", "(II)Z"⟩
abbrev cX0_placesWithEndUp : ByteArray := prog_2_method_4_code
def yX0_placesWithEndUp : MethodName := ⟨RX0, "placesWithEndUp", "()I"⟩
abbrev cX0_picksUnder : ByteArray := prog_2_method_5_code
def yX0_picksUnder : MethodName := ⟨RX0, "picksUnder", "(I)J"⟩
abbrev cX0_endsUnder : ByteArray := prog_2_method_6_code
def yX0_endsUnder : MethodName := ⟨RX0, "endsUnder", "(I)J"⟩
def RX1 : String := "LoomDraft$Drawing"
def TX1 : u_T := fun k => match k with
  | 0 => ("LoomDraft$Drawing", "rows", "[J", true)
  | 1 => ("LoomDraft$Drawing", "columnCells", "[J", true)
  | 2 => ("LoomDraft$Drawing", "shaftOf", "[I", true)
  | 3 => ("LoomDraft$Drawing", "treadleOf", "[I", true)
  | 4 => ("LoomDraft$Drawing", "columns", "I", false)
  | _ => ("LoomDraft$Drawing", "size", "I", false)
def tyX1 : Nat → FieldType := fun k => match k with
  | 0 => .array .long
  | 1 => .array .long
  | 2 => .array .int
  | 3 => .array .int
  | 4 => .int
  | _ => .int
abbrev wsX10 : List Cond := u_ws RX1 TX1 6
theorem nmX1 : ∀ a, a < 6 → ∀ b, b < 6 → a ≠ b → (TX1 a).2.1 ≠ (TX1 b).2.1 := by decide +kernel
theorem tyX1_ok : ∀ k, k < 6 → parseFieldDescriptor (TX1 k).2.2.1 = some (tyX1 k) := by decide +kernel
abbrev cX1_init : ByteArray := prog_3_method_1_code
def yX1_init : MethodName := ⟨RX1, "<init>", "()V"⟩
abbrev cX1_numberColumns : ByteArray := prog_3_method_2_code
def yX1_numberColumns : MethodName := ⟨RX1, "numberColumns", "()I"⟩
abbrev cX1_numberRows : ByteArray := prog_3_method_3_code
def yX1_numberRows : MethodName := ⟨RX1, "numberRows", "()I"⟩
abbrev cX1_cellsOfColumn : ByteArray := prog_3_method_4_code
def yX1_cellsOfColumn : MethodName := ⟨RX1, "cellsOfColumn", "(I)J"⟩
abbrev cX1_numberAlike : ByteArray := prog_3_method_5_code
def yX1_numberAlike : MethodName := ⟨RX1, "numberAlike", "([JI[I)I"⟩
abbrev cX1_firstLike : ByteArray := prog_3_method_6_code
def yX1_firstLike : MethodName := ⟨RX1, "firstLike", "([JI)I"⟩
abbrev cX1_digestFrom : ByteArray := prog_3_method_7_code
def yX1_digestFrom : MethodName := ⟨RX1, "digestFrom", "(J)J"⟩
def RX2 : String := "LoomDraft$Leading"
def TX2 : u_T := fun k => match k with
  | 0 => ("LoomDraft$Leading", "toEnds", "[J", true)
  | 1 => ("LoomDraft$Leading", "toPicks", "[J", true)
  | 2 => ("LoomDraft$Leading", "ends", "I", false)
  | _ => ("LoomDraft$Leading", "threads", "I", false)
def tyX2 : Nat → FieldType := fun k => match k with
  | 0 => .array .long
  | 1 => .array .long
  | 2 => .int
  | _ => .int
abbrev wsX20 : List Cond := u_ws RX2 TX2 4
theorem nmX2 : ∀ a, a < 4 → ∀ b, b < 4 → a ≠ b → (TX2 a).2.1 ≠ (TX2 b).2.1 := by decide +kernel
theorem tyX2_ok : ∀ k, k < 4 → parseFieldDescriptor (TX2 k).2.2.1 = some (tyX2 k) := by decide +kernel
abbrev cX2_init : ByteArray := prog_4_method_1_code
def yX2_init : MethodName := ⟨RX2, "<init>", "()V"⟩
abbrev cX2_follow : ByteArray := prog_4_method_2_code
def yX2_follow : MethodName := ⟨RX2, "follow", "(LLoomDraft$Cloth;)V"⟩
abbrev cX2_begin : ByteArray := prog_4_method_3_code
def yX2_begin : MethodName := ⟨RX2, "begin", "(LLoomDraft$Cloth;)V"⟩
abbrev cX2_leads : ByteArray := prog_4_method_4_code
def yX2_leads : MethodName := ⟨RX2, "leads", "(II)Z"⟩
abbrev cX2_groups : ByteArray := prog_4_method_5_code
def yX2_groups : MethodName := ⟨RX2, "groups", "()I"⟩
abbrev cX2_isFirstOfGroup : ByteArray := prog_4_method_6_code
def yX2_isFirstOfGroup : MethodName := ⟨RX2, "isFirstOfGroup", "(I)Z"⟩
def RX3 : String := "LoomDraft$ThreadRow"
def TX3 : u_T := fun k => match k with
  | 0 => ("LoomDraft$ThreadRow", "bindings", "[I", true)
  | 1 => ("LoomDraft$ThreadRow", "colours", "[I", true)
  | _ => ("LoomDraft$ThreadRow", "size", "I", false)
def tyX3 : Nat → FieldType := fun k => match k with
  | 0 => .array .int
  | 1 => .array .int
  | _ => .int
abbrev wsX30 : List Cond := u_ws RX3 TX3 3
theorem nmX3 : ∀ a, a < 3 → ∀ b, b < 3 → a ≠ b → (TX3 a).2.1 ≠ (TX3 b).2.1 := by decide +kernel
theorem tyX3_ok : ∀ k, k < 3 → parseFieldDescriptor (TX3 k).2.2.1 = some (tyX3 k) := by decide +kernel
abbrev cX3_init : ByteArray := prog_5_method_1_code
def yX3_init : MethodName := ⟨RX3, "<init>", "()V"⟩
abbrev cX3_has : ByteArray := prog_5_method_2_code
def yX3_has : MethodName := ⟨RX3, "has", "(I)Z"⟩
abbrev cX3_isFull : ByteArray := prog_5_method_3_code
def yX3_isFull : MethodName := ⟨RX3, "isFull", "()Z"⟩
abbrev cX3_add : ByteArray := prog_5_method_4_code
def yX3_add : MethodName := ⟨RX3, "add", "(II)I"⟩
abbrev cX3_addCopy : ByteArray := prog_5_method_5_code
def yX3_addCopy : MethodName := ⟨RX3, "addCopy", "()V"⟩
abbrev cX3_turn : ByteArray := prog_5_method_6_code
def yX3_turn : MethodName := ⟨RX3, "turn", "(II)V"⟩
abbrev cX3_swap : ByteArray := prog_5_method_7_code
def yX3_swap : MethodName := ⟨RX3, "swap", "(II)V"⟩
abbrev cX3_moveOn : ByteArray := prog_5_method_8_code
def yX3_moveOn : MethodName := ⟨RX3, "moveOn", "(I)V"⟩
abbrev cX3_leastPeriod : ByteArray := prog_5_method_9_code
def yX3_leastPeriod : MethodName := ⟨RX3, "leastPeriod", "()I"⟩
abbrev cX3_repeatsAfter : ByteArray := prog_5_method_10_code
def yX3_repeatsAfter : MethodName := ⟨RX3, "repeatsAfter", "(I)Z"⟩
abbrev cX3_threadsColoured : ByteArray := prog_5_method_11_code
def yX3_threadsColoured : MethodName := ⟨RX3, "threadsColoured", "(I)I"⟩
abbrev cX3_digestFrom : ByteArray := prog_5_method_12_code
def yX3_digestFrom : MethodName := ⟨RX3, "digestFrom", "(J)J"⟩
def RX4 : String := "LoomDraft"
def TX4 : u_T := fun k => match k with
  | 0 => ("LoomDraft", "warp", "LLoomDraft$ThreadRow;", true)
  | 1 => ("LoomDraft", "weft", "LLoomDraft$ThreadRow;", true)
  | 2 => ("LoomDraft", "ties", "[I", true)
  | 3 => ("LoomDraft", "rising", "Z", false)
  | 4 => ("LoomDraft", "drawing", "LLoomDraft$Drawing;", true)
  | 5 => ("LoomDraft", "cloth", "LLoomDraft$Cloth;", true)
  | _ => ("LoomDraft", "leading", "LLoomDraft$Leading;", true)
def tyX4 : Nat → FieldType := fun k => match k with
  | 0 => .object "LoomDraft$ThreadRow"
  | 1 => .object "LoomDraft$ThreadRow"
  | 2 => .array .int
  | 3 => .boolean
  | 4 => .object "LoomDraft$Drawing"
  | 5 => .object "LoomDraft$Cloth"
  | _ => .object "LoomDraft$Leading"
abbrev wsX40 : List Cond := u_ws RX4 TX4 7
theorem nmX4 : ∀ a, a < 7 → ∀ b, b < 7 → a ≠ b → (TX4 a).2.1 ≠ (TX4 b).2.1 := by decide +kernel
theorem tyX4_ok : ∀ k, k < 7 → parseFieldDescriptor (TX4 k).2.2.1 = some (tyX4 k) := by decide +kernel
abbrev cX4_init : ByteArray := prog_1_method_1_code
def yX4_init : MethodName := ⟨RX4, "<init>", "()V"⟩
abbrev cX4_thread : ByteArray := prog_1_method_2_code
def yX4_thread : MethodName := ⟨RX4, "thread", "(II)I"⟩
abbrev cX4_tread : ByteArray := prog_1_method_3_code
def yX4_tread : MethodName := ⟨RX4, "tread", "(II)I"⟩
abbrev cX4_tie : ByteArray := prog_1_method_4_code
def yX4_tie : MethodName := ⟨RX4, "tie", "(II)I"⟩
abbrev cX4_setRising : ByteArray := prog_1_method_5_code
def yX4_setRising : MethodName := ⟨RX4, "setRising", "(Z)Z"⟩
abbrev cX4_count : ByteArray := prog_1_method_6_code
def yX4_count : MethodName := ⟨RX4, "count", "(Z)I"⟩
abbrev cX4_end : ByteArray := prog_1_method_7_code
def yX4_end : MethodName := ⟨RX4, "end", "(II)I"⟩
abbrev cX4_pick : ByteArray := prog_1_method_8_code
def yX4_pick : MethodName := ⟨RX4, "pick", "(II)I"⟩
abbrev cX4_reverse : ByteArray := prog_1_method_9_code
def yX4_reverse : MethodName := ⟨RX4, "reverse", "(Z)I"⟩
abbrev cX4_rotate : ByteArray := prog_1_method_10_code
def yX4_rotate : MethodName := ⟨RX4, "rotate", "(ZI)I"⟩
abbrev cX4_repeat : ByteArray := prog_1_method_11_code
def yX4_repeat : MethodName := ⟨RX4, "repeat", "(Z)I"⟩
abbrev cX4_cut : ByteArray := prog_1_method_12_code
def yX4_cut : MethodName := ⟨RX4, "cut", "(ZI)I"⟩
abbrev cX4_isWarpOnTop : ByteArray := prog_1_method_13_code
def yX4_isWarpOnTop : MethodName := ⟨RX4, "isWarpOnTop", "(II)Z"⟩
abbrev cX4_colour : ByteArray := prog_1_method_14_code
def yX4_colour : MethodName := ⟨RX4, "colour", "(II)I"⟩
abbrev cX4_longestFloat : ByteArray := prog_1_method_15_code
def yX4_longestFloat : MethodName := ⟨RX4, "longestFloat", "(ZZ)I"⟩
abbrev cX4_floats : ByteArray := prog_1_method_16_code
def yX4_floats : MethodName := ⟨RX4, "floats", "(ZI)I"⟩
abbrev cX4_warpShare : ByteArray := prog_1_method_17_code
def yX4_warpShare : MethodName := ⟨RX4, "warpShare", "()D"⟩
abbrev cX4_period : ByteArray := prog_1_method_18_code
def yX4_period : MethodName := ⟨RX4, "period", "(Z)I"⟩
abbrev cX4_layers : ByteArray := prog_1_method_19_code
def yX4_layers : MethodName := ⟨RX4, "layers", "()I"⟩
abbrev cX4_hangsTogether : ByteArray := prog_1_method_20_code
def yX4_hangsTogether : MethodName := ⟨RX4, "hangsTogether", "()Z"⟩
abbrev cX4_colourAt : ByteArray := prog_1_method_21_code
def yX4_colourAt : MethodName := ⟨RX4, "colourAt", "(I)I"⟩
abbrev cX4_threadsOf : ByteArray := prog_1_method_22_code
def yX4_threadsOf : MethodName := ⟨RX4, "threadsOf", "(I)I"⟩
abbrev cX4_draw : ByteArray := prog_1_method_23_code
def yX4_draw : MethodName := ⟨RX4, "draw", "(I)I"⟩
abbrev cX4_row : ByteArray := prog_1_method_24_code
def yX4_row : MethodName := ⟨RX4, "row", "(J)I"⟩
abbrev cX4_fit : ByteArray := prog_1_method_25_code
def yX4_fit : MethodName := ⟨RX4, "fit", "()I"⟩
abbrev cX4_differences : ByteArray := prog_1_method_26_code
def yX4_differences : MethodName := ⟨RX4, "differences", "()I"⟩
abbrev cX4_digest : ByteArray := prog_1_method_27_code
def yX4_digest : MethodName := ⟨RX4, "digest", "()J"⟩
abbrev cX4_isBelow : ByteArray := prog_1_method_28_code
def yX4_isBelow : MethodName := ⟨RX4, "isBelow", "(II)Z"⟩
abbrev cX4_isSetOf : ByteArray := prog_1_method_29_code
def yX4_isSetOf : MethodName := ⟨RX4, "isSetOf", "(II)Z"⟩
abbrev cX4_hasBit : ByteArray := prog_1_method_30_code
def yX4_hasBit : MethodName := ⟨RX4, "hasBit", "(JI)Z"⟩
abbrev cX4_allOf : ByteArray := prog_1_method_31_code
def yX4_allOf : MethodName := ⟨RX4, "allOf", "(I)J"⟩
abbrev cX4_digestWith : ByteArray := prog_1_method_32_code
def yX4_digestWith : MethodName := ⟨RX4, "digestWith", "(JJ)J"⟩
abbrev cX4_rowOf : ByteArray := prog_1_method_33_code
def yX4_rowOf : MethodName := ⟨RX4, "rowOf", "(Z)LLoomDraft$ThreadRow;"⟩
abbrev cX4_shaftsMovedFor : ByteArray := prog_1_method_34_code
def yX4_shaftsMovedFor : MethodName := ⟨RX4, "shaftsMovedFor", "(I)I"⟩
abbrev cX4_shaftsUpAt : ByteArray := prog_1_method_35_code
def yX4_shaftsUpAt : MethodName := ⟨RX4, "shaftsUpAt", "(I)J"⟩
abbrev cX4_weave : ByteArray := prog_1_method_36_code
def yX4_weave : MethodName := ⟨RX4, "weave", "()V"⟩
abbrev cX4_colourAppearingAs : ByteArray := prog_1_method_37_code
def yX4_colourAppearingAs : MethodName := ⟨RX4, "colourAppearingAs", "(I)I"⟩
abbrev cX4_tieAsNumbered : ByteArray := prog_1_method_38_code
def yX4_tieAsNumbered : MethodName := ⟨RX4, "tieAsNumbered", "()V"⟩
abbrev cX4_threadAsNumbered : ByteArray := prog_1_method_39_code
def yX4_threadAsNumbered : MethodName := ⟨RX4, "threadAsNumbered", "()V"⟩
def RX5 : String := "LoomDraftModel"
def TX5 : u_T := fun k => match k with
  | 0 => ("LoomDraftModel", "thrown", "I", false)
  | 1 => ("LoomDraftModel", "isRising", "Z", false)
  | 2 => ("LoomDraftModel", "ties", "[I", true)
  | 3 => ("LoomDraftModel", "sizes", "[I", true)
  | 4 => ("LoomDraftModel", "firsts", "[[I", true)
  | 5 => ("LoomDraftModel", "colours", "[[I", true)
  | 6 => ("LoomDraftModel", "columns", "I", false)
  | 7 => ("LoomDraftModel", "drawn", "I", false)
  | _ => ("LoomDraftModel", "drawing", "[J", true)
def tyX5 : Nat → FieldType := fun k => match k with
  | 0 => .int
  | 1 => .boolean
  | 2 => .array .int
  | 3 => .array .int
  | 4 => .array (.array .int)
  | 5 => .array (.array .int)
  | 6 => .int
  | 7 => .int
  | _ => .array .long
abbrev wsX50 : List Cond := u_ws RX5 TX5 9
theorem nmX5 : ∀ a, a < 9 → ∀ b, b < 9 → a ≠ b → (TX5 a).2.1 ≠ (TX5 b).2.1 := by decide +kernel
theorem tyX5_ok : ∀ k, k < 9 → parseFieldDescriptor (TX5 k).2.2.1 = some (tyX5 k) := by decide +kernel
abbrev cX5_init : ByteArray := prog_7_method_1_code
def yX5_init : MethodName := ⟨RX5, "<init>", "()V"⟩
abbrev cX5_thrown : ByteArray := prog_7_method_2_code
def yX5_thrown : MethodName := ⟨RX5, "thrown", "()I"⟩
abbrev cX5_fail : ByteArray := prog_7_method_3_code
def yX5_fail : MethodName := ⟨RX5, "fail", "(I)I"⟩
abbrev cX5_isIn : ByteArray := prog_7_method_4_code
def yX5_isIn : MethodName := ⟨RX5, "isIn", "(III)Z"⟩
abbrev cX5_of : ByteArray := prog_7_method_5_code
def yX5_of : MethodName := ⟨RX5, "of", "(Z)I"⟩
abbrev cX5_add : ByteArray := prog_7_method_6_code
def yX5_add : MethodName := ⟨RX5, "add", "(III)I"⟩
abbrev cX5_thread : ByteArray := prog_7_method_7_code
def yX5_thread : MethodName := ⟨RX5, "thread", "(II)I"⟩
abbrev cX5_tread : ByteArray := prog_7_method_8_code
def yX5_tread : MethodName := ⟨RX5, "tread", "(II)I"⟩
abbrev cX5_tie : ByteArray := prog_7_method_9_code
def yX5_tie : MethodName := ⟨RX5, "tie", "(II)I"⟩
abbrev cX5_setRising : ByteArray := prog_7_method_10_code
def yX5_setRising : MethodName := ⟨RX5, "setRising", "(Z)Z"⟩
abbrev cX5_count : ByteArray := prog_7_method_11_code
def yX5_count : MethodName := ⟨RX5, "count", "(Z)I"⟩
abbrev cX5_end : ByteArray := prog_7_method_12_code
def yX5_end : MethodName := ⟨RX5, "end", "(II)I"⟩
abbrev cX5_moved : ByteArray := prog_7_method_13_code
def yX5_moved : MethodName := ⟨RX5, "moved", "(I)I"⟩
abbrev cX5_pick : ByteArray := prog_7_method_14_code
def yX5_pick : MethodName := ⟨RX5, "pick", "(II)I"⟩
abbrev cX5_lay : ByteArray := prog_7_method_15_code
def yX5_lay : MethodName := ⟨RX5, "lay", "(I[I)I"⟩
abbrev cX5_reverse : ByteArray := prog_7_method_16_code
def yX5_reverse : MethodName := ⟨RX5, "reverse", "(Z)I"⟩
abbrev cX5_rotate : ByteArray := prog_7_method_17_code
def yX5_rotate : MethodName := ⟨RX5, "rotate", "(ZI)I"⟩
abbrev cX5_repeat : ByteArray := prog_7_method_18_code
def yX5_repeat : MethodName := ⟨RX5, "repeat", "(Z)I"⟩
abbrev cX5_cut : ByteArray := prog_7_method_19_code
def yX5_cut : MethodName := ⟨RX5, "cut", "(ZI)I"⟩
abbrev cX5_above : ByteArray := prog_7_method_20_code
def yX5_above : MethodName := ⟨RX5, "above", "(I)J"⟩
abbrev cX5_has : ByteArray := prog_7_method_21_code
def yX5_has : MethodName := ⟨RX5, "has", "(JI)Z"⟩
abbrev cX5_isPlace : ByteArray := prog_7_method_22_code
def yX5_isPlace : MethodName := ⟨RX5, "isPlace", "(II)Z"⟩
abbrev cX5_isWarpOnTop : ByteArray := prog_7_method_23_code
def yX5_isWarpOnTop : MethodName := ⟨RX5, "isWarpOnTop", "(II)Z"⟩
abbrev cX5_colour : ByteArray := prog_7_method_24_code
def yX5_colour : MethodName := ⟨RX5, "colour", "(II)I"⟩
abbrev cX5_floatsOf : ByteArray := prog_7_method_25_code
def yX5_floatsOf : MethodName := ⟨RX5, "floatsOf", "(ZZI)I"⟩
abbrev cX5_longestFloat : ByteArray := prog_7_method_26_code
def yX5_longestFloat : MethodName := ⟨RX5, "longestFloat", "(ZZ)I"⟩
abbrev cX5_floats : ByteArray := prog_7_method_27_code
def yX5_floats : MethodName := ⟨RX5, "floats", "(ZI)I"⟩
abbrev cX5_warpShare : ByteArray := prog_7_method_28_code
def yX5_warpShare : MethodName := ⟨RX5, "warpShare", "()D"⟩
abbrev cX5_period : ByteArray := prog_7_method_29_code
def yX5_period : MethodName := ⟨RX5, "period", "(Z)I"⟩
abbrev cX5_spread : ByteArray := prog_7_method_30_code
def yX5_spread : MethodName := ⟨RX5, "spread", "(ZI[J)[J"⟩
abbrev cX5_layersOf : ByteArray := prog_7_method_31_code
def yX5_layersOf : MethodName := ⟨RX5, "layersOf", "()I"⟩
abbrev cX5_leads : ByteArray := prog_7_method_32_code
def yX5_leads : MethodName := ⟨RX5, "leads", "([JI)Z"⟩
abbrev cX5_layers : ByteArray := prog_7_method_33_code
def yX5_layers : MethodName := ⟨RX5, "layers", "()I"⟩
abbrev cX5_hangsTogether : ByteArray := prog_7_method_34_code
def yX5_hangsTogether : MethodName := ⟨RX5, "hangsTogether", "()Z"⟩
abbrev cX5_colourAt : ByteArray := prog_7_method_35_code
def yX5_colourAt : MethodName := ⟨RX5, "colourAt", "(I)I"⟩
abbrev cX5_threadsOf : ByteArray := prog_7_method_36_code
def yX5_threadsOf : MethodName := ⟨RX5, "threadsOf", "(I)I"⟩
abbrev cX5_draw : ByteArray := prog_7_method_37_code
def yX5_draw : MethodName := ⟨RX5, "draw", "(I)I"⟩
abbrev cX5_row : ByteArray := prog_7_method_38_code
def yX5_row : MethodName := ⟨RX5, "row", "(J)I"⟩
abbrev cX5_column : ByteArray := prog_7_method_39_code
def yX5_column : MethodName := ⟨RX5, "column", "(I)J"⟩
abbrev cX5_numbered : ByteArray := prog_7_method_40_code
def yX5_numbered : MethodName := ⟨RX5, "numbered", "([J)[I"⟩
abbrev cX5_fit : ByteArray := prog_7_method_41_code
def yX5_fit : MethodName := ⟨RX5, "fit", "()I"⟩
abbrev cX5_differences : ByteArray := prog_7_method_42_code
def yX5_differences : MethodName := ⟨RX5, "differences", "()I"⟩
abbrev cX5_digest : ByteArray := prog_7_method_43_code
def yX5_digest : MethodName := ⟨RX5, "digest", "()J"⟩
def RJx145de : String := "java/io/Serializable"
def TJx145de : u_T := fun k => match k with
  | _ => ("", "", "", false)
def tyJx145de : Nat → FieldType := fun k => match k with
  | _ => .int
abbrev wsJx145de0 : List Cond := u_ws RJx145de TJx145de 0
theorem nmJx145de : ∀ a, a < 0 → ∀ b, b < 0 → a ≠ b → (TJx145de a).2.1 ≠ (TJx145de b).2.1 := by decide +kernel
theorem tyJx145de_ok : ∀ k, k < 0 → parseFieldDescriptor (TJx145de k).2.2.1 = some (tyJx145de k) := by decide +kernel
def RJx8e188 : String := "java/lang/Cloneable"
def TJx8e188 : u_T := fun k => match k with
  | _ => ("", "", "", false)
def tyJx8e188 : Nat → FieldType := fun k => match k with
  | _ => .int
abbrev wsJx8e1880 : List Cond := u_ws RJx8e188 TJx8e188 0
theorem nmJx8e188 : ∀ a, a < 0 → ∀ b, b < 0 → a ≠ b → (TJx8e188 a).2.1 ≠ (TJx8e188 b).2.1 := by decide +kernel
theorem tyJx8e188_ok : ∀ k, k < 0 → parseFieldDescriptor (TJx8e188 k).2.2.1 = some (tyJx8e188 k) := by decide +kernel
def RJ6 : String := "java/lang/Integer"
def TJ6 : u_T := fun k => match k with
  | _ => ("", "", "", false)
def tyJ6 : Nat → FieldType := fun k => match k with
  | _ => .int
abbrev wsJ60 : List Cond := u_ws RJ6 TJ6 0
theorem nmJ6 : ∀ a, a < 0 → ∀ b, b < 0 → a ≠ b → (TJ6 a).2.1 ≠ (TJ6 b).2.1 := by decide +kernel
theorem tyJ6_ok : ∀ k, k < 0 → parseFieldDescriptor (TJ6 k).2.2.1 = some (tyJ6 k) := by decide +kernel
abbrev cJ6_bitCount_0f7a4 : ByteArray := prog_13_method_49_code
def yJ6_bitCount_0f7a4 : MethodName := ⟨RJ6, "bitCount", "(I)I"⟩
def RJ13 : String := "java/lang/Long"
def TJ13 : u_T := fun k => match k with
  | _ => ("", "", "", false)
def tyJ13 : Nat → FieldType := fun k => match k with
  | _ => .int
abbrev wsJ130 : List Cond := u_ws RJ13 TJ13 0
theorem nmJ13 : ∀ a, a < 0 → ∀ b, b < 0 → a ≠ b → (TJ13 a).2.1 ≠ (TJ13 b).2.1 := by decide +kernel
theorem tyJ13_ok : ∀ k, k < 0 → parseFieldDescriptor (TJ13 k).2.2.1 = some (tyJ13 k) := by decide +kernel
abbrev cJ13_bitCount_95d88 : ByteArray := prog_14_method_50_code
def yJ13_bitCount_95d88 : MethodName := ⟨RJ13, "bitCount", "(J)I"⟩
def RJ9 : String := "java/lang/Math"
def TJ9 : u_T := fun k => match k with
  | _ => ("", "", "", false)
def tyJ9 : Nat → FieldType := fun k => match k with
  | _ => .int
abbrev wsJ90 : List Cond := u_ws RJ9 TJ9 0
theorem nmJ9 : ∀ a, a < 0 → ∀ b, b < 0 → a ≠ b → (TJ9 a).2.1 ≠ (TJ9 b).2.1 := by decide +kernel
theorem tyJ9_ok : ∀ k, k < 0 → parseFieldDescriptor (TJ9 k).2.2.1 = some (tyJ9 k) := by decide +kernel
abbrev cJ9_max_7cf53 : ByteArray := prog_15_method_65_code
def yJ9_max_7cf53 : MethodName := ⟨RJ9, "max", "(II)I"⟩
def RJ10 : String := "java/lang/System"
def TJ10 : u_T := fun k => match k with
  | _ => ("", "", "", false)
def tyJ10 : Nat → FieldType := fun k => match k with
  | _ => .int
abbrev wsJ100 : List Cond := u_ws RJ10 TJ10 0
theorem nmJ10 : ∀ a, a < 0 → ∀ b, b < 0 → a ≠ b → (TJ10 a).2.1 ≠ (TJ10 b).2.1 := by decide +kernel
theorem tyJ10_ok : ∀ k, k < 0 → parseFieldDescriptor (TJ10 k).2.2.1 = some (tyJ10 k) := by decide +kernel
def RJ7 : String := "java/util/Arrays"
def TJ7 : u_T := fun k => match k with
  | _ => ("", "", "", false)
def tyJ7 : Nat → FieldType := fun k => match k with
  | _ => .int
abbrev wsJ70 : List Cond := u_ws RJ7 TJ7 0
theorem nmJ7 : ∀ a, a < 0 → ∀ b, b < 0 → a ≠ b → (TJ7 a).2.1 ≠ (TJ7 b).2.1 := by decide +kernel
theorem tyJ7_ok : ∀ k, k < 0 → parseFieldDescriptor (TJ7 k).2.2.1 = some (tyJ7 k) := by decide +kernel
abbrev cJ7_fill_53178 : ByteArray := prog_19_method_103_code
def yJ7_fill_53178 : MethodName := ⟨RJ7, "fill", "([II)V"⟩
def RL : String := "LoomDraftLaw"
abbrev cL_thread : ByteArray := method_3_code
def yL_thread : MethodName := ⟨RL, "thread", "(LLoomDraft;II[J)I"⟩
abbrev cL_tread : ByteArray := method_4_code
def yL_tread : MethodName := ⟨RL, "tread", "(LLoomDraft;II[J)I"⟩
abbrev cL_tie : ByteArray := method_5_code
def yL_tie : MethodName := ⟨RL, "tie", "(LLoomDraft;II[J)I"⟩
abbrev cL_end : ByteArray := method_6_code
def yL_end : MethodName := ⟨RL, "end", "(LLoomDraft;II[J)I"⟩
abbrev cL_pick : ByteArray := method_7_code
def yL_pick : MethodName := ⟨RL, "pick", "(LLoomDraft;II[J)I"⟩
abbrev cL_rotate : ByteArray := method_8_code
def yL_rotate : MethodName := ⟨RL, "rotate", "(LLoomDraft;ZI[J)I"⟩
abbrev cL_repeat : ByteArray := method_9_code
def yL_repeat : MethodName := ⟨RL, "repeat", "(LLoomDraft;Z[J)I"⟩
abbrev cL_cut : ByteArray := method_10_code
def yL_cut : MethodName := ⟨RL, "cut", "(LLoomDraft;ZI[J)I"⟩
abbrev cL_isWarpOnTop : ByteArray := method_11_code
def yL_isWarpOnTop : MethodName := ⟨RL, "isWarpOnTop", "(LLoomDraft;II[J)I"⟩
abbrev cL_colour : ByteArray := method_12_code
def yL_colour : MethodName := ⟨RL, "colour", "(LLoomDraft;II[J)I"⟩
abbrev cL_floats : ByteArray := method_13_code
def yL_floats : MethodName := ⟨RL, "floats", "(LLoomDraft;ZI[J)I"⟩
abbrev cL_colourAt : ByteArray := method_14_code
def yL_colourAt : MethodName := ⟨RL, "colourAt", "(LLoomDraft;I[J)I"⟩
abbrev cL_threadsOf : ByteArray := method_15_code
def yL_threadsOf : MethodName := ⟨RL, "threadsOf", "(LLoomDraft;I[J)I"⟩
abbrev cL_draw : ByteArray := method_16_code
def yL_draw : MethodName := ⟨RL, "draw", "(LLoomDraft;I[J)I"⟩
abbrev cL_row : ByteArray := method_17_code
def yL_row : MethodName := ⟨RL, "row", "(LLoomDraft;J[J)I"⟩
abbrev cL_fit : ByteArray := method_18_code
def yL_fit : MethodName := ⟨RL, "fit", "(LLoomDraft;[J)I"⟩
abbrev cL_law : ByteArray := code
def yL_law : MethodName := ⟨RL, "law", "([I)Z"⟩
def wsX0_init : List Cond := .code yX0_init cX0_init 1 none :: ([.methodLink RX0 3 objectInit, .instanceMethod objectInit, .code objectInit ⟨#[0xb1]⟩ 1 none, .arrayClass .long, .fieldLink RX0 9 "LoomDraft$Cloth" "endsUp" "[J", .arrayClass .int, .fieldLink RX0 15 "LoomDraft$Cloth" "floatsOfAtLeast" "[I"] ++ wsX00)
def wsJ7_fill_53178 : List Cond := .code yJ7_fill_53178 cJ7_fill_53178 4 none :: ([])
def wsX4_hasBit : List Cond := .code yX4_hasBit cX4_hasBit 3 (some .boolean) :: ([])
def wsX0_isUp : List Cond := .code yX0_isUp cX0_isUp 3 (some .boolean) :: ([.fieldLink RX0 9 "LoomDraft$Cloth" "endsUp" "[J", .static yX4_hasBit, .initialized RX4, .code yX4_hasBit cX4_hasBit 3 (some .boolean)] ++ wsX00)
def wsX0_countFloats : List Cond := .code yX0_countFloats cX0_countFloats 10 none :: ([.fieldLink RX0 15 "LoomDraft$Cloth" "floatsOfAtLeast" "[I", .fieldLink RX0 25 "LoomDraft$Cloth" "ends" "I", .fieldLink RX0 29 "LoomDraft$Cloth" "picks" "I", .methodLink RX0 19 yJ7_fill_53178, .static yJ7_fill_53178, .initialized RJ7, .code yJ7_fill_53178 cJ7_fill_53178 4 none, .methodLink RX0 32 yX0_isUp, .instanceMethod yX0_isUp, .selects RX0 yX0_isUp yX0_isUp, .initialized RX0, .code yX0_isUp cX0_isUp 3 (some .boolean), .fieldLink RX0 9 "LoomDraft$Cloth" "endsUp" "[J", .static yX4_hasBit, .initialized RX4, .code yX4_hasBit cX4_hasBit 3 (some .boolean)] ++ wsX00)
def wsJ13_bitCount_95d88 : List Cond := .code yJ13_bitCount_95d88 cJ13_bitCount_95d88 2 (some .int) :: ([.constantLong RJ13 314 (6148914691236517205), .constantLong RJ13 316 (3689348814741910323), .constantLong RJ13 318 (1085102592571150095)])
def wsX0_placesWithEndUp : List Cond := .code yX0_placesWithEndUp cX0_placesWithEndUp 3 (some .int) :: ([.fieldLink RX0 29 "LoomDraft$Cloth" "picks" "I", .fieldLink RX0 9 "LoomDraft$Cloth" "endsUp" "[J", .methodLink RX0 40 yJ13_bitCount_95d88, .static yJ13_bitCount_95d88, .initialized RJ13, .code yJ13_bitCount_95d88 cJ13_bitCount_95d88 2 (some .int), .constantLong RJ13 314 (6148914691236517205), .constantLong RJ13 316 (3689348814741910323), .constantLong RJ13 318 (1085102592571150095)] ++ wsX00)
def wsX0_picksUnder : List Cond := .code yX0_picksUnder cX0_picksUnder 5 (some .long) :: ([.fieldLink RX0 29 "LoomDraft$Cloth" "picks" "I", .methodLink RX0 32 yX0_isUp, .instanceMethod yX0_isUp, .selects RX0 yX0_isUp yX0_isUp, .initialized RX0, .code yX0_isUp cX0_isUp 3 (some .boolean), .fieldLink RX0 9 "LoomDraft$Cloth" "endsUp" "[J", .static yX4_hasBit, .initialized RX4, .code yX4_hasBit cX4_hasBit 3 (some .boolean)] ++ wsX00)
def wsX4_allOf : List Cond := .code yX4_allOf cX4_allOf 1 (some .long) :: ([])
def wsX0_endsUnder : List Cond := .code yX0_endsUnder cX0_endsUnder 2 (some .long) :: ([.fieldLink RX0 25 "LoomDraft$Cloth" "ends" "I", .fieldLink RX0 9 "LoomDraft$Cloth" "endsUp" "[J", .constantLong RX0 50 (-1), .static yX4_allOf, .initialized RX4, .code yX4_allOf cX4_allOf 1 (some .long)] ++ wsX00)
def wsX1_init : List Cond := .code yX1_init cX1_init 1 none :: ([.methodLink RX1 3 objectInit, .instanceMethod objectInit, .code objectInit ⟨#[0xb1]⟩ 1 none, .arrayClass .long, .fieldLink RX1 9 "LoomDraft$Drawing" "rows" "[J", .fieldLink RX1 15 "LoomDraft$Drawing" "columnCells" "[J", .arrayClass .int, .fieldLink RX1 18 "LoomDraft$Drawing" "shaftOf" "[I", .fieldLink RX1 22 "LoomDraft$Drawing" "treadleOf" "[I"] ++ wsX10)
def wsX1_cellsOfColumn : List Cond := .code yX1_cellsOfColumn cX1_cellsOfColumn 5 (some .long) :: ([.fieldLink RX1 37 "LoomDraft$Drawing" "size" "I", .fieldLink RX1 9 "LoomDraft$Drawing" "rows" "[J", .static yX4_hasBit, .initialized RX4, .code yX4_hasBit cX4_hasBit 3 (some .boolean)] ++ wsX10)
def wsX1_firstLike : List Cond := .code yX1_firstLike cX1_firstLike 3 (some .int) :: ([])
def wsX1_numberAlike : List Cond := .code yX1_numberAlike cX1_numberAlike 6 (some .int) :: ([.methodLink RX1 44 yX1_firstLike, .static yX1_firstLike, .initialized RX1, .code yX1_firstLike cX1_firstLike 3 (some .int)])
def wsX1_numberColumns : List Cond := .code yX1_numberColumns cX1_numberColumns 2 (some .int) :: ([.fieldLink RX1 25 "LoomDraft$Drawing" "columns" "I", .fieldLink RX1 15 "LoomDraft$Drawing" "columnCells" "[J", .fieldLink RX1 18 "LoomDraft$Drawing" "shaftOf" "[I", .methodLink RX1 29 yX1_cellsOfColumn, .instanceMethod yX1_cellsOfColumn, .selects RX1 yX1_cellsOfColumn yX1_cellsOfColumn, .initialized RX1, .code yX1_cellsOfColumn cX1_cellsOfColumn 5 (some .long), .fieldLink RX1 37 "LoomDraft$Drawing" "size" "I", .fieldLink RX1 9 "LoomDraft$Drawing" "rows" "[J", .static yX4_hasBit, .initialized RX4, .code yX4_hasBit cX4_hasBit 3 (some .boolean), .methodLink RX1 33 yX1_numberAlike, .static yX1_numberAlike, .code yX1_numberAlike cX1_numberAlike 6 (some .int), .methodLink RX1 44 yX1_firstLike, .static yX1_firstLike, .code yX1_firstLike cX1_firstLike 3 (some .int)] ++ wsX10)
def wsX1_numberRows : List Cond := .code yX1_numberRows cX1_numberRows 1 (some .int) :: ([.fieldLink RX1 9 "LoomDraft$Drawing" "rows" "[J", .fieldLink RX1 37 "LoomDraft$Drawing" "size" "I", .fieldLink RX1 22 "LoomDraft$Drawing" "treadleOf" "[I", .methodLink RX1 33 yX1_numberAlike, .static yX1_numberAlike, .initialized RX1, .code yX1_numberAlike cX1_numberAlike 6 (some .int), .methodLink RX1 44 yX1_firstLike, .static yX1_firstLike, .code yX1_firstLike cX1_firstLike 3 (some .int)] ++ wsX10)
def wsX4_digestWith : List Cond := .code yX4_digestWith cX4_digestWith 4 (some .long) :: ([.constantLong RX4 191 (31)])
def wsX1_digestFrom : List Cond := .code yX1_digestFrom cX1_digestFrom 6 (some .long) :: ([.fieldLink RX1 25 "LoomDraft$Drawing" "columns" "I", .fieldLink RX1 37 "LoomDraft$Drawing" "size" "I", .fieldLink RX1 9 "LoomDraft$Drawing" "rows" "[J", .static yX4_digestWith, .initialized RX4, .code yX4_digestWith cX4_digestWith 4 (some .long), .constantLong RX4 191 (31)] ++ wsX10)
def wsX2_init : List Cond := .code yX2_init cX2_init 1 none :: ([.methodLink RX2 3 objectInit, .instanceMethod objectInit, .code objectInit ⟨#[0xb1]⟩ 1 none, .arrayClass .long, .fieldLink RX2 9 "LoomDraft$Leading" "toEnds" "[J", .fieldLink RX2 15 "LoomDraft$Leading" "toPicks" "[J"] ++ wsX20)
def wsX2_begin : List Cond := .code yX2_begin cX2_begin 3 none :: ([.fieldLink RX2 35 "LoomDraft$Leading" "ends" "I", .fieldLink RX2 22 "LoomDraft$Leading" "threads" "I", .fieldLink RX2 9 "LoomDraft$Leading" "toEnds" "[J", .fieldLink RX2 15 "LoomDraft$Leading" "toPicks" "[J", .instanceMethod yX0_picksUnder, .initialized RX0, .selects RX0 yX0_picksUnder yX0_picksUnder, .code yX0_picksUnder cX0_picksUnder 5 (some .long), .fieldLink RX0 29 "LoomDraft$Cloth" "picks" "I", .methodLink RX0 32 yX0_isUp, .instanceMethod yX0_isUp, .selects RX0 yX0_isUp yX0_isUp, .code yX0_isUp cX0_isUp 3 (some .boolean), .fieldLink RX0 9 "LoomDraft$Cloth" "endsUp" "[J", .static yX4_hasBit, .initialized RX4, .code yX4_hasBit cX4_hasBit 3 (some .boolean), .instanceMethod yX0_endsUnder, .selects RX0 yX0_endsUnder yX0_endsUnder, .code yX0_endsUnder cX0_endsUnder 2 (some .long), .fieldLink RX0 25 "LoomDraft$Cloth" "ends" "I", .constantLong RX0 50 (-1), .static yX4_allOf, .code yX4_allOf cX4_allOf 1 (some .long)] ++ wsX00 ++ wsX20)
def wsX2_leads : List Cond := .code yX2_leads cX2_leads 3 (some .boolean) :: ([.fieldLink RX2 35 "LoomDraft$Leading" "ends" "I", .fieldLink RX2 9 "LoomDraft$Leading" "toEnds" "[J", .fieldLink RX2 15 "LoomDraft$Leading" "toPicks" "[J", .static yX4_hasBit, .initialized RX4, .code yX4_hasBit cX4_hasBit 3 (some .boolean)] ++ wsX20)
def wsX2_follow_r1 : List Cond := [Cond.fieldLink RX2 22 "LoomDraft$Leading" "threads" "I", Cond.fieldLink RX2 9 "LoomDraft$Leading" "toEnds" "[J", Cond.fieldLink RX2 15 "LoomDraft$Leading" "toPicks" "[J", Cond.methodLink RX2 18 yX2_begin, Cond.instanceMethod yX2_begin, Cond.selects RX2 yX2_begin yX2_begin, Cond.initialized RX2, Cond.code yX2_begin cX2_begin 3 none, Cond.fieldLink RX2 35 "LoomDraft$Leading" "ends" "I", Cond.instanceMethod yX0_picksUnder, Cond.initialized RX0, Cond.selects RX0 yX0_picksUnder yX0_picksUnder, Cond.code yX0_picksUnder cX0_picksUnder 5 (some .long), Cond.fieldLink RX0 29 "LoomDraft$Cloth" "picks" "I", Cond.methodLink RX0 32 yX0_isUp, Cond.instanceMethod yX0_isUp, Cond.selects RX0 yX0_isUp yX0_isUp, Cond.code yX0_isUp cX0_isUp 3 (some .boolean), Cond.fieldLink RX0 9 "LoomDraft$Cloth" "endsUp" "[J", Cond.static yX4_hasBit, Cond.initialized RX4, Cond.code yX4_hasBit cX4_hasBit 3 (some .boolean), Cond.instanceMethod yX0_endsUnder, Cond.selects RX0 yX0_endsUnder yX0_endsUnder]
def wsX2_follow_r2 : List Cond := [Cond.code yX0_endsUnder cX0_endsUnder 2 (some .long), Cond.fieldLink RX0 25 "LoomDraft$Cloth" "ends" "I", Cond.constantLong RX0 50 (-1), Cond.static yX4_allOf, Cond.code yX4_allOf cX4_allOf 1 (some .long), Cond.methodLink RX2 26 yX2_leads, Cond.instanceMethod yX2_leads, Cond.selects RX2 yX2_leads yX2_leads, Cond.code yX2_leads cX2_leads 3 (some .boolean)]
def wsX2_follow : List Cond := .code yX2_follow cX2_follow 4 none :: ((wsX2_follow_r1 ++ wsX2_follow_r2) ++ wsX20 ++ wsX00)
def wsX2_isFirstOfGroup : List Cond := .code yX2_isFirstOfGroup cX2_isFirstOfGroup 3 (some .boolean) :: ([.methodLink RX2 26 yX2_leads, .instanceMethod yX2_leads, .selects RX2 yX2_leads yX2_leads, .initialized RX2, .code yX2_leads cX2_leads 3 (some .boolean), .fieldLink RX2 35 "LoomDraft$Leading" "ends" "I", .fieldLink RX2 9 "LoomDraft$Leading" "toEnds" "[J", .fieldLink RX2 15 "LoomDraft$Leading" "toPicks" "[J", .static yX4_hasBit, .initialized RX4, .code yX4_hasBit cX4_hasBit 3 (some .boolean)] ++ wsX20)
def wsX2_groups : List Cond := .code yX2_groups cX2_groups 3 (some .int) :: ([.fieldLink RX2 22 "LoomDraft$Leading" "threads" "I", .methodLink RX2 50 yX2_isFirstOfGroup, .instanceMethod yX2_isFirstOfGroup, .selects RX2 yX2_isFirstOfGroup yX2_isFirstOfGroup, .initialized RX2, .code yX2_isFirstOfGroup cX2_isFirstOfGroup 3 (some .boolean), .methodLink RX2 26 yX2_leads, .instanceMethod yX2_leads, .selects RX2 yX2_leads yX2_leads, .code yX2_leads cX2_leads 3 (some .boolean), .fieldLink RX2 35 "LoomDraft$Leading" "ends" "I", .fieldLink RX2 9 "LoomDraft$Leading" "toEnds" "[J", .fieldLink RX2 15 "LoomDraft$Leading" "toPicks" "[J", .static yX4_hasBit, .initialized RX4, .code yX4_hasBit cX4_hasBit 3 (some .boolean)] ++ wsX20)
def wsX3_init : List Cond := .code yX3_init cX3_init 1 none :: ([.methodLink RX3 3 objectInit, .instanceMethod objectInit, .code objectInit ⟨#[0xb1]⟩ 1 none, .arrayClass .int, .fieldLink RX3 9 "LoomDraft$ThreadRow" "bindings" "[I", .fieldLink RX3 15 "LoomDraft$ThreadRow" "colours" "[I"] ++ wsX30)
def wsX4_isBelow : List Cond := .code yX4_isBelow cX4_isBelow 2 (some .boolean) :: ([])
def wsX3_has : List Cond := .code yX3_has cX3_has 2 (some .boolean) :: ([.fieldLink RX3 18 "LoomDraft$ThreadRow" "size" "I", .static yX4_isBelow, .initialized RX4, .code yX4_isBelow cX4_isBelow 2 (some .boolean)] ++ wsX30)
def wsX3_isFull : List Cond := .code yX3_isFull cX3_isFull 1 (some .boolean) :: ([.fieldLink RX3 18 "LoomDraft$ThreadRow" "size" "I"] ++ wsX30)
def wsX3_add : List Cond := .code yX3_add cX3_add 4 (some .int) :: ([.fieldLink RX3 18 "LoomDraft$ThreadRow" "size" "I", .fieldLink RX3 9 "LoomDraft$ThreadRow" "bindings" "[I", .fieldLink RX3 15 "LoomDraft$ThreadRow" "colours" "[I"] ++ wsX30)
def wsX3_addCopy : List Cond := .code yX3_addCopy cX3_addCopy 3 none :: ([.fieldLink RX3 18 "LoomDraft$ThreadRow" "size" "I", .fieldLink RX3 9 "LoomDraft$ThreadRow" "bindings" "[I", .fieldLink RX3 15 "LoomDraft$ThreadRow" "colours" "[I", .methodLink RX3 26 yX3_add, .instanceMethod yX3_add, .selects RX3 yX3_add yX3_add, .initialized RX3, .code yX3_add cX3_add 4 (some .int)] ++ wsX30)
def wsX3_swap : List Cond := .code yX3_swap cX3_swap 5 none :: ([.fieldLink RX3 9 "LoomDraft$ThreadRow" "bindings" "[I", .fieldLink RX3 15 "LoomDraft$ThreadRow" "colours" "[I"] ++ wsX30)
def wsX3_turn : List Cond := .code yX3_turn cX3_turn 5 none :: ([.methodLink RX3 30 yX3_swap, .instanceMethod yX3_swap, .selects RX3 yX3_swap yX3_swap, .initialized RX3, .code yX3_swap cX3_swap 5 none, .fieldLink RX3 9 "LoomDraft$ThreadRow" "bindings" "[I", .fieldLink RX3 15 "LoomDraft$ThreadRow" "colours" "[I"] ++ wsX30)
def wsX3_moveOn : List Cond := .code yX3_moveOn cX3_moveOn 3 none :: ([.fieldLink RX3 18 "LoomDraft$ThreadRow" "size" "I", .methodLink RX3 34 yX3_turn, .instanceMethod yX3_turn, .selects RX3 yX3_turn yX3_turn, .initialized RX3, .code yX3_turn cX3_turn 5 none, .methodLink RX3 30 yX3_swap, .instanceMethod yX3_swap, .selects RX3 yX3_swap yX3_swap, .code yX3_swap cX3_swap 5 none, .fieldLink RX3 9 "LoomDraft$ThreadRow" "bindings" "[I", .fieldLink RX3 15 "LoomDraft$ThreadRow" "colours" "[I"] ++ wsX30)
def wsX3_repeatsAfter : List Cond := .code yX3_repeatsAfter cX3_repeatsAfter 4 (some .boolean) :: ([.fieldLink RX3 18 "LoomDraft$ThreadRow" "size" "I", .fieldLink RX3 9 "LoomDraft$ThreadRow" "bindings" "[I", .fieldLink RX3 15 "LoomDraft$ThreadRow" "colours" "[I"] ++ wsX30)
def wsX3_leastPeriod : List Cond := .code yX3_leastPeriod cX3_leastPeriod 2 (some .int) :: ([.fieldLink RX3 18 "LoomDraft$ThreadRow" "size" "I", .methodLink RX3 37 yX3_repeatsAfter, .instanceMethod yX3_repeatsAfter, .selects RX3 yX3_repeatsAfter yX3_repeatsAfter, .initialized RX3, .code yX3_repeatsAfter cX3_repeatsAfter 4 (some .boolean), .fieldLink RX3 9 "LoomDraft$ThreadRow" "bindings" "[I", .fieldLink RX3 15 "LoomDraft$ThreadRow" "colours" "[I"] ++ wsX30)
def wsX3_threadsColoured : List Cond := .code yX3_threadsColoured cX3_threadsColoured 4 (some .int) :: ([.fieldLink RX3 18 "LoomDraft$ThreadRow" "size" "I", .fieldLink RX3 15 "LoomDraft$ThreadRow" "colours" "[I"] ++ wsX30)
def wsX3_digestFrom : List Cond := .code yX3_digestFrom cX3_digestFrom 6 (some .long) :: ([.fieldLink RX3 18 "LoomDraft$ThreadRow" "size" "I", .fieldLink RX3 9 "LoomDraft$ThreadRow" "bindings" "[I", .fieldLink RX3 15 "LoomDraft$ThreadRow" "colours" "[I", .static yX4_digestWith, .initialized RX4, .code yX4_digestWith cX4_digestWith 4 (some .long), .constantLong RX4 191 (31)] ++ wsX30)
def wsX4_init_r1 : List Cond := [Cond.methodLink RX4 1 objectInit, Cond.instanceMethod objectInit, Cond.code objectInit ⟨#[0xb1]⟩ 1 none, Cond.classLink RX4 7 RX3, Cond.instantiable RX3 3, Cond.initialized RX3, Cond.fieldLink RX4 10 "LoomDraft" "warp" "LLoomDraft$ThreadRow;", Cond.fieldLink RX4 16 "LoomDraft" "weft" "LLoomDraft$ThreadRow;", Cond.arrayClass .int, Cond.fieldLink RX4 19 "LoomDraft" "ties" "[I", Cond.fieldLink RX4 23 "LoomDraft" "rising" "Z", Cond.classLink RX4 27 RX1, Cond.instantiable RX1 6, Cond.initialized RX1, Cond.fieldLink RX4 30 "LoomDraft" "drawing" "LLoomDraft$Drawing;", Cond.classLink RX4 34 RX0, Cond.instantiable RX0 4, Cond.initialized RX0, Cond.fieldLink RX4 37 "LoomDraft" "cloth" "LLoomDraft$Cloth;", Cond.classLink RX4 41 RX2, Cond.instantiable RX2 4, Cond.initialized RX2, Cond.fieldLink RX4 44 "LoomDraft" "leading" "LLoomDraft$Leading;", Cond.instanceMethod yX3_init]
def wsX4_init_r2 : List Cond := [Cond.code yX3_init cX3_init 1 none, Cond.methodLink RX3 3 objectInit, Cond.fieldLink RX3 9 "LoomDraft$ThreadRow" "bindings" "[I", Cond.fieldLink RX3 15 "LoomDraft$ThreadRow" "colours" "[I", Cond.instanceMethod yX1_init, Cond.code yX1_init cX1_init 1 none, Cond.methodLink RX1 3 objectInit, Cond.arrayClass .long, Cond.fieldLink RX1 9 "LoomDraft$Drawing" "rows" "[J", Cond.fieldLink RX1 15 "LoomDraft$Drawing" "columnCells" "[J", Cond.fieldLink RX1 18 "LoomDraft$Drawing" "shaftOf" "[I", Cond.fieldLink RX1 22 "LoomDraft$Drawing" "treadleOf" "[I", Cond.instanceMethod yX0_init, Cond.code yX0_init cX0_init 1 none, Cond.methodLink RX0 3 objectInit, Cond.fieldLink RX0 9 "LoomDraft$Cloth" "endsUp" "[J", Cond.fieldLink RX0 15 "LoomDraft$Cloth" "floatsOfAtLeast" "[I", Cond.instanceMethod yX2_init, Cond.code yX2_init cX2_init 1 none, Cond.methodLink RX2 3 objectInit, Cond.fieldLink RX2 9 "LoomDraft$Leading" "toEnds" "[J", Cond.fieldLink RX2 15 "LoomDraft$Leading" "toPicks" "[J"]
def wsX4_init : List Cond := .code yX4_init cX4_init 1 none :: ((wsX4_init_r1 ++ wsX4_init_r2) ++ wsX30 ++ wsX40 ++ wsX10 ++ wsX00 ++ wsX20)
def wsX4_thread : List Cond := .code yX4_thread cX4_thread 3 (some .int) :: ([.classLink RX4 52 "java/lang/IllegalArgumentException", .initialized "java/lang/IllegalArgumentException", .classLink RX4 59 "java/lang/IllegalStateException", .initialized "java/lang/IllegalStateException", .fieldLink RX4 10 "LoomDraft" "warp" "LLoomDraft$ThreadRow;", .methodLink RX4 48 yX4_isBelow, .static yX4_isBelow, .initialized RX4, .code yX4_isBelow cX4_isBelow 2 (some .boolean), .instanceMethod yX3_isFull, .initialized RX3, .selects RX3 yX3_isFull yX3_isFull, .code yX3_isFull cX3_isFull 1 (some .boolean), .fieldLink RX3 18 "LoomDraft$ThreadRow" "size" "I", .instanceMethod yX3_add, .selects RX3 yX3_add yX3_add, .code yX3_add cX3_add 4 (some .int), .fieldLink RX3 9 "LoomDraft$ThreadRow" "bindings" "[I", .fieldLink RX3 15 "LoomDraft$ThreadRow" "colours" "[I"] ++ wsX40 ++ wsX30 ++ (vx_at0 RX4 54 "java/lang/IllegalArgumentException" ["java/lang/RuntimeException", "java/lang/Exception"]).filter goodWord ++ (vx_at0 RX4 61 "java/lang/IllegalStateException" ["java/lang/RuntimeException", "java/lang/Exception"]).filter goodWord)
def wsX4_isSetOf : List Cond := .code yX4_isSetOf cX4_isSetOf 2 (some .boolean) :: ([.methodLink RX4 48 yX4_isBelow, .static yX4_isBelow, .initialized RX4, .code yX4_isBelow cX4_isBelow 2 (some .boolean)])
def wsX4_tread : List Cond := .code yX4_tread cX4_tread 3 (some .int) :: ([.classLink RX4 52 "java/lang/IllegalArgumentException", .initialized "java/lang/IllegalArgumentException", .classLink RX4 59 "java/lang/IllegalStateException", .initialized "java/lang/IllegalStateException", .fieldLink RX4 16 "LoomDraft" "weft" "LLoomDraft$ThreadRow;", .methodLink RX4 66 yX4_isSetOf, .static yX4_isSetOf, .initialized RX4, .code yX4_isSetOf cX4_isSetOf 2 (some .boolean), .methodLink RX4 48 yX4_isBelow, .static yX4_isBelow, .code yX4_isBelow cX4_isBelow 2 (some .boolean), .instanceMethod yX3_isFull, .initialized RX3, .selects RX3 yX3_isFull yX3_isFull, .code yX3_isFull cX3_isFull 1 (some .boolean), .fieldLink RX3 18 "LoomDraft$ThreadRow" "size" "I", .instanceMethod yX3_add, .selects RX3 yX3_add yX3_add, .code yX3_add cX3_add 4 (some .int), .fieldLink RX3 9 "LoomDraft$ThreadRow" "bindings" "[I", .fieldLink RX3 15 "LoomDraft$ThreadRow" "colours" "[I"] ++ wsX40 ++ wsX30 ++ (vx_at0 RX4 54 "java/lang/IllegalArgumentException" ["java/lang/RuntimeException", "java/lang/Exception"]).filter goodWord ++ (vx_at0 RX4 61 "java/lang/IllegalStateException" ["java/lang/RuntimeException", "java/lang/Exception"]).filter goodWord)
def wsX4_tie : List Cond := .code yX4_tie cX4_tie 4 (some .int) :: ([.classLink RX4 69 "java/lang/IndexOutOfBoundsException", .initialized "java/lang/IndexOutOfBoundsException", .classLink RX4 52 "java/lang/IllegalArgumentException", .initialized "java/lang/IllegalArgumentException", .fieldLink RX4 19 "LoomDraft" "ties" "[I", .methodLink RX4 48 yX4_isBelow, .static yX4_isBelow, .initialized RX4, .code yX4_isBelow cX4_isBelow 2 (some .boolean), .methodLink RX4 66 yX4_isSetOf, .static yX4_isSetOf, .code yX4_isSetOf cX4_isSetOf 2 (some .boolean)] ++ wsX40 ++ (vx_at0 RX4 71 "java/lang/IndexOutOfBoundsException" ["java/lang/RuntimeException", "java/lang/Exception"]).filter goodWord ++ (vx_at0 RX4 54 "java/lang/IllegalArgumentException" ["java/lang/RuntimeException", "java/lang/Exception"]).filter goodWord)
def wsX4_setRising : List Cond := .code yX4_setRising cX4_setRising 3 (some .boolean) :: ([.fieldLink RX4 23 "LoomDraft" "rising" "Z"] ++ wsX40)
def wsX4_rowOf : List Cond := .code yX4_rowOf cX4_rowOf 2 (some (.object "LoomDraft$ThreadRow")) :: ([.fieldLink RX4 10 "LoomDraft" "warp" "LLoomDraft$ThreadRow;", .fieldLink RX4 16 "LoomDraft" "weft" "LLoomDraft$ThreadRow;"] ++ wsX40)
def wsX4_count : List Cond := .code yX4_count cX4_count 2 (some .int) :: ([.methodLink RX4 72 yX4_rowOf, .instanceMethod yX4_rowOf, .selects RX4 yX4_rowOf yX4_rowOf, .initialized RX4, .code yX4_rowOf cX4_rowOf 2 (some (.object "LoomDraft$ThreadRow")), .fieldLink RX4 10 "LoomDraft" "warp" "LLoomDraft$ThreadRow;", .fieldLink RX4 16 "LoomDraft" "weft" "LLoomDraft$ThreadRow;"] ++ wsX30 ++ wsX40)
def wsX4_end : List Cond := .code yX4_end cX4_end 3 (some .int) :: ([.classLink RX4 69 "java/lang/IndexOutOfBoundsException", .initialized "java/lang/IndexOutOfBoundsException", .fieldLink RX4 10 "LoomDraft" "warp" "LLoomDraft$ThreadRow;", .instanceMethod yX3_has, .initialized RX3, .selects RX3 yX3_has yX3_has, .code yX3_has cX3_has 2 (some .boolean), .fieldLink RX3 18 "LoomDraft$ThreadRow" "size" "I", .static yX4_isBelow, .initialized RX4, .code yX4_isBelow cX4_isBelow 2 (some .boolean), .methodLink RX4 48 yX4_isBelow] ++ wsX40 ++ wsX30 ++ (vx_at0 RX4 71 "java/lang/IndexOutOfBoundsException" ["java/lang/RuntimeException", "java/lang/Exception"]).filter goodWord)
def wsX4_shaftsMovedFor : List Cond := .code yX4_shaftsMovedFor cX4_shaftsMovedFor 4 (some .int) :: ([.fieldLink RX4 16 "LoomDraft" "weft" "LLoomDraft$ThreadRow;", .fieldLink RX4 19 "LoomDraft" "ties" "[I", .methodLink RX4 109 yX4_hasBit, .static yX4_hasBit, .initialized RX4, .code yX4_hasBit cX4_hasBit 3 (some .boolean)] ++ wsX40 ++ wsX30)
def wsX4_pick : List Cond := .code yX4_pick cX4_pick 3 (some .int) :: ([.classLink RX4 69 "java/lang/IndexOutOfBoundsException", .initialized "java/lang/IndexOutOfBoundsException", .fieldLink RX4 16 "LoomDraft" "weft" "LLoomDraft$ThreadRow;", .instanceMethod yX3_has, .initialized RX3, .selects RX3 yX3_has yX3_has, .code yX3_has cX3_has 2 (some .boolean), .fieldLink RX3 18 "LoomDraft$ThreadRow" "size" "I", .static yX4_isBelow, .initialized RX4, .code yX4_isBelow cX4_isBelow 2 (some .boolean), .methodLink RX4 48 yX4_isBelow, .methodLink RX4 90 yX4_shaftsMovedFor, .instanceMethod yX4_shaftsMovedFor, .selects RX4 yX4_shaftsMovedFor yX4_shaftsMovedFor, .code yX4_shaftsMovedFor cX4_shaftsMovedFor 4 (some .int), .fieldLink RX4 19 "LoomDraft" "ties" "[I", .methodLink RX4 109 yX4_hasBit, .static yX4_hasBit, .code yX4_hasBit cX4_hasBit 3 (some .boolean)] ++ wsX40 ++ wsX30 ++ (vx_at0 RX4 71 "java/lang/IndexOutOfBoundsException" ["java/lang/RuntimeException", "java/lang/Exception"]).filter goodWord)
def wsX4_reverse : List Cond := .code yX4_reverse cX4_reverse 3 (some .int) :: ([.methodLink RX4 72 yX4_rowOf, .instanceMethod yX4_rowOf, .selects RX4 yX4_rowOf yX4_rowOf, .initialized RX4, .code yX4_rowOf cX4_rowOf 2 (some (.object "LoomDraft$ThreadRow")), .fieldLink RX4 10 "LoomDraft" "warp" "LLoomDraft$ThreadRow;", .fieldLink RX4 16 "LoomDraft" "weft" "LLoomDraft$ThreadRow;", .instanceMethod yX3_turn, .initialized RX3, .selects RX3 yX3_turn yX3_turn, .code yX3_turn cX3_turn 5 none, .methodLink RX3 30 yX3_swap, .instanceMethod yX3_swap, .selects RX3 yX3_swap yX3_swap, .code yX3_swap cX3_swap 5 none, .fieldLink RX3 9 "LoomDraft$ThreadRow" "bindings" "[I", .fieldLink RX3 15 "LoomDraft$ThreadRow" "colours" "[I"] ++ wsX30 ++ wsX40)
def wsX4_rotate : List Cond := .code yX4_rotate cX4_rotate 4 (some .int) :: ([.classLink RX4 52 "java/lang/IllegalArgumentException", .initialized "java/lang/IllegalArgumentException", .methodLink RX4 72 yX4_rowOf, .instanceMethod yX4_rowOf, .selects RX4 yX4_rowOf yX4_rowOf, .initialized RX4, .code yX4_rowOf cX4_rowOf 2 (some (.object "LoomDraft$ThreadRow")), .fieldLink RX4 10 "LoomDraft" "warp" "LLoomDraft$ThreadRow;", .fieldLink RX4 16 "LoomDraft" "weft" "LLoomDraft$ThreadRow;", .instanceMethod yX3_moveOn, .initialized RX3, .selects RX3 yX3_moveOn yX3_moveOn, .code yX3_moveOn cX3_moveOn 3 none, .fieldLink RX3 18 "LoomDraft$ThreadRow" "size" "I", .methodLink RX3 34 yX3_turn, .instanceMethod yX3_turn, .selects RX3 yX3_turn yX3_turn, .code yX3_turn cX3_turn 5 none, .methodLink RX3 30 yX3_swap, .instanceMethod yX3_swap, .selects RX3 yX3_swap yX3_swap, .code yX3_swap cX3_swap 5 none, .fieldLink RX3 9 "LoomDraft$ThreadRow" "bindings" "[I", .fieldLink RX3 15 "LoomDraft$ThreadRow" "colours" "[I"] ++ wsX30 ++ wsX40 ++ (vx_at0 RX4 54 "java/lang/IllegalArgumentException" ["java/lang/RuntimeException", "java/lang/Exception"]).filter goodWord)
def wsX4_repeat : List Cond := .code yX4_repeat cX4_repeat 3 (some .int) :: ([.classLink RX4 59 "java/lang/IllegalStateException", .initialized "java/lang/IllegalStateException", .methodLink RX4 72 yX4_rowOf, .instanceMethod yX4_rowOf, .selects RX4 yX4_rowOf yX4_rowOf, .initialized RX4, .code yX4_rowOf cX4_rowOf 2 (some (.object "LoomDraft$ThreadRow")), .fieldLink RX4 10 "LoomDraft" "warp" "LLoomDraft$ThreadRow;", .fieldLink RX4 16 "LoomDraft" "weft" "LLoomDraft$ThreadRow;", .instanceMethod yX3_addCopy, .initialized RX3, .selects RX3 yX3_addCopy yX3_addCopy, .code yX3_addCopy cX3_addCopy 3 none, .fieldLink RX3 18 "LoomDraft$ThreadRow" "size" "I", .fieldLink RX3 9 "LoomDraft$ThreadRow" "bindings" "[I", .fieldLink RX3 15 "LoomDraft$ThreadRow" "colours" "[I", .methodLink RX3 26 yX3_add, .instanceMethod yX3_add, .selects RX3 yX3_add yX3_add, .code yX3_add cX3_add 4 (some .int)] ++ wsX30 ++ wsX40 ++ (vx_at0 RX4 61 "java/lang/IllegalStateException" ["java/lang/RuntimeException", "java/lang/Exception"]).filter goodWord)
def wsX4_cut : List Cond := .code yX4_cut cX4_cut 5 (some .int) :: ([.classLink RX4 52 "java/lang/IllegalArgumentException", .initialized "java/lang/IllegalArgumentException", .methodLink RX4 72 yX4_rowOf, .instanceMethod yX4_rowOf, .selects RX4 yX4_rowOf yX4_rowOf, .initialized RX4, .code yX4_rowOf cX4_rowOf 2 (some (.object "LoomDraft$ThreadRow")), .fieldLink RX4 10 "LoomDraft" "warp" "LLoomDraft$ThreadRow;", .fieldLink RX4 16 "LoomDraft" "weft" "LLoomDraft$ThreadRow;"] ++ wsX30 ++ wsX40 ++ (vx_at0 RX4 54 "java/lang/IllegalArgumentException" ["java/lang/RuntimeException", "java/lang/Exception"]).filter goodWord)
def wsX4_shaftsUpAt : List Cond := .code yX4_shaftsUpAt cX4_shaftsUpAt 3 (some .long) :: ([.fieldLink RX4 23 "LoomDraft" "rising" "Z", .methodLink RX4 90 yX4_shaftsMovedFor, .instanceMethod yX4_shaftsMovedFor, .selects RX4 yX4_shaftsMovedFor yX4_shaftsMovedFor, .initialized RX4, .code yX4_shaftsMovedFor cX4_shaftsMovedFor 4 (some .int), .fieldLink RX4 16 "LoomDraft" "weft" "LLoomDraft$ThreadRow;", .fieldLink RX4 19 "LoomDraft" "ties" "[I", .methodLink RX4 109 yX4_hasBit, .static yX4_hasBit, .code yX4_hasBit cX4_hasBit 3 (some .boolean), .methodLink RX4 150 yX4_allOf, .static yX4_allOf, .code yX4_allOf cX4_allOf 1 (some .long)] ++ wsX40 ++ wsX30)
def wsX4_isWarpOnTop_r1 : List Cond := [Cond.classLink RX4 69 "java/lang/IndexOutOfBoundsException", Cond.initialized "java/lang/IndexOutOfBoundsException", Cond.fieldLink RX4 16 "LoomDraft" "weft" "LLoomDraft$ThreadRow;", Cond.fieldLink RX4 10 "LoomDraft" "warp" "LLoomDraft$ThreadRow;", Cond.instanceMethod yX3_has, Cond.initialized RX3, Cond.selects RX3 yX3_has yX3_has, Cond.code yX3_has cX3_has 2 (some .boolean), Cond.fieldLink RX3 18 "LoomDraft$ThreadRow" "size" "I", Cond.static yX4_isBelow, Cond.initialized RX4, Cond.code yX4_isBelow cX4_isBelow 2 (some .boolean), Cond.methodLink RX4 105 yX4_shaftsUpAt, Cond.instanceMethod yX4_shaftsUpAt, Cond.selects RX4 yX4_shaftsUpAt yX4_shaftsUpAt, Cond.code yX4_shaftsUpAt cX4_shaftsUpAt 3 (some .long), Cond.fieldLink RX4 23 "LoomDraft" "rising" "Z", Cond.methodLink RX4 90 yX4_shaftsMovedFor, Cond.instanceMethod yX4_shaftsMovedFor, Cond.selects RX4 yX4_shaftsMovedFor yX4_shaftsMovedFor, Cond.code yX4_shaftsMovedFor cX4_shaftsMovedFor 4 (some .int), Cond.fieldLink RX4 19 "LoomDraft" "ties" "[I", Cond.methodLink RX4 109 yX4_hasBit, Cond.static yX4_hasBit]
def wsX4_isWarpOnTop_r2 : List Cond := [Cond.code yX4_hasBit cX4_hasBit 3 (some .boolean), Cond.methodLink RX4 150 yX4_allOf, Cond.static yX4_allOf, Cond.code yX4_allOf cX4_allOf 1 (some .long)]
def wsX4_isWarpOnTop : List Cond := .code yX4_isWarpOnTop cX4_isWarpOnTop 3 (some .boolean) :: ((wsX4_isWarpOnTop_r1 ++ wsX4_isWarpOnTop_r2) ++ wsX40 ++ wsX30 ++ (vx_at0 RX4 71 "java/lang/IndexOutOfBoundsException" ["java/lang/RuntimeException", "java/lang/Exception"]).filter goodWord)
def wsX4_colour_r1 : List Cond := [Cond.classLink RX4 69 "java/lang/IndexOutOfBoundsException", Cond.initialized "java/lang/IndexOutOfBoundsException", Cond.fieldLink RX4 16 "LoomDraft" "weft" "LLoomDraft$ThreadRow;", Cond.fieldLink RX4 10 "LoomDraft" "warp" "LLoomDraft$ThreadRow;", Cond.instanceMethod yX3_has, Cond.initialized RX3, Cond.selects RX3 yX3_has yX3_has, Cond.code yX3_has cX3_has 2 (some .boolean), Cond.fieldLink RX3 18 "LoomDraft$ThreadRow" "size" "I", Cond.static yX4_isBelow, Cond.initialized RX4, Cond.code yX4_isBelow cX4_isBelow 2 (some .boolean), Cond.methodLink RX4 105 yX4_shaftsUpAt, Cond.instanceMethod yX4_shaftsUpAt, Cond.selects RX4 yX4_shaftsUpAt yX4_shaftsUpAt, Cond.code yX4_shaftsUpAt cX4_shaftsUpAt 3 (some .long), Cond.fieldLink RX4 23 "LoomDraft" "rising" "Z", Cond.methodLink RX4 90 yX4_shaftsMovedFor, Cond.instanceMethod yX4_shaftsMovedFor, Cond.selects RX4 yX4_shaftsMovedFor yX4_shaftsMovedFor, Cond.code yX4_shaftsMovedFor cX4_shaftsMovedFor 4 (some .int), Cond.fieldLink RX4 19 "LoomDraft" "ties" "[I", Cond.methodLink RX4 109 yX4_hasBit, Cond.static yX4_hasBit]
def wsX4_colour_r2 : List Cond := [Cond.code yX4_hasBit cX4_hasBit 3 (some .boolean), Cond.methodLink RX4 150 yX4_allOf, Cond.static yX4_allOf, Cond.code yX4_allOf cX4_allOf 1 (some .long)]
def wsX4_colour : List Cond := .code yX4_colour cX4_colour 4 (some .int) :: ((wsX4_colour_r1 ++ wsX4_colour_r2) ++ wsX40 ++ wsX30 ++ (vx_at0 RX4 71 "java/lang/IndexOutOfBoundsException" ["java/lang/RuntimeException", "java/lang/Exception"]).filter goodWord)
def wsX4_weave : List Cond := .code yX4_weave cX4_weave 7 none :: ([.fieldLink RX4 37 "LoomDraft" "cloth" "LLoomDraft$Cloth;", .fieldLink RX4 10 "LoomDraft" "warp" "LLoomDraft$ThreadRow;", .fieldLink RX4 16 "LoomDraft" "weft" "LLoomDraft$ThreadRow;", .methodLink RX4 105 yX4_shaftsUpAt, .instanceMethod yX4_shaftsUpAt, .selects RX4 yX4_shaftsUpAt yX4_shaftsUpAt, .initialized RX4, .code yX4_shaftsUpAt cX4_shaftsUpAt 3 (some .long), .fieldLink RX4 23 "LoomDraft" "rising" "Z", .methodLink RX4 90 yX4_shaftsMovedFor, .instanceMethod yX4_shaftsMovedFor, .selects RX4 yX4_shaftsMovedFor yX4_shaftsMovedFor, .code yX4_shaftsMovedFor cX4_shaftsMovedFor 4 (some .int), .fieldLink RX4 19 "LoomDraft" "ties" "[I", .methodLink RX4 109 yX4_hasBit, .static yX4_hasBit, .code yX4_hasBit cX4_hasBit 3 (some .boolean), .methodLink RX4 150 yX4_allOf, .static yX4_allOf, .code yX4_allOf cX4_allOf 1 (some .long)] ++ wsX40 ++ wsX30 ++ wsX00)
def wsX4_longestFloat_r1 : List Cond := [Cond.fieldLink RX4 37 "LoomDraft" "cloth" "LLoomDraft$Cloth;", Cond.methodLink RX4 113 yX4_weave, Cond.instanceMethod yX4_weave, Cond.selects RX4 yX4_weave yX4_weave, Cond.initialized RX4, Cond.code yX4_weave cX4_weave 7 none, Cond.fieldLink RX4 10 "LoomDraft" "warp" "LLoomDraft$ThreadRow;", Cond.fieldLink RX4 16 "LoomDraft" "weft" "LLoomDraft$ThreadRow;", Cond.methodLink RX4 105 yX4_shaftsUpAt, Cond.instanceMethod yX4_shaftsUpAt, Cond.selects RX4 yX4_shaftsUpAt yX4_shaftsUpAt, Cond.code yX4_shaftsUpAt cX4_shaftsUpAt 3 (some .long), Cond.fieldLink RX4 23 "LoomDraft" "rising" "Z", Cond.methodLink RX4 90 yX4_shaftsMovedFor, Cond.instanceMethod yX4_shaftsMovedFor, Cond.selects RX4 yX4_shaftsMovedFor yX4_shaftsMovedFor, Cond.code yX4_shaftsMovedFor cX4_shaftsMovedFor 4 (some .int), Cond.fieldLink RX4 19 "LoomDraft" "ties" "[I", Cond.methodLink RX4 109 yX4_hasBit, Cond.static yX4_hasBit, Cond.code yX4_hasBit cX4_hasBit 3 (some .boolean), Cond.methodLink RX4 150 yX4_allOf, Cond.static yX4_allOf, Cond.code yX4_allOf cX4_allOf 1 (some .long)]
def wsX4_longestFloat_r2 : List Cond := [Cond.instanceMethod yX0_countFloats, Cond.initialized RX0, Cond.selects RX0 yX0_countFloats yX0_countFloats, Cond.code yX0_countFloats cX0_countFloats 10 none, Cond.fieldLink RX0 15 "LoomDraft$Cloth" "floatsOfAtLeast" "[I", Cond.fieldLink RX0 25 "LoomDraft$Cloth" "ends" "I", Cond.fieldLink RX0 29 "LoomDraft$Cloth" "picks" "I", Cond.methodLink RX0 19 yJ7_fill_53178, Cond.static yJ7_fill_53178, Cond.initialized RJ7, Cond.code yJ7_fill_53178 cJ7_fill_53178 4 none, Cond.methodLink RX0 32 yX0_isUp, Cond.instanceMethod yX0_isUp, Cond.selects RX0 yX0_isUp yX0_isUp, Cond.code yX0_isUp cX0_isUp 3 (some .boolean), Cond.fieldLink RX0 9 "LoomDraft$Cloth" "endsUp" "[J"]
def wsX4_longestFloat : List Cond := .code yX4_longestFloat cX4_longestFloat 4 (some .int) :: ((wsX4_longestFloat_r1 ++ wsX4_longestFloat_r2) ++ wsX40 ++ wsX00 ++ wsX30)
def wsX4_floats_r1 : List Cond := [Cond.classLink RX4 52 "java/lang/IllegalArgumentException", Cond.initialized "java/lang/IllegalArgumentException", Cond.fieldLink RX4 37 "LoomDraft" "cloth" "LLoomDraft$Cloth;", Cond.methodLink RX4 113 yX4_weave, Cond.instanceMethod yX4_weave, Cond.selects RX4 yX4_weave yX4_weave, Cond.initialized RX4, Cond.code yX4_weave cX4_weave 7 none, Cond.fieldLink RX4 10 "LoomDraft" "warp" "LLoomDraft$ThreadRow;", Cond.fieldLink RX4 16 "LoomDraft" "weft" "LLoomDraft$ThreadRow;", Cond.methodLink RX4 105 yX4_shaftsUpAt, Cond.instanceMethod yX4_shaftsUpAt, Cond.selects RX4 yX4_shaftsUpAt yX4_shaftsUpAt, Cond.code yX4_shaftsUpAt cX4_shaftsUpAt 3 (some .long), Cond.fieldLink RX4 23 "LoomDraft" "rising" "Z", Cond.methodLink RX4 90 yX4_shaftsMovedFor, Cond.instanceMethod yX4_shaftsMovedFor, Cond.selects RX4 yX4_shaftsMovedFor yX4_shaftsMovedFor, Cond.code yX4_shaftsMovedFor cX4_shaftsMovedFor 4 (some .int), Cond.fieldLink RX4 19 "LoomDraft" "ties" "[I", Cond.methodLink RX4 109 yX4_hasBit, Cond.static yX4_hasBit, Cond.code yX4_hasBit cX4_hasBit 3 (some .boolean), Cond.methodLink RX4 150 yX4_allOf]
def wsX4_floats_r2 : List Cond := [Cond.static yX4_allOf, Cond.code yX4_allOf cX4_allOf 1 (some .long), Cond.instanceMethod yX0_countFloats, Cond.initialized RX0, Cond.selects RX0 yX0_countFloats yX0_countFloats, Cond.code yX0_countFloats cX0_countFloats 10 none, Cond.fieldLink RX0 15 "LoomDraft$Cloth" "floatsOfAtLeast" "[I", Cond.fieldLink RX0 25 "LoomDraft$Cloth" "ends" "I", Cond.fieldLink RX0 29 "LoomDraft$Cloth" "picks" "I", Cond.methodLink RX0 19 yJ7_fill_53178, Cond.static yJ7_fill_53178, Cond.initialized RJ7, Cond.code yJ7_fill_53178 cJ7_fill_53178 4 none, Cond.methodLink RX0 32 yX0_isUp, Cond.instanceMethod yX0_isUp, Cond.selects RX0 yX0_isUp yX0_isUp, Cond.code yX0_isUp cX0_isUp 3 (some .boolean), Cond.fieldLink RX0 9 "LoomDraft$Cloth" "endsUp" "[J"]
def wsX4_floats : List Cond := .code yX4_floats cX4_floats 3 (some .int) :: ((wsX4_floats_r1 ++ wsX4_floats_r2) ++ wsX40 ++ wsX00 ++ wsX30 ++ (vx_at0 RX4 54 "java/lang/IllegalArgumentException" ["java/lang/RuntimeException", "java/lang/Exception"]).filter goodWord)
def wsX4_warpShare_r1 : List Cond := [Cond.fieldLink RX4 10 "LoomDraft" "warp" "LLoomDraft$ThreadRow;", Cond.fieldLink RX4 16 "LoomDraft" "weft" "LLoomDraft$ThreadRow;", Cond.fieldLink RX4 37 "LoomDraft" "cloth" "LLoomDraft$Cloth;", Cond.methodLink RX4 113 yX4_weave, Cond.instanceMethod yX4_weave, Cond.selects RX4 yX4_weave yX4_weave, Cond.initialized RX4, Cond.code yX4_weave cX4_weave 7 none, Cond.methodLink RX4 105 yX4_shaftsUpAt, Cond.instanceMethod yX4_shaftsUpAt, Cond.selects RX4 yX4_shaftsUpAt yX4_shaftsUpAt, Cond.code yX4_shaftsUpAt cX4_shaftsUpAt 3 (some .long), Cond.fieldLink RX4 23 "LoomDraft" "rising" "Z", Cond.methodLink RX4 90 yX4_shaftsMovedFor, Cond.instanceMethod yX4_shaftsMovedFor, Cond.selects RX4 yX4_shaftsMovedFor yX4_shaftsMovedFor, Cond.code yX4_shaftsMovedFor cX4_shaftsMovedFor 4 (some .int), Cond.fieldLink RX4 19 "LoomDraft" "ties" "[I", Cond.methodLink RX4 109 yX4_hasBit, Cond.static yX4_hasBit, Cond.code yX4_hasBit cX4_hasBit 3 (some .boolean), Cond.methodLink RX4 150 yX4_allOf, Cond.static yX4_allOf, Cond.code yX4_allOf cX4_allOf 1 (some .long)]
def wsX4_warpShare_r2 : List Cond := [Cond.instanceMethod yX0_placesWithEndUp, Cond.initialized RX0, Cond.selects RX0 yX0_placesWithEndUp yX0_placesWithEndUp, Cond.code yX0_placesWithEndUp cX0_placesWithEndUp 3 (some .int), Cond.fieldLink RX0 29 "LoomDraft$Cloth" "picks" "I", Cond.fieldLink RX0 9 "LoomDraft$Cloth" "endsUp" "[J", Cond.methodLink RX0 40 yJ13_bitCount_95d88, Cond.static yJ13_bitCount_95d88, Cond.initialized RJ13, Cond.code yJ13_bitCount_95d88 cJ13_bitCount_95d88 2 (some .int), Cond.constantLong RJ13 314 (6148914691236517205), Cond.constantLong RJ13 316 (3689348814741910323), Cond.constantLong RJ13 318 (1085102592571150095)]
def wsX4_warpShare : List Cond := .code yX4_warpShare cX4_warpShare 2 (some .double) :: ((wsX4_warpShare_r1 ++ wsX4_warpShare_r2) ++ wsX40 ++ wsX30 ++ wsX00)
def wsX4_period : List Cond := .code yX4_period cX4_period 2 (some .int) :: ([.methodLink RX4 72 yX4_rowOf, .instanceMethod yX4_rowOf, .selects RX4 yX4_rowOf yX4_rowOf, .initialized RX4, .code yX4_rowOf cX4_rowOf 2 (some (.object "LoomDraft$ThreadRow")), .fieldLink RX4 10 "LoomDraft" "warp" "LLoomDraft$ThreadRow;", .fieldLink RX4 16 "LoomDraft" "weft" "LLoomDraft$ThreadRow;", .instanceMethod yX3_leastPeriod, .initialized RX3, .selects RX3 yX3_leastPeriod yX3_leastPeriod, .code yX3_leastPeriod cX3_leastPeriod 2 (some .int), .fieldLink RX3 18 "LoomDraft$ThreadRow" "size" "I", .methodLink RX3 37 yX3_repeatsAfter, .instanceMethod yX3_repeatsAfter, .selects RX3 yX3_repeatsAfter yX3_repeatsAfter, .code yX3_repeatsAfter cX3_repeatsAfter 4 (some .boolean), .fieldLink RX3 9 "LoomDraft$ThreadRow" "bindings" "[I", .fieldLink RX3 15 "LoomDraft$ThreadRow" "colours" "[I"] ++ wsX40 ++ wsX30)
def wsX4_layers_r1 : List Cond := [Cond.fieldLink RX4 44 "LoomDraft" "leading" "LLoomDraft$Leading;", Cond.fieldLink RX4 37 "LoomDraft" "cloth" "LLoomDraft$Cloth;", Cond.methodLink RX4 113 yX4_weave, Cond.instanceMethod yX4_weave, Cond.selects RX4 yX4_weave yX4_weave, Cond.initialized RX4, Cond.code yX4_weave cX4_weave 7 none, Cond.fieldLink RX4 10 "LoomDraft" "warp" "LLoomDraft$ThreadRow;", Cond.fieldLink RX4 16 "LoomDraft" "weft" "LLoomDraft$ThreadRow;", Cond.methodLink RX4 105 yX4_shaftsUpAt, Cond.instanceMethod yX4_shaftsUpAt, Cond.selects RX4 yX4_shaftsUpAt yX4_shaftsUpAt, Cond.code yX4_shaftsUpAt cX4_shaftsUpAt 3 (some .long), Cond.fieldLink RX4 23 "LoomDraft" "rising" "Z", Cond.methodLink RX4 90 yX4_shaftsMovedFor, Cond.instanceMethod yX4_shaftsMovedFor, Cond.selects RX4 yX4_shaftsMovedFor yX4_shaftsMovedFor, Cond.code yX4_shaftsMovedFor cX4_shaftsMovedFor 4 (some .int), Cond.fieldLink RX4 19 "LoomDraft" "ties" "[I", Cond.methodLink RX4 109 yX4_hasBit, Cond.static yX4_hasBit, Cond.code yX4_hasBit cX4_hasBit 3 (some .boolean), Cond.methodLink RX4 150 yX4_allOf, Cond.static yX4_allOf]
def wsX4_layers_r2 : List Cond := [Cond.code yX4_allOf cX4_allOf 1 (some .long), Cond.instanceMethod yX2_follow, Cond.initialized RX2, Cond.selects RX2 yX2_follow yX2_follow, Cond.code yX2_follow cX2_follow 4 none, Cond.fieldLink RX2 22 "LoomDraft$Leading" "threads" "I", Cond.fieldLink RX2 9 "LoomDraft$Leading" "toEnds" "[J", Cond.fieldLink RX2 15 "LoomDraft$Leading" "toPicks" "[J", Cond.methodLink RX2 18 yX2_begin, Cond.instanceMethod yX2_begin, Cond.selects RX2 yX2_begin yX2_begin, Cond.code yX2_begin cX2_begin 3 none, Cond.fieldLink RX2 35 "LoomDraft$Leading" "ends" "I", Cond.instanceMethod yX0_picksUnder, Cond.initialized RX0, Cond.selects RX0 yX0_picksUnder yX0_picksUnder, Cond.code yX0_picksUnder cX0_picksUnder 5 (some .long), Cond.fieldLink RX0 29 "LoomDraft$Cloth" "picks" "I", Cond.methodLink RX0 32 yX0_isUp, Cond.instanceMethod yX0_isUp, Cond.selects RX0 yX0_isUp yX0_isUp, Cond.code yX0_isUp cX0_isUp 3 (some .boolean), Cond.fieldLink RX0 9 "LoomDraft$Cloth" "endsUp" "[J", Cond.instanceMethod yX0_endsUnder]
def wsX4_layers_r3 : List Cond := [Cond.selects RX0 yX0_endsUnder yX0_endsUnder, Cond.code yX0_endsUnder cX0_endsUnder 2 (some .long), Cond.fieldLink RX0 25 "LoomDraft$Cloth" "ends" "I", Cond.constantLong RX0 50 (-1), Cond.methodLink RX2 26 yX2_leads, Cond.instanceMethod yX2_leads, Cond.selects RX2 yX2_leads yX2_leads, Cond.code yX2_leads cX2_leads 3 (some .boolean), Cond.instanceMethod yX2_groups, Cond.selects RX2 yX2_groups yX2_groups, Cond.code yX2_groups cX2_groups 3 (some .int), Cond.methodLink RX2 50 yX2_isFirstOfGroup, Cond.instanceMethod yX2_isFirstOfGroup, Cond.selects RX2 yX2_isFirstOfGroup yX2_isFirstOfGroup, Cond.code yX2_isFirstOfGroup cX2_isFirstOfGroup 3 (some .boolean)]
def wsX4_layers : List Cond := .code yX4_layers cX4_layers 1 (some .int) :: ((wsX4_layers_r1 ++ (wsX4_layers_r2 ++ wsX4_layers_r3)) ++ wsX40 ++ wsX30 ++ wsX00 ++ wsX20)
def wsX4_hangsTogether_r1 : List Cond := [Cond.fieldLink RX4 10 "LoomDraft" "warp" "LLoomDraft$ThreadRow;", Cond.fieldLink RX4 16 "LoomDraft" "weft" "LLoomDraft$ThreadRow;", Cond.methodLink RX4 137 yX4_layers, Cond.instanceMethod yX4_layers, Cond.selects RX4 yX4_layers yX4_layers, Cond.initialized RX4, Cond.code yX4_layers cX4_layers 1 (some .int), Cond.fieldLink RX4 44 "LoomDraft" "leading" "LLoomDraft$Leading;", Cond.fieldLink RX4 37 "LoomDraft" "cloth" "LLoomDraft$Cloth;", Cond.methodLink RX4 113 yX4_weave, Cond.instanceMethod yX4_weave, Cond.selects RX4 yX4_weave yX4_weave, Cond.code yX4_weave cX4_weave 7 none, Cond.methodLink RX4 105 yX4_shaftsUpAt, Cond.instanceMethod yX4_shaftsUpAt, Cond.selects RX4 yX4_shaftsUpAt yX4_shaftsUpAt, Cond.code yX4_shaftsUpAt cX4_shaftsUpAt 3 (some .long), Cond.fieldLink RX4 23 "LoomDraft" "rising" "Z", Cond.methodLink RX4 90 yX4_shaftsMovedFor, Cond.instanceMethod yX4_shaftsMovedFor, Cond.selects RX4 yX4_shaftsMovedFor yX4_shaftsMovedFor, Cond.code yX4_shaftsMovedFor cX4_shaftsMovedFor 4 (some .int), Cond.fieldLink RX4 19 "LoomDraft" "ties" "[I", Cond.methodLink RX4 109 yX4_hasBit]
def wsX4_hangsTogether_r2 : List Cond := [Cond.static yX4_hasBit, Cond.code yX4_hasBit cX4_hasBit 3 (some .boolean), Cond.methodLink RX4 150 yX4_allOf, Cond.static yX4_allOf, Cond.code yX4_allOf cX4_allOf 1 (some .long), Cond.instanceMethod yX2_follow, Cond.initialized RX2, Cond.selects RX2 yX2_follow yX2_follow, Cond.code yX2_follow cX2_follow 4 none, Cond.fieldLink RX2 22 "LoomDraft$Leading" "threads" "I", Cond.fieldLink RX2 9 "LoomDraft$Leading" "toEnds" "[J", Cond.fieldLink RX2 15 "LoomDraft$Leading" "toPicks" "[J", Cond.methodLink RX2 18 yX2_begin, Cond.instanceMethod yX2_begin, Cond.selects RX2 yX2_begin yX2_begin, Cond.code yX2_begin cX2_begin 3 none, Cond.fieldLink RX2 35 "LoomDraft$Leading" "ends" "I", Cond.instanceMethod yX0_picksUnder, Cond.initialized RX0, Cond.selects RX0 yX0_picksUnder yX0_picksUnder, Cond.code yX0_picksUnder cX0_picksUnder 5 (some .long), Cond.fieldLink RX0 29 "LoomDraft$Cloth" "picks" "I", Cond.methodLink RX0 32 yX0_isUp, Cond.instanceMethod yX0_isUp]
def wsX4_hangsTogether_r3 : List Cond := [Cond.selects RX0 yX0_isUp yX0_isUp, Cond.code yX0_isUp cX0_isUp 3 (some .boolean), Cond.fieldLink RX0 9 "LoomDraft$Cloth" "endsUp" "[J", Cond.instanceMethod yX0_endsUnder, Cond.selects RX0 yX0_endsUnder yX0_endsUnder, Cond.code yX0_endsUnder cX0_endsUnder 2 (some .long), Cond.fieldLink RX0 25 "LoomDraft$Cloth" "ends" "I", Cond.constantLong RX0 50 (-1), Cond.methodLink RX2 26 yX2_leads, Cond.instanceMethod yX2_leads, Cond.selects RX2 yX2_leads yX2_leads, Cond.code yX2_leads cX2_leads 3 (some .boolean), Cond.instanceMethod yX2_groups, Cond.selects RX2 yX2_groups yX2_groups, Cond.code yX2_groups cX2_groups 3 (some .int), Cond.methodLink RX2 50 yX2_isFirstOfGroup, Cond.instanceMethod yX2_isFirstOfGroup, Cond.selects RX2 yX2_isFirstOfGroup yX2_isFirstOfGroup, Cond.code yX2_isFirstOfGroup cX2_isFirstOfGroup 3 (some .boolean)]
def wsX4_hangsTogether : List Cond := .code yX4_hangsTogether cX4_hangsTogether 1 (some .boolean) :: ((wsX4_hangsTogether_r1 ++ (wsX4_hangsTogether_r2 ++ wsX4_hangsTogether_r3)) ++ wsX40 ++ wsX30 ++ wsX00 ++ wsX20)
def wsJ6_bitCount_0f7a4 : List Cond := .code yJ6_bitCount_0f7a4 cJ6_bitCount_0f7a4 1 (some .int) :: ([.constant RJ6 265 (1431655765), .constant RJ6 266 (858993459), .constant RJ6 267 (252645135)])
def wsX4_colourAppearingAs : List Cond := .code yX4_colourAppearingAs cX4_colourAppearingAs 6 (some .int) :: ([.fieldLink RX4 10 "LoomDraft" "warp" "LLoomDraft$ThreadRow;", .fieldLink RX4 16 "LoomDraft" "weft" "LLoomDraft$ThreadRow;", .methodLink RX4 109 yX4_hasBit, .static yX4_hasBit, .initialized RX4, .code yX4_hasBit cX4_hasBit 3 (some .boolean), .methodLink RX4 199 yJ6_bitCount_0f7a4, .static yJ6_bitCount_0f7a4, .initialized RJ6, .code yJ6_bitCount_0f7a4 cJ6_bitCount_0f7a4 1 (some .int), .constant RJ6 265 (1431655765), .constant RJ6 266 (858993459), .constant RJ6 267 (252645135)] ++ wsX40 ++ wsX30)
def wsX4_colourAt : List Cond := .code yX4_colourAt cX4_colourAt 3 (some .int) :: ([.classLink RX4 69 "java/lang/IndexOutOfBoundsException", .initialized "java/lang/IndexOutOfBoundsException", .methodLink RX4 140 yX4_colourAppearingAs, .instanceMethod yX4_colourAppearingAs, .selects RX4 yX4_colourAppearingAs yX4_colourAppearingAs, .initialized RX4, .code yX4_colourAppearingAs cX4_colourAppearingAs 6 (some .int), .fieldLink RX4 10 "LoomDraft" "warp" "LLoomDraft$ThreadRow;", .fieldLink RX4 16 "LoomDraft" "weft" "LLoomDraft$ThreadRow;", .methodLink RX4 109 yX4_hasBit, .static yX4_hasBit, .code yX4_hasBit cX4_hasBit 3 (some .boolean), .methodLink RX4 199 yJ6_bitCount_0f7a4, .static yJ6_bitCount_0f7a4, .initialized RJ6, .code yJ6_bitCount_0f7a4 cJ6_bitCount_0f7a4 1 (some .int), .constant RJ6 265 (1431655765), .constant RJ6 266 (858993459), .constant RJ6 267 (252645135)] ++ wsX40 ++ wsX30 ++ (vx_at0 RX4 71 "java/lang/IndexOutOfBoundsException" ["java/lang/RuntimeException", "java/lang/Exception"]).filter goodWord)
def wsX4_threadsOf : List Cond := .code yX4_threadsOf cX4_threadsOf 2 (some .int) :: ([.classLink RX4 69 "java/lang/IndexOutOfBoundsException", .initialized "java/lang/IndexOutOfBoundsException", .fieldLink RX4 10 "LoomDraft" "warp" "LLoomDraft$ThreadRow;", .fieldLink RX4 16 "LoomDraft" "weft" "LLoomDraft$ThreadRow;", .methodLink RX4 48 yX4_isBelow, .static yX4_isBelow, .initialized RX4, .code yX4_isBelow cX4_isBelow 2 (some .boolean), .instanceMethod yX3_threadsColoured, .initialized RX3, .selects RX3 yX3_threadsColoured yX3_threadsColoured, .code yX3_threadsColoured cX3_threadsColoured 4 (some .int), .fieldLink RX3 18 "LoomDraft$ThreadRow" "size" "I", .fieldLink RX3 15 "LoomDraft$ThreadRow" "colours" "[I"] ++ wsX40 ++ wsX30 ++ (vx_at0 RX4 71 "java/lang/IndexOutOfBoundsException" ["java/lang/RuntimeException", "java/lang/Exception"]).filter goodWord)
def wsX4_draw : List Cond := .code yX4_draw cX4_draw 3 (some .int) :: ([.classLink RX4 52 "java/lang/IllegalArgumentException", .initialized "java/lang/IllegalArgumentException", .fieldLink RX4 30 "LoomDraft" "drawing" "LLoomDraft$Drawing;"] ++ wsX40 ++ wsX10 ++ (vx_at0 RX4 54 "java/lang/IllegalArgumentException" ["java/lang/RuntimeException", "java/lang/Exception"]).filter goodWord)
def wsX4_row : List Cond := .code yX4_row cX4_row 3 (some .int) :: ([.classLink RX4 59 "java/lang/IllegalStateException", .initialized "java/lang/IllegalStateException", .classLink RX4 52 "java/lang/IllegalArgumentException", .initialized "java/lang/IllegalArgumentException", .fieldLink RX4 30 "LoomDraft" "drawing" "LLoomDraft$Drawing;", .constantLong RX4 153 (-1), .methodLink RX4 150 yX4_allOf, .static yX4_allOf, .initialized RX4, .code yX4_allOf cX4_allOf 1 (some .long)] ++ wsX40 ++ wsX10 ++ (vx_at0 RX4 61 "java/lang/IllegalStateException" ["java/lang/RuntimeException", "java/lang/Exception"]).filter goodWord ++ (vx_at0 RX4 54 "java/lang/IllegalArgumentException" ["java/lang/RuntimeException", "java/lang/Exception"]).filter goodWord)
def wsX4_tieAsNumbered : List Cond := .code yX4_tieAsNumbered cX4_tieAsNumbered 4 none :: ([.fieldLink RX4 19 "LoomDraft" "ties" "[I", .fieldLink RX4 30 "LoomDraft" "drawing" "LLoomDraft$Drawing;", .fieldLink RX4 23 "LoomDraft" "rising" "Z", .methodLink RX4 203 yJ7_fill_53178, .static yJ7_fill_53178, .initialized RJ7, .code yJ7_fill_53178 cJ7_fill_53178 4 none, .methodLink RX4 109 yX4_hasBit, .static yX4_hasBit, .initialized RX4, .code yX4_hasBit cX4_hasBit 3 (some .boolean)] ++ wsX40 ++ wsX10)
def wsX4_threadAsNumbered : List Cond := .code yX4_threadAsNumbered cX4_threadAsNumbered 2 none :: ([.fieldLink RX4 10 "LoomDraft" "warp" "LLoomDraft$ThreadRow;", .fieldLink RX4 30 "LoomDraft" "drawing" "LLoomDraft$Drawing;", .fieldLink RX4 16 "LoomDraft" "weft" "LLoomDraft$ThreadRow;", .instanceMethod yX3_add, .initialized RX3, .selects RX3 yX3_add yX3_add, .code yX3_add cX3_add 4 (some .int), .fieldLink RX3 18 "LoomDraft$ThreadRow" "size" "I", .fieldLink RX3 9 "LoomDraft$ThreadRow" "bindings" "[I", .fieldLink RX3 15 "LoomDraft$ThreadRow" "colours" "[I"] ++ wsX40 ++ wsX30 ++ wsX10)
def wsX4_fit_r1 : List Cond := [Cond.classLink RX4 59 "java/lang/IllegalStateException", Cond.initialized "java/lang/IllegalStateException", Cond.fieldLink RX4 30 "LoomDraft" "drawing" "LLoomDraft$Drawing;", Cond.instanceMethod yX1_numberColumns, Cond.initialized RX1, Cond.selects RX1 yX1_numberColumns yX1_numberColumns, Cond.code yX1_numberColumns cX1_numberColumns 2 (some .int), Cond.fieldLink RX1 25 "LoomDraft$Drawing" "columns" "I", Cond.fieldLink RX1 15 "LoomDraft$Drawing" "columnCells" "[J", Cond.fieldLink RX1 18 "LoomDraft$Drawing" "shaftOf" "[I", Cond.methodLink RX1 29 yX1_cellsOfColumn, Cond.instanceMethod yX1_cellsOfColumn, Cond.selects RX1 yX1_cellsOfColumn yX1_cellsOfColumn, Cond.code yX1_cellsOfColumn cX1_cellsOfColumn 5 (some .long), Cond.fieldLink RX1 37 "LoomDraft$Drawing" "size" "I", Cond.fieldLink RX1 9 "LoomDraft$Drawing" "rows" "[J", Cond.static yX4_hasBit, Cond.initialized RX4, Cond.code yX4_hasBit cX4_hasBit 3 (some .boolean), Cond.methodLink RX1 33 yX1_numberAlike, Cond.static yX1_numberAlike, Cond.code yX1_numberAlike cX1_numberAlike 6 (some .int), Cond.methodLink RX1 44 yX1_firstLike, Cond.static yX1_firstLike]
def wsX4_fit_r2 : List Cond := [Cond.code yX1_firstLike cX1_firstLike 3 (some .int), Cond.instanceMethod yX1_numberRows, Cond.selects RX1 yX1_numberRows yX1_numberRows, Cond.code yX1_numberRows cX1_numberRows 1 (some .int), Cond.fieldLink RX1 22 "LoomDraft$Drawing" "treadleOf" "[I", Cond.methodLink RX4 165 yX4_tieAsNumbered, Cond.instanceMethod yX4_tieAsNumbered, Cond.selects RX4 yX4_tieAsNumbered yX4_tieAsNumbered, Cond.code yX4_tieAsNumbered cX4_tieAsNumbered 4 none, Cond.fieldLink RX4 19 "LoomDraft" "ties" "[I", Cond.fieldLink RX4 23 "LoomDraft" "rising" "Z", Cond.methodLink RX4 203 yJ7_fill_53178, Cond.static yJ7_fill_53178, Cond.initialized RJ7, Cond.code yJ7_fill_53178 cJ7_fill_53178 4 none, Cond.methodLink RX4 109 yX4_hasBit, Cond.methodLink RX4 168 yX4_threadAsNumbered, Cond.instanceMethod yX4_threadAsNumbered, Cond.selects RX4 yX4_threadAsNumbered yX4_threadAsNumbered, Cond.code yX4_threadAsNumbered cX4_threadAsNumbered 2 none, Cond.fieldLink RX4 10 "LoomDraft" "warp" "LLoomDraft$ThreadRow;", Cond.fieldLink RX4 16 "LoomDraft" "weft" "LLoomDraft$ThreadRow;", Cond.instanceMethod yX3_add, Cond.initialized RX3]
def wsX4_fit_r3 : List Cond := [Cond.selects RX3 yX3_add yX3_add, Cond.code yX3_add cX3_add 4 (some .int), Cond.fieldLink RX3 18 "LoomDraft$ThreadRow" "size" "I", Cond.fieldLink RX3 9 "LoomDraft$ThreadRow" "bindings" "[I", Cond.fieldLink RX3 15 "LoomDraft$ThreadRow" "colours" "[I"]
def wsX4_fit : List Cond := .code yX4_fit cX4_fit 3 (some .int) :: ((wsX4_fit_r1 ++ (wsX4_fit_r2 ++ wsX4_fit_r3)) ++ wsX40 ++ wsX10 ++ wsX30 ++ (vx_at0 RX4 61 "java/lang/IllegalStateException" ["java/lang/RuntimeException", "java/lang/Exception"]).filter goodWord)
def wsX4_differences_r1 : List Cond := [Cond.fieldLink RX4 10 "LoomDraft" "warp" "LLoomDraft$ThreadRow;", Cond.fieldLink RX4 30 "LoomDraft" "drawing" "LLoomDraft$Drawing;", Cond.fieldLink RX4 16 "LoomDraft" "weft" "LLoomDraft$ThreadRow;", Cond.fieldLink RX4 37 "LoomDraft" "cloth" "LLoomDraft$Cloth;", Cond.methodLink RX4 113 yX4_weave, Cond.instanceMethod yX4_weave, Cond.selects RX4 yX4_weave yX4_weave, Cond.initialized RX4, Cond.code yX4_weave cX4_weave 7 none, Cond.methodLink RX4 105 yX4_shaftsUpAt, Cond.instanceMethod yX4_shaftsUpAt, Cond.selects RX4 yX4_shaftsUpAt yX4_shaftsUpAt, Cond.code yX4_shaftsUpAt cX4_shaftsUpAt 3 (some .long), Cond.fieldLink RX4 23 "LoomDraft" "rising" "Z", Cond.methodLink RX4 90 yX4_shaftsMovedFor, Cond.instanceMethod yX4_shaftsMovedFor, Cond.selects RX4 yX4_shaftsMovedFor yX4_shaftsMovedFor, Cond.code yX4_shaftsMovedFor cX4_shaftsMovedFor 4 (some .int), Cond.fieldLink RX4 19 "LoomDraft" "ties" "[I", Cond.methodLink RX4 109 yX4_hasBit, Cond.static yX4_hasBit, Cond.code yX4_hasBit cX4_hasBit 3 (some .boolean), Cond.methodLink RX4 150 yX4_allOf, Cond.static yX4_allOf]
def wsX4_differences_r2 : List Cond := [Cond.code yX4_allOf cX4_allOf 1 (some .long), Cond.methodLink RX4 174 yJ13_bitCount_95d88, Cond.static yJ13_bitCount_95d88, Cond.initialized RJ13, Cond.code yJ13_bitCount_95d88 cJ13_bitCount_95d88 2 (some .int), Cond.constantLong RJ13 314 (6148914691236517205), Cond.constantLong RJ13 316 (3689348814741910323), Cond.constantLong RJ13 318 (1085102592571150095)]
def wsX4_differences : List Cond := .code yX4_differences cX4_differences 3 (some .int) :: ((wsX4_differences_r1 ++ wsX4_differences_r2) ++ wsX40 ++ wsX30 ++ wsX10 ++ wsX00)
def wsX4_digest_r1 : List Cond := [Cond.constantLong RX4 180 (241), Cond.fieldLink RX4 23 "LoomDraft" "rising" "Z", Cond.fieldLink RX4 19 "LoomDraft" "ties" "[I", Cond.fieldLink RX4 10 "LoomDraft" "warp" "LLoomDraft$ThreadRow;", Cond.fieldLink RX4 16 "LoomDraft" "weft" "LLoomDraft$ThreadRow;", Cond.fieldLink RX4 30 "LoomDraft" "drawing" "LLoomDraft$Drawing;", Cond.methodLink RX4 182 yX4_digestWith, Cond.static yX4_digestWith, Cond.initialized RX4, Cond.code yX4_digestWith cX4_digestWith 4 (some .long), Cond.constantLong RX4 191 (31), Cond.instanceMethod yX3_digestFrom, Cond.initialized RX3, Cond.selects RX3 yX3_digestFrom yX3_digestFrom, Cond.code yX3_digestFrom cX3_digestFrom 6 (some .long), Cond.fieldLink RX3 18 "LoomDraft$ThreadRow" "size" "I", Cond.fieldLink RX3 9 "LoomDraft$ThreadRow" "bindings" "[I", Cond.fieldLink RX3 15 "LoomDraft$ThreadRow" "colours" "[I", Cond.instanceMethod yX1_digestFrom, Cond.initialized RX1, Cond.selects RX1 yX1_digestFrom yX1_digestFrom, Cond.code yX1_digestFrom cX1_digestFrom 6 (some .long), Cond.fieldLink RX1 25 "LoomDraft$Drawing" "columns" "I", Cond.fieldLink RX1 37 "LoomDraft$Drawing" "size" "I"]
def wsX4_digest_r2 : List Cond := [Cond.fieldLink RX1 9 "LoomDraft$Drawing" "rows" "[J"]
def wsX4_digest : List Cond := .code yX4_digest cX4_digest 4 (some .long) :: ((wsX4_digest_r1 ++ wsX4_digest_r2) ++ wsX40 ++ wsX30 ++ wsX10)
def wsX5_init : List Cond := .code yX5_init cX5_init 1 none :: ([.methodLink RX5 1 objectInit, .instanceMethod objectInit, .code objectInit ⟨#[0xb1]⟩ 1 none, .fieldLink RX5 7 "LoomDraftModel" "isRising" "Z", .arrayClass .int, .fieldLink RX5 13 "LoomDraftModel" "ties" "[I", .fieldLink RX5 17 "LoomDraftModel" "sizes" "[I", .classLink RX5 20 "[[I", .fieldLink RX5 22 "LoomDraftModel" "firsts" "[[I", .fieldLink RX5 25 "LoomDraftModel" "colours" "[[I", .arrayClass .long, .fieldLink RX5 28 "LoomDraftModel" "drawing" "[J"] ++ wsX50)
def wsX5_thrown : List Cond := .code yX5_thrown cX5_thrown 1 (some .int) :: ([.fieldLink RX5 32 "LoomDraftModel" "thrown" "I"] ++ wsX50)
def wsX5_fail : List Cond := .code yX5_fail cX5_fail 2 (some .int) :: ([.fieldLink RX5 32 "LoomDraftModel" "thrown" "I"] ++ wsX50)
def wsX5_isIn : List Cond := .code yX5_isIn cX5_isIn 3 (some .boolean) :: ([])
def wsX5_of : List Cond := .code yX5_of cX5_of 1 (some .int) :: ([])
def wsX5_add : List Cond := .code yX5_add cX5_add 4 (some .int) :: ([.fieldLink RX5 22 "LoomDraftModel" "firsts" "[[I", .fieldLink RX5 17 "LoomDraftModel" "sizes" "[I", .fieldLink RX5 25 "LoomDraftModel" "colours" "[[I"] ++ wsX50)
def wsX5_thread : List Cond := .code yX5_thread cX5_thread 3 (some .int) :: ([.fieldLink RX5 32 "LoomDraftModel" "thrown" "I", .fieldLink RX5 17 "LoomDraftModel" "sizes" "[I", .methodLink RX5 36 yX5_isIn, .static yX5_isIn, .initialized RX5, .code yX5_isIn cX5_isIn 3 (some .boolean), .methodLink RX5 40 yX5_fail, .instanceMethod yX5_fail, .selects RX5 yX5_fail yX5_fail, .code yX5_fail cX5_fail 2 (some .int), .methodLink RX5 44 yX5_add, .instanceMethod yX5_add, .selects RX5 yX5_add yX5_add, .code yX5_add cX5_add 4 (some .int), .fieldLink RX5 22 "LoomDraftModel" "firsts" "[[I", .fieldLink RX5 25 "LoomDraftModel" "colours" "[[I"] ++ wsX50)
def wsX5_tread : List Cond := .code yX5_tread cX5_tread 3 (some .int) :: ([.fieldLink RX5 32 "LoomDraftModel" "thrown" "I", .fieldLink RX5 17 "LoomDraftModel" "sizes" "[I", .methodLink RX5 36 yX5_isIn, .static yX5_isIn, .initialized RX5, .code yX5_isIn cX5_isIn 3 (some .boolean), .methodLink RX5 40 yX5_fail, .instanceMethod yX5_fail, .selects RX5 yX5_fail yX5_fail, .code yX5_fail cX5_fail 2 (some .int), .methodLink RX5 44 yX5_add, .instanceMethod yX5_add, .selects RX5 yX5_add yX5_add, .code yX5_add cX5_add 4 (some .int), .fieldLink RX5 22 "LoomDraftModel" "firsts" "[[I", .fieldLink RX5 25 "LoomDraftModel" "colours" "[[I"] ++ wsX50)
def wsX5_tie : List Cond := .code yX5_tie cX5_tie 4 (some .int) :: ([.fieldLink RX5 32 "LoomDraftModel" "thrown" "I", .fieldLink RX5 13 "LoomDraftModel" "ties" "[I", .methodLink RX5 36 yX5_isIn, .static yX5_isIn, .initialized RX5, .code yX5_isIn cX5_isIn 3 (some .boolean), .methodLink RX5 40 yX5_fail, .instanceMethod yX5_fail, .selects RX5 yX5_fail yX5_fail, .code yX5_fail cX5_fail 2 (some .int)] ++ wsX50)
def wsX5_setRising : List Cond := .code yX5_setRising cX5_setRising 3 (some .boolean) :: ([.fieldLink RX5 32 "LoomDraftModel" "thrown" "I", .fieldLink RX5 7 "LoomDraftModel" "isRising" "Z"] ++ wsX50)
def wsX5_count : List Cond := .code yX5_count cX5_count 2 (some .int) :: ([.fieldLink RX5 32 "LoomDraftModel" "thrown" "I", .fieldLink RX5 17 "LoomDraftModel" "sizes" "[I", .methodLink RX5 48 yX5_of, .static yX5_of, .initialized RX5, .code yX5_of cX5_of 1 (some .int)] ++ wsX50)
def wsX5_end : List Cond := .code yX5_end cX5_end 3 (some .int) :: ([.fieldLink RX5 32 "LoomDraftModel" "thrown" "I", .fieldLink RX5 17 "LoomDraftModel" "sizes" "[I", .fieldLink RX5 22 "LoomDraftModel" "firsts" "[[I", .fieldLink RX5 25 "LoomDraftModel" "colours" "[[I", .methodLink RX5 36 yX5_isIn, .static yX5_isIn, .initialized RX5, .code yX5_isIn cX5_isIn 3 (some .boolean), .methodLink RX5 40 yX5_fail, .instanceMethod yX5_fail, .selects RX5 yX5_fail yX5_fail, .code yX5_fail cX5_fail 2 (some .int)] ++ wsX50)
def wsX5_moved : List Cond := .code yX5_moved cX5_moved 4 (some .int) :: ([.fieldLink RX5 22 "LoomDraftModel" "firsts" "[[I", .fieldLink RX5 13 "LoomDraftModel" "ties" "[I"] ++ wsX50)
def wsX5_pick : List Cond := .code yX5_pick cX5_pick 3 (some .int) :: ([.fieldLink RX5 32 "LoomDraftModel" "thrown" "I", .fieldLink RX5 17 "LoomDraftModel" "sizes" "[I", .fieldLink RX5 22 "LoomDraftModel" "firsts" "[[I", .fieldLink RX5 25 "LoomDraftModel" "colours" "[[I", .methodLink RX5 36 yX5_isIn, .static yX5_isIn, .initialized RX5, .code yX5_isIn cX5_isIn 3 (some .boolean), .methodLink RX5 40 yX5_fail, .instanceMethod yX5_fail, .selects RX5 yX5_fail yX5_fail, .code yX5_fail cX5_fail 2 (some .int), .methodLink RX5 52 yX5_moved, .instanceMethod yX5_moved, .selects RX5 yX5_moved yX5_moved, .code yX5_moved cX5_moved 4 (some .int), .fieldLink RX5 13 "LoomDraftModel" "ties" "[I"] ++ wsX50)
def wsX5_lay : List Cond := .code yX5_lay cX5_lay 6 (some .int) :: ([.fieldLink RX5 22 "LoomDraftModel" "firsts" "[[I", .methodLink RX5 55 ⟨"[I", "clone", "()Ljava/lang/Object;"⟩, .sameMethod "[I" "java/lang/Object" "clone" "()Ljava/lang/Object;", .native ⟨"java/lang/Object", "clone", "()Ljava/lang/Object;"⟩, .instanceMethod ⟨"java/lang/Object", "clone", "()Ljava/lang/Object;"⟩, .selects "[I" ⟨"[I", "clone", "()Ljava/lang/Object;"⟩ ⟨"java/lang/Object", "clone", "()Ljava/lang/Object;"⟩, .classLink RX5 56 "[I", .fieldLink RX5 25 "LoomDraftModel" "colours" "[[I", .fieldLink RX5 17 "LoomDraftModel" "sizes" "[I"] ++ wsX50)
def wsX5_reverse : List Cond := .code yX5_reverse cX5_reverse 5 (some .int) :: ([.fieldLink RX5 32 "LoomDraftModel" "thrown" "I", .fieldLink RX5 17 "LoomDraftModel" "sizes" "[I", .arrayClass .int, .methodLink RX5 48 yX5_of, .static yX5_of, .initialized RX5, .code yX5_of cX5_of 1 (some .int), .methodLink RX5 60 yX5_lay, .instanceMethod yX5_lay, .selects RX5 yX5_lay yX5_lay, .code yX5_lay cX5_lay 6 (some .int), .fieldLink RX5 22 "LoomDraftModel" "firsts" "[[I", .methodLink RX5 55 ⟨"[I", "clone", "()Ljava/lang/Object;"⟩, .sameMethod "[I" "java/lang/Object" "clone" "()Ljava/lang/Object;", .native ⟨"java/lang/Object", "clone", "()Ljava/lang/Object;"⟩, .instanceMethod ⟨"java/lang/Object", "clone", "()Ljava/lang/Object;"⟩, .selects "[I" ⟨"[I", "clone", "()Ljava/lang/Object;"⟩ ⟨"java/lang/Object", "clone", "()Ljava/lang/Object;"⟩, .classLink RX5 56 "[I", .fieldLink RX5 25 "LoomDraftModel" "colours" "[[I"] ++ wsX50)
def wsX5_rotate_r1 : List Cond := [Cond.fieldLink RX5 32 "LoomDraftModel" "thrown" "I", Cond.fieldLink RX5 17 "LoomDraftModel" "sizes" "[I", Cond.arrayClass .int, Cond.methodLink RX5 36 yX5_isIn, Cond.static yX5_isIn, Cond.initialized RX5, Cond.code yX5_isIn cX5_isIn 3 (some .boolean), Cond.methodLink RX5 40 yX5_fail, Cond.instanceMethod yX5_fail, Cond.selects RX5 yX5_fail yX5_fail, Cond.code yX5_fail cX5_fail 2 (some .int), Cond.methodLink RX5 48 yX5_of, Cond.static yX5_of, Cond.code yX5_of cX5_of 1 (some .int), Cond.methodLink RX5 60 yX5_lay, Cond.instanceMethod yX5_lay, Cond.selects RX5 yX5_lay yX5_lay, Cond.code yX5_lay cX5_lay 6 (some .int), Cond.fieldLink RX5 22 "LoomDraftModel" "firsts" "[[I", Cond.methodLink RX5 55 ⟨"[I", "clone", "()Ljava/lang/Object;"⟩, Cond.sameMethod "[I" "java/lang/Object" "clone" "()Ljava/lang/Object;", Cond.native ⟨"java/lang/Object", "clone", "()Ljava/lang/Object;"⟩, Cond.instanceMethod ⟨"java/lang/Object", "clone", "()Ljava/lang/Object;"⟩, Cond.selects "[I" ⟨"[I", "clone", "()Ljava/lang/Object;"⟩ ⟨"java/lang/Object", "clone", "()Ljava/lang/Object;"⟩]
def wsX5_rotate_r2 : List Cond := [Cond.classLink RX5 56 "[I", Cond.fieldLink RX5 25 "LoomDraftModel" "colours" "[[I"]
def wsX5_rotate : List Cond := .code yX5_rotate cX5_rotate 6 (some .int) :: ((wsX5_rotate_r1 ++ wsX5_rotate_r2) ++ wsX50)
def wsX5_repeat : List Cond := .code yX5_repeat cX5_repeat 5 (some .int) :: ([.fieldLink RX5 32 "LoomDraftModel" "thrown" "I", .fieldLink RX5 17 "LoomDraftModel" "sizes" "[I", .arrayClass .int, .methodLink RX5 48 yX5_of, .static yX5_of, .initialized RX5, .code yX5_of cX5_of 1 (some .int), .methodLink RX5 40 yX5_fail, .instanceMethod yX5_fail, .selects RX5 yX5_fail yX5_fail, .code yX5_fail cX5_fail 2 (some .int), .methodLink RX5 60 yX5_lay, .instanceMethod yX5_lay, .selects RX5 yX5_lay yX5_lay, .code yX5_lay cX5_lay 6 (some .int), .fieldLink RX5 22 "LoomDraftModel" "firsts" "[[I", .methodLink RX5 55 ⟨"[I", "clone", "()Ljava/lang/Object;"⟩, .sameMethod "[I" "java/lang/Object" "clone" "()Ljava/lang/Object;", .native ⟨"java/lang/Object", "clone", "()Ljava/lang/Object;"⟩, .instanceMethod ⟨"java/lang/Object", "clone", "()Ljava/lang/Object;"⟩, .selects "[I" ⟨"[I", "clone", "()Ljava/lang/Object;"⟩ ⟨"java/lang/Object", "clone", "()Ljava/lang/Object;"⟩, .classLink RX5 56 "[I", .fieldLink RX5 25 "LoomDraftModel" "colours" "[[I"] ++ wsX50)
def wsX5_cut : List Cond := .code yX5_cut cX5_cut 4 (some .int) :: ([.fieldLink RX5 32 "LoomDraftModel" "thrown" "I", .fieldLink RX5 17 "LoomDraftModel" "sizes" "[I", .methodLink RX5 48 yX5_of, .static yX5_of, .initialized RX5, .code yX5_of cX5_of 1 (some .int), .methodLink RX5 36 yX5_isIn, .static yX5_isIn, .code yX5_isIn cX5_isIn 3 (some .boolean), .methodLink RX5 40 yX5_fail, .instanceMethod yX5_fail, .selects RX5 yX5_fail yX5_fail, .code yX5_fail cX5_fail 2 (some .int)] ++ wsX50)
def wsX5_above : List Cond := .code yX5_above cX5_above 6 (some .long) :: ([.fieldLink RX5 17 "LoomDraftModel" "sizes" "[I", .fieldLink RX5 22 "LoomDraftModel" "firsts" "[[I", .fieldLink RX5 7 "LoomDraftModel" "isRising" "Z", .methodLink RX5 52 yX5_moved, .instanceMethod yX5_moved, .selects RX5 yX5_moved yX5_moved, .initialized RX5, .code yX5_moved cX5_moved 4 (some .int), .fieldLink RX5 13 "LoomDraftModel" "ties" "[I"] ++ wsX50)
def wsX5_has : List Cond := .code yX5_has cX5_has 3 (some .boolean) :: ([])
def wsX5_isPlace : List Cond := .code yX5_isPlace cX5_isPlace 3 (some .boolean) :: ([.fieldLink RX5 17 "LoomDraftModel" "sizes" "[I", .methodLink RX5 36 yX5_isIn, .static yX5_isIn, .initialized RX5, .code yX5_isIn cX5_isIn 3 (some .boolean)] ++ wsX50)
def wsX5_isWarpOnTop : List Cond := .code yX5_isWarpOnTop cX5_isWarpOnTop 3 (some .boolean) :: ([.fieldLink RX5 32 "LoomDraftModel" "thrown" "I", .methodLink RX5 64 yX5_isPlace, .instanceMethod yX5_isPlace, .selects RX5 yX5_isPlace yX5_isPlace, .initialized RX5, .code yX5_isPlace cX5_isPlace 3 (some .boolean), .fieldLink RX5 17 "LoomDraftModel" "sizes" "[I", .methodLink RX5 36 yX5_isIn, .static yX5_isIn, .code yX5_isIn cX5_isIn 3 (some .boolean), .methodLink RX5 68 yX5_above, .instanceMethod yX5_above, .selects RX5 yX5_above yX5_above, .code yX5_above cX5_above 6 (some .long), .fieldLink RX5 22 "LoomDraftModel" "firsts" "[[I", .fieldLink RX5 7 "LoomDraftModel" "isRising" "Z", .methodLink RX5 52 yX5_moved, .instanceMethod yX5_moved, .selects RX5 yX5_moved yX5_moved, .code yX5_moved cX5_moved 4 (some .int), .fieldLink RX5 13 "LoomDraftModel" "ties" "[I", .methodLink RX5 72 yX5_has, .static yX5_has, .code yX5_has cX5_has 3 (some .boolean)] ++ wsX50)
def wsX5_colour_r1 : List Cond := [Cond.fieldLink RX5 32 "LoomDraftModel" "thrown" "I", Cond.fieldLink RX5 25 "LoomDraftModel" "colours" "[[I", Cond.methodLink RX5 64 yX5_isPlace, Cond.instanceMethod yX5_isPlace, Cond.selects RX5 yX5_isPlace yX5_isPlace, Cond.initialized RX5, Cond.code yX5_isPlace cX5_isPlace 3 (some .boolean), Cond.fieldLink RX5 17 "LoomDraftModel" "sizes" "[I", Cond.methodLink RX5 36 yX5_isIn, Cond.static yX5_isIn, Cond.code yX5_isIn cX5_isIn 3 (some .boolean), Cond.methodLink RX5 40 yX5_fail, Cond.instanceMethod yX5_fail, Cond.selects RX5 yX5_fail yX5_fail, Cond.code yX5_fail cX5_fail 2 (some .int), Cond.methodLink RX5 68 yX5_above, Cond.instanceMethod yX5_above, Cond.selects RX5 yX5_above yX5_above, Cond.code yX5_above cX5_above 6 (some .long), Cond.fieldLink RX5 22 "LoomDraftModel" "firsts" "[[I", Cond.fieldLink RX5 7 "LoomDraftModel" "isRising" "Z", Cond.methodLink RX5 52 yX5_moved, Cond.instanceMethod yX5_moved, Cond.selects RX5 yX5_moved yX5_moved]
def wsX5_colour_r2 : List Cond := [Cond.code yX5_moved cX5_moved 4 (some .int), Cond.fieldLink RX5 13 "LoomDraftModel" "ties" "[I", Cond.methodLink RX5 72 yX5_has, Cond.static yX5_has, Cond.code yX5_has cX5_has 3 (some .boolean)]
def wsX5_colour : List Cond := .code yX5_colour cX5_colour 3 (some .int) :: ((wsX5_colour_r1 ++ wsX5_colour_r2) ++ wsX50)
def wsX5_floatsOf : List Cond := .code yX5_floatsOf cX5_floatsOf 13 (some .int) :: ([.fieldLink RX5 17 "LoomDraftModel" "sizes" "[I", .arrayClass .long, .methodLink RX5 76 Lib.Math.max.name, .static Lib.Math.max.name, .initialized "java/lang/Math", .code Lib.Math.max.name Lib.Math.max.code 2 (some .int), .methodLink RX5 68 yX5_above, .instanceMethod yX5_above, .selects RX5 yX5_above yX5_above, .initialized RX5, .code yX5_above cX5_above 6 (some .long), .fieldLink RX5 22 "LoomDraftModel" "firsts" "[[I", .fieldLink RX5 7 "LoomDraftModel" "isRising" "Z", .methodLink RX5 52 yX5_moved, .instanceMethod yX5_moved, .selects RX5 yX5_moved yX5_moved, .code yX5_moved cX5_moved 4 (some .int), .fieldLink RX5 13 "LoomDraftModel" "ties" "[I", .methodLink RX5 48 yX5_of, .static yX5_of, .code yX5_of cX5_of 1 (some .int), .methodLink RX5 72 yX5_has, .static yX5_has, .code yX5_has cX5_has 3 (some .boolean)] ++ wsX50)
def wsX5_longestFloat_r1 : List Cond := [Cond.fieldLink RX5 32 "LoomDraftModel" "thrown" "I", Cond.methodLink RX5 82 yX5_floatsOf, Cond.instanceMethod yX5_floatsOf, Cond.selects RX5 yX5_floatsOf yX5_floatsOf, Cond.initialized RX5, Cond.code yX5_floatsOf cX5_floatsOf 13 (some .int), Cond.fieldLink RX5 17 "LoomDraftModel" "sizes" "[I", Cond.arrayClass .long, Cond.methodLink RX5 76 Lib.Math.max.name, Cond.static Lib.Math.max.name, Cond.initialized "java/lang/Math", Cond.code Lib.Math.max.name Lib.Math.max.code 2 (some .int), Cond.methodLink RX5 68 yX5_above, Cond.instanceMethod yX5_above, Cond.selects RX5 yX5_above yX5_above, Cond.code yX5_above cX5_above 6 (some .long), Cond.fieldLink RX5 22 "LoomDraftModel" "firsts" "[[I", Cond.fieldLink RX5 7 "LoomDraftModel" "isRising" "Z", Cond.methodLink RX5 52 yX5_moved, Cond.instanceMethod yX5_moved, Cond.selects RX5 yX5_moved yX5_moved, Cond.code yX5_moved cX5_moved 4 (some .int), Cond.fieldLink RX5 13 "LoomDraftModel" "ties" "[I", Cond.methodLink RX5 48 yX5_of]
def wsX5_longestFloat_r2 : List Cond := [Cond.static yX5_of, Cond.code yX5_of cX5_of 1 (some .int), Cond.methodLink RX5 72 yX5_has, Cond.static yX5_has, Cond.code yX5_has cX5_has 3 (some .boolean)]
def wsX5_longestFloat : List Cond := .code yX5_longestFloat cX5_longestFloat 3 (some .int) :: ((wsX5_longestFloat_r1 ++ wsX5_longestFloat_r2) ++ wsX50)
def wsX5_floats_r1 : List Cond := [Cond.fieldLink RX5 32 "LoomDraftModel" "thrown" "I", Cond.methodLink RX5 36 yX5_isIn, Cond.static yX5_isIn, Cond.initialized RX5, Cond.code yX5_isIn cX5_isIn 3 (some .boolean), Cond.methodLink RX5 82 yX5_floatsOf, Cond.instanceMethod yX5_floatsOf, Cond.selects RX5 yX5_floatsOf yX5_floatsOf, Cond.code yX5_floatsOf cX5_floatsOf 13 (some .int), Cond.fieldLink RX5 17 "LoomDraftModel" "sizes" "[I", Cond.arrayClass .long, Cond.methodLink RX5 76 Lib.Math.max.name, Cond.static Lib.Math.max.name, Cond.initialized "java/lang/Math", Cond.code Lib.Math.max.name Lib.Math.max.code 2 (some .int), Cond.methodLink RX5 68 yX5_above, Cond.instanceMethod yX5_above, Cond.selects RX5 yX5_above yX5_above, Cond.code yX5_above cX5_above 6 (some .long), Cond.fieldLink RX5 22 "LoomDraftModel" "firsts" "[[I", Cond.fieldLink RX5 7 "LoomDraftModel" "isRising" "Z", Cond.methodLink RX5 52 yX5_moved, Cond.instanceMethod yX5_moved, Cond.selects RX5 yX5_moved yX5_moved]
def wsX5_floats_r2 : List Cond := [Cond.code yX5_moved cX5_moved 4 (some .int), Cond.fieldLink RX5 13 "LoomDraftModel" "ties" "[I", Cond.methodLink RX5 48 yX5_of, Cond.static yX5_of, Cond.code yX5_of cX5_of 1 (some .int), Cond.methodLink RX5 72 yX5_has, Cond.static yX5_has, Cond.code yX5_has cX5_has 3 (some .boolean), Cond.methodLink RX5 40 yX5_fail, Cond.instanceMethod yX5_fail, Cond.selects RX5 yX5_fail yX5_fail, Cond.code yX5_fail cX5_fail 2 (some .int)]
def wsX5_floats : List Cond := .code yX5_floats cX5_floats 3 (some .int) :: ((wsX5_floats_r1 ++ wsX5_floats_r2) ++ wsX50)
def wsX5_warpShare : List Cond := .code yX5_warpShare cX5_warpShare 3 (some .double) :: ([.fieldLink RX5 32 "LoomDraftModel" "thrown" "I", .fieldLink RX5 17 "LoomDraftModel" "sizes" "[I", .methodLink RX5 68 yX5_above, .instanceMethod yX5_above, .selects RX5 yX5_above yX5_above, .initialized RX5, .code yX5_above cX5_above 6 (some .long), .fieldLink RX5 22 "LoomDraftModel" "firsts" "[[I", .fieldLink RX5 7 "LoomDraftModel" "isRising" "Z", .methodLink RX5 52 yX5_moved, .instanceMethod yX5_moved, .selects RX5 yX5_moved yX5_moved, .code yX5_moved cX5_moved 4 (some .int), .fieldLink RX5 13 "LoomDraftModel" "ties" "[I", .methodLink RX5 86 yJ13_bitCount_95d88, .static yJ13_bitCount_95d88, .initialized RJ13, .code yJ13_bitCount_95d88 cJ13_bitCount_95d88 2 (some .int), .constantLong RJ13 314 (6148914691236517205), .constantLong RJ13 316 (3689348814741910323), .constantLong RJ13 318 (1085102592571150095)] ++ wsX50)
def wsX5_period : List Cond := .code yX5_period cX5_period 7 (some .int) :: ([.fieldLink RX5 32 "LoomDraftModel" "thrown" "I", .fieldLink RX5 17 "LoomDraftModel" "sizes" "[I", .fieldLink RX5 22 "LoomDraftModel" "firsts" "[[I", .fieldLink RX5 25 "LoomDraftModel" "colours" "[[I", .methodLink RX5 48 yX5_of, .static yX5_of, .initialized RX5, .code yX5_of cX5_of 1 (some .int)] ++ wsX50)
def wsX5_spread : List Cond := .code yX5_spread cX5_spread 16 (some (.array .long)) :: ([.fieldLink RX5 17 "LoomDraftModel" "sizes" "[I", .constantLong RX5 92 (-1), .arrayClass .long, .methodLink RX5 72 yX5_has, .static yX5_has, .initialized RX5, .code yX5_has cX5_has 3 (some .boolean)] ++ wsX50)
def wsX5_leads : List Cond := .code yX5_leads cX5_leads 3 (some .boolean) :: ([.fieldLink RX5 17 "LoomDraftModel" "sizes" "[I", .methodLink RX5 72 yX5_has, .static yX5_has, .initialized RX5, .code yX5_has cX5_has 3 (some .boolean)] ++ wsX50)
def wsX5_layersOf_r1 : List Cond := [Cond.fieldLink RX5 17 "LoomDraftModel" "sizes" "[I", Cond.arrayClass .long, Cond.classLink RX5 94 "[J", Cond.methodLink RX5 68 yX5_above, Cond.instanceMethod yX5_above, Cond.selects RX5 yX5_above yX5_above, Cond.initialized RX5, Cond.code yX5_above cX5_above 6 (some .long), Cond.fieldLink RX5 22 "LoomDraftModel" "firsts" "[[I", Cond.fieldLink RX5 7 "LoomDraftModel" "isRising" "Z", Cond.methodLink RX5 52 yX5_moved, Cond.instanceMethod yX5_moved, Cond.selects RX5 yX5_moved yX5_moved, Cond.code yX5_moved cX5_moved 4 (some .int), Cond.fieldLink RX5 13 "LoomDraftModel" "ties" "[I", Cond.methodLink RX5 95 yX5_spread, Cond.instanceMethod yX5_spread, Cond.selects RX5 yX5_spread yX5_spread, Cond.code yX5_spread cX5_spread 16 (some (.array .long)), Cond.constantLong RX5 92 (-1), Cond.methodLink RX5 72 yX5_has, Cond.static yX5_has, Cond.code yX5_has cX5_has 3 (some .boolean), Cond.methodLink RX5 99 yX5_leads]
def wsX5_layersOf_r2 : List Cond := [Cond.instanceMethod yX5_leads, Cond.selects RX5 yX5_leads yX5_leads, Cond.code yX5_leads cX5_leads 3 (some .boolean)]
def wsX5_layersOf : List Cond := .code yX5_layersOf cX5_layersOf 8 (some .int) :: ((wsX5_layersOf_r1 ++ wsX5_layersOf_r2) ++ wsX50)
def wsX5_layers_r1 : List Cond := [Cond.fieldLink RX5 32 "LoomDraftModel" "thrown" "I", Cond.methodLink RX5 103 yX5_layersOf, Cond.instanceMethod yX5_layersOf, Cond.selects RX5 yX5_layersOf yX5_layersOf, Cond.initialized RX5, Cond.code yX5_layersOf cX5_layersOf 8 (some .int), Cond.fieldLink RX5 17 "LoomDraftModel" "sizes" "[I", Cond.arrayClass .long, Cond.classLink RX5 94 "[J", Cond.methodLink RX5 68 yX5_above, Cond.instanceMethod yX5_above, Cond.selects RX5 yX5_above yX5_above, Cond.code yX5_above cX5_above 6 (some .long), Cond.fieldLink RX5 22 "LoomDraftModel" "firsts" "[[I", Cond.fieldLink RX5 7 "LoomDraftModel" "isRising" "Z", Cond.methodLink RX5 52 yX5_moved, Cond.instanceMethod yX5_moved, Cond.selects RX5 yX5_moved yX5_moved, Cond.code yX5_moved cX5_moved 4 (some .int), Cond.fieldLink RX5 13 "LoomDraftModel" "ties" "[I", Cond.methodLink RX5 95 yX5_spread, Cond.instanceMethod yX5_spread, Cond.selects RX5 yX5_spread yX5_spread, Cond.code yX5_spread cX5_spread 16 (some (.array .long))]
def wsX5_layers_r2 : List Cond := [Cond.constantLong RX5 92 (-1), Cond.methodLink RX5 72 yX5_has, Cond.static yX5_has, Cond.code yX5_has cX5_has 3 (some .boolean), Cond.methodLink RX5 99 yX5_leads, Cond.instanceMethod yX5_leads, Cond.selects RX5 yX5_leads yX5_leads, Cond.code yX5_leads cX5_leads 3 (some .boolean)]
def wsX5_layers : List Cond := .code yX5_layers cX5_layers 1 (some .int) :: ((wsX5_layers_r1 ++ wsX5_layers_r2) ++ wsX50)
def wsX5_hangsTogether_r1 : List Cond := [Cond.fieldLink RX5 32 "LoomDraftModel" "thrown" "I", Cond.fieldLink RX5 17 "LoomDraftModel" "sizes" "[I", Cond.methodLink RX5 103 yX5_layersOf, Cond.instanceMethod yX5_layersOf, Cond.selects RX5 yX5_layersOf yX5_layersOf, Cond.initialized RX5, Cond.code yX5_layersOf cX5_layersOf 8 (some .int), Cond.arrayClass .long, Cond.classLink RX5 94 "[J", Cond.methodLink RX5 68 yX5_above, Cond.instanceMethod yX5_above, Cond.selects RX5 yX5_above yX5_above, Cond.code yX5_above cX5_above 6 (some .long), Cond.fieldLink RX5 22 "LoomDraftModel" "firsts" "[[I", Cond.fieldLink RX5 7 "LoomDraftModel" "isRising" "Z", Cond.methodLink RX5 52 yX5_moved, Cond.instanceMethod yX5_moved, Cond.selects RX5 yX5_moved yX5_moved, Cond.code yX5_moved cX5_moved 4 (some .int), Cond.fieldLink RX5 13 "LoomDraftModel" "ties" "[I", Cond.methodLink RX5 95 yX5_spread, Cond.instanceMethod yX5_spread, Cond.selects RX5 yX5_spread yX5_spread, Cond.code yX5_spread cX5_spread 16 (some (.array .long))]
def wsX5_hangsTogether_r2 : List Cond := [Cond.constantLong RX5 92 (-1), Cond.methodLink RX5 72 yX5_has, Cond.static yX5_has, Cond.code yX5_has cX5_has 3 (some .boolean), Cond.methodLink RX5 99 yX5_leads, Cond.instanceMethod yX5_leads, Cond.selects RX5 yX5_leads yX5_leads, Cond.code yX5_leads cX5_leads 3 (some .boolean)]
def wsX5_hangsTogether : List Cond := .code yX5_hangsTogether cX5_hangsTogether 1 (some .boolean) :: ((wsX5_hangsTogether_r1 ++ wsX5_hangsTogether_r2) ++ wsX50)
def wsX5_colourAt : List Cond := .code yX5_colourAt cX5_colourAt 7 (some .int) :: ([.fieldLink RX5 32 "LoomDraftModel" "thrown" "I", .fieldLink RX5 17 "LoomDraftModel" "sizes" "[I", .fieldLink RX5 25 "LoomDraftModel" "colours" "[[I", .methodLink RX5 40 yX5_fail, .instanceMethod yX5_fail, .selects RX5 yX5_fail yX5_fail, .initialized RX5, .code yX5_fail cX5_fail 2 (some .int)] ++ wsX50)
def wsX5_threadsOf : List Cond := .code yX5_threadsOf cX5_threadsOf 5 (some .int) :: ([.fieldLink RX5 32 "LoomDraftModel" "thrown" "I", .fieldLink RX5 17 "LoomDraftModel" "sizes" "[I", .fieldLink RX5 25 "LoomDraftModel" "colours" "[[I", .methodLink RX5 36 yX5_isIn, .static yX5_isIn, .initialized RX5, .code yX5_isIn cX5_isIn 3 (some .boolean), .methodLink RX5 40 yX5_fail, .instanceMethod yX5_fail, .selects RX5 yX5_fail yX5_fail, .code yX5_fail cX5_fail 2 (some .int)] ++ wsX50)
def wsX5_draw : List Cond := .code yX5_draw cX5_draw 3 (some .int) :: ([.fieldLink RX5 32 "LoomDraftModel" "thrown" "I", .fieldLink RX5 107 "LoomDraftModel" "drawn" "I", .fieldLink RX5 110 "LoomDraftModel" "columns" "I", .methodLink RX5 36 yX5_isIn, .static yX5_isIn, .initialized RX5, .code yX5_isIn cX5_isIn 3 (some .boolean), .methodLink RX5 40 yX5_fail, .instanceMethod yX5_fail, .selects RX5 yX5_fail yX5_fail, .code yX5_fail cX5_fail 2 (some .int)] ++ wsX50)
def wsX5_row : List Cond := .code yX5_row cX5_row 3 (some .int) :: ([.fieldLink RX5 32 "LoomDraftModel" "thrown" "I", .fieldLink RX5 110 "LoomDraftModel" "columns" "I", .fieldLink RX5 107 "LoomDraftModel" "drawn" "I", .fieldLink RX5 28 "LoomDraftModel" "drawing" "[J", .methodLink RX5 40 yX5_fail, .instanceMethod yX5_fail, .selects RX5 yX5_fail yX5_fail, .initialized RX5, .code yX5_fail cX5_fail 2 (some .int)] ++ wsX50)
def wsX5_column : List Cond := .code yX5_column cX5_column 5 (some .long) :: ([.fieldLink RX5 107 "LoomDraftModel" "drawn" "I", .fieldLink RX5 28 "LoomDraftModel" "drawing" "[J", .methodLink RX5 72 yX5_has, .static yX5_has, .initialized RX5, .code yX5_has cX5_has 3 (some .boolean)] ++ wsX50)
def wsX5_numbered : List Cond := .code yX5_numbered cX5_numbered 5 (some (.array .int)) :: ([.arrayClass .int])
def wsX5_fit_r1 : List Cond := [Cond.fieldLink RX5 32 "LoomDraftModel" "thrown" "I", Cond.fieldLink RX5 107 "LoomDraftModel" "drawn" "I", Cond.arrayClass .long, Cond.fieldLink RX5 28 "LoomDraftModel" "drawing" "[J", Cond.methodLink RX5 113 arraycopyName, Cond.native arraycopyName, Cond.static arraycopyName, Cond.initialized "java/lang/System", Cond.fieldLink RX5 110 "LoomDraftModel" "columns" "I", Cond.fieldLink RX5 17 "LoomDraftModel" "sizes" "[I", Cond.fieldLink RX5 13 "LoomDraftModel" "ties" "[I", Cond.fieldLink RX5 7 "LoomDraftModel" "isRising" "Z", Cond.methodLink RX5 40 yX5_fail, Cond.instanceMethod yX5_fail, Cond.selects RX5 yX5_fail yX5_fail, Cond.initialized RX5, Cond.code yX5_fail cX5_fail 2 (some .int), Cond.methodLink RX5 119 yX5_column, Cond.instanceMethod yX5_column, Cond.selects RX5 yX5_column yX5_column, Cond.code yX5_column cX5_column 5 (some .long), Cond.methodLink RX5 72 yX5_has, Cond.static yX5_has, Cond.code yX5_has cX5_has 3 (some .boolean)]
def wsX5_fit_r2 : List Cond := [Cond.methodLink RX5 122 yX5_numbered, Cond.static yX5_numbered, Cond.code yX5_numbered cX5_numbered 5 (some (.array .int)), Cond.arrayClass .int, Cond.methodLink RX5 44 yX5_add, Cond.instanceMethod yX5_add, Cond.selects RX5 yX5_add yX5_add, Cond.code yX5_add cX5_add 4 (some .int), Cond.fieldLink RX5 22 "LoomDraftModel" "firsts" "[[I", Cond.fieldLink RX5 25 "LoomDraftModel" "colours" "[[I"]
def wsX5_fit : List Cond := .code yX5_fit cX5_fit 7 (some .int) :: ((wsX5_fit_r1 ++ wsX5_fit_r2) ++ wsX50)
def wsX5_differences : List Cond := .code yX5_differences cX5_differences 3 (some .int) :: ([.fieldLink RX5 32 "LoomDraftModel" "thrown" "I", .fieldLink RX5 17 "LoomDraftModel" "sizes" "[I", .fieldLink RX5 110 "LoomDraftModel" "columns" "I", .fieldLink RX5 107 "LoomDraftModel" "drawn" "I", .fieldLink RX5 28 "LoomDraftModel" "drawing" "[J", .methodLink RX5 68 yX5_above, .instanceMethod yX5_above, .selects RX5 yX5_above yX5_above, .initialized RX5, .code yX5_above cX5_above 6 (some .long), .fieldLink RX5 22 "LoomDraftModel" "firsts" "[[I", .fieldLink RX5 7 "LoomDraftModel" "isRising" "Z", .methodLink RX5 52 yX5_moved, .instanceMethod yX5_moved, .selects RX5 yX5_moved yX5_moved, .code yX5_moved cX5_moved 4 (some .int), .fieldLink RX5 13 "LoomDraftModel" "ties" "[I", .methodLink RX5 86 yJ13_bitCount_95d88, .static yJ13_bitCount_95d88, .initialized RJ13, .code yJ13_bitCount_95d88 cJ13_bitCount_95d88 2 (some .int), .constantLong RJ13 314 (6148914691236517205), .constantLong RJ13 316 (3689348814741910323), .constantLong RJ13 318 (1085102592571150095)] ++ wsX50)
def wsX5_digest : List Cond := .code yX5_digest cX5_digest 7 (some .long) :: ([.fieldLink RX5 32 "LoomDraftModel" "thrown" "I", .constantLong RX5 126 (7471), .fieldLink RX5 7 "LoomDraftModel" "isRising" "Z", .fieldLink RX5 13 "LoomDraftModel" "ties" "[I", .constantLong RX5 128 (31), .fieldLink RX5 17 "LoomDraftModel" "sizes" "[I", .fieldLink RX5 22 "LoomDraftModel" "firsts" "[[I", .fieldLink RX5 25 "LoomDraftModel" "colours" "[[I", .fieldLink RX5 110 "LoomDraftModel" "columns" "I", .fieldLink RX5 107 "LoomDraftModel" "drawn" "I", .fieldLink RX5 28 "LoomDraftModel" "drawing" "[J"] ++ wsX50)
def wsJ9_max_7cf53 : List Cond := .code yJ9_max_7cf53 cJ9_max_7cf53 2 (some .int) :: ([])
def wsL_thread_r1 : List Cond := [Cond.classLink RL 13 "java/lang/IllegalArgumentException", Cond.classLink RL 15 "java/lang/IllegalStateException", Cond.methodLink RL 7 yX4_thread, Cond.instanceMethod yX4_thread, Cond.selects RX4 yX4_thread yX4_thread, Cond.initialized RX4, Cond.code yX4_thread cX4_thread 3 (some .int), Cond.classLink RX4 52 "java/lang/IllegalArgumentException", Cond.initialized "java/lang/IllegalArgumentException", Cond.classLink RX4 59 "java/lang/IllegalStateException", Cond.initialized "java/lang/IllegalStateException", Cond.fieldLink RX4 10 "LoomDraft" "warp" "LLoomDraft$ThreadRow;", Cond.methodLink RX4 48 yX4_isBelow, Cond.static yX4_isBelow, Cond.code yX4_isBelow cX4_isBelow 2 (some .boolean), Cond.instanceMethod yX3_isFull, Cond.initialized RX3, Cond.selects RX3 yX3_isFull yX3_isFull, Cond.code yX3_isFull cX3_isFull 1 (some .boolean), Cond.fieldLink RX3 18 "LoomDraft$ThreadRow" "size" "I", Cond.instanceMethod yX3_add, Cond.selects RX3 yX3_add yX3_add, Cond.code yX3_add cX3_add 4 (some .int), Cond.fieldLink RX3 9 "LoomDraft$ThreadRow" "bindings" "[I"]
def wsL_thread_r2 : List Cond := [Cond.fieldLink RX3 15 "LoomDraft$ThreadRow" "colours" "[I"]
def wsL_thread : List Cond := .codeWith yL_thread cL_thread 5 (some .int) [(0, 10, 13, 13), (0, 10, 17, 15)] :: ((wsL_thread_r1 ++ wsL_thread_r2) ++ wsX40 ++ wsX30 ++ (vx_at0 RX4 54 "java/lang/IllegalArgumentException" ["java/lang/RuntimeException", "java/lang/Exception"]).filter goodWord ++ (vx_at0 RX4 61 "java/lang/IllegalStateException" ["java/lang/RuntimeException", "java/lang/Exception"]).filter goodWord)
def wsL_tread_r1 : List Cond := [Cond.classLink RL 13 "java/lang/IllegalArgumentException", Cond.classLink RL 15 "java/lang/IllegalStateException", Cond.methodLink RL 17 yX4_tread, Cond.instanceMethod yX4_tread, Cond.selects RX4 yX4_tread yX4_tread, Cond.initialized RX4, Cond.code yX4_tread cX4_tread 3 (some .int), Cond.classLink RX4 52 "java/lang/IllegalArgumentException", Cond.initialized "java/lang/IllegalArgumentException", Cond.classLink RX4 59 "java/lang/IllegalStateException", Cond.initialized "java/lang/IllegalStateException", Cond.fieldLink RX4 16 "LoomDraft" "weft" "LLoomDraft$ThreadRow;", Cond.methodLink RX4 66 yX4_isSetOf, Cond.static yX4_isSetOf, Cond.code yX4_isSetOf cX4_isSetOf 2 (some .boolean), Cond.methodLink RX4 48 yX4_isBelow, Cond.static yX4_isBelow, Cond.code yX4_isBelow cX4_isBelow 2 (some .boolean), Cond.instanceMethod yX3_isFull, Cond.initialized RX3, Cond.selects RX3 yX3_isFull yX3_isFull, Cond.code yX3_isFull cX3_isFull 1 (some .boolean), Cond.fieldLink RX3 18 "LoomDraft$ThreadRow" "size" "I", Cond.instanceMethod yX3_add]
def wsL_tread_r2 : List Cond := [Cond.selects RX3 yX3_add yX3_add, Cond.code yX3_add cX3_add 4 (some .int), Cond.fieldLink RX3 9 "LoomDraft$ThreadRow" "bindings" "[I", Cond.fieldLink RX3 15 "LoomDraft$ThreadRow" "colours" "[I"]
def wsL_tread : List Cond := .codeWith yL_tread cL_tread 5 (some .int) [(0, 10, 13, 13), (0, 10, 17, 15)] :: ((wsL_tread_r1 ++ wsL_tread_r2) ++ wsX40 ++ wsX30 ++ (vx_at0 RX4 54 "java/lang/IllegalArgumentException" ["java/lang/RuntimeException", "java/lang/Exception"]).filter goodWord ++ (vx_at0 RX4 61 "java/lang/IllegalStateException" ["java/lang/RuntimeException", "java/lang/Exception"]).filter goodWord)
def wsL_tie : List Cond := .codeWith yL_tie cL_tie 5 (some .int) [(0, 10, 13, 23), (0, 10, 17, 13)] :: ([.classLink RL 23 "java/lang/IndexOutOfBoundsException", .classLink RL 13 "java/lang/IllegalArgumentException", .methodLink RL 20 yX4_tie, .instanceMethod yX4_tie, .selects RX4 yX4_tie yX4_tie, .initialized RX4, .code yX4_tie cX4_tie 4 (some .int), .classLink RX4 69 "java/lang/IndexOutOfBoundsException", .initialized "java/lang/IndexOutOfBoundsException", .classLink RX4 52 "java/lang/IllegalArgumentException", .initialized "java/lang/IllegalArgumentException", .fieldLink RX4 19 "LoomDraft" "ties" "[I", .methodLink RX4 48 yX4_isBelow, .static yX4_isBelow, .code yX4_isBelow cX4_isBelow 2 (some .boolean), .methodLink RX4 66 yX4_isSetOf, .static yX4_isSetOf, .code yX4_isSetOf cX4_isSetOf 2 (some .boolean)] ++ wsX40 ++ (vx_at0 RX4 71 "java/lang/IndexOutOfBoundsException" ["java/lang/RuntimeException", "java/lang/Exception"]).filter goodWord ++ (vx_at0 RX4 54 "java/lang/IllegalArgumentException" ["java/lang/RuntimeException", "java/lang/Exception"]).filter goodWord)
def wsL_end : List Cond := .codeWith yL_end cL_end 5 (some .int) [(0, 10, 13, 23)] :: ([.classLink RL 23 "java/lang/IndexOutOfBoundsException", .methodLink RL 25 yX4_end, .instanceMethod yX4_end, .selects RX4 yX4_end yX4_end, .initialized RX4, .code yX4_end cX4_end 3 (some .int), .classLink RX4 69 "java/lang/IndexOutOfBoundsException", .initialized "java/lang/IndexOutOfBoundsException", .fieldLink RX4 10 "LoomDraft" "warp" "LLoomDraft$ThreadRow;", .instanceMethod yX3_has, .initialized RX3, .selects RX3 yX3_has yX3_has, .code yX3_has cX3_has 2 (some .boolean), .fieldLink RX3 18 "LoomDraft$ThreadRow" "size" "I", .static yX4_isBelow, .code yX4_isBelow cX4_isBelow 2 (some .boolean), .methodLink RX4 48 yX4_isBelow] ++ wsX40 ++ wsX30 ++ (vx_at0 RX4 71 "java/lang/IndexOutOfBoundsException" ["java/lang/RuntimeException", "java/lang/Exception"]).filter goodWord)
def wsL_pick_r1 : List Cond := [Cond.classLink RL 23 "java/lang/IndexOutOfBoundsException", Cond.methodLink RL 28 yX4_pick, Cond.instanceMethod yX4_pick, Cond.selects RX4 yX4_pick yX4_pick, Cond.initialized RX4, Cond.code yX4_pick cX4_pick 3 (some .int), Cond.classLink RX4 69 "java/lang/IndexOutOfBoundsException", Cond.initialized "java/lang/IndexOutOfBoundsException", Cond.fieldLink RX4 16 "LoomDraft" "weft" "LLoomDraft$ThreadRow;", Cond.instanceMethod yX3_has, Cond.initialized RX3, Cond.selects RX3 yX3_has yX3_has, Cond.code yX3_has cX3_has 2 (some .boolean), Cond.fieldLink RX3 18 "LoomDraft$ThreadRow" "size" "I", Cond.static yX4_isBelow, Cond.code yX4_isBelow cX4_isBelow 2 (some .boolean), Cond.methodLink RX4 48 yX4_isBelow, Cond.methodLink RX4 90 yX4_shaftsMovedFor, Cond.instanceMethod yX4_shaftsMovedFor, Cond.selects RX4 yX4_shaftsMovedFor yX4_shaftsMovedFor, Cond.code yX4_shaftsMovedFor cX4_shaftsMovedFor 4 (some .int), Cond.fieldLink RX4 19 "LoomDraft" "ties" "[I", Cond.methodLink RX4 109 yX4_hasBit, Cond.static yX4_hasBit]
def wsL_pick_r2 : List Cond := [Cond.code yX4_hasBit cX4_hasBit 3 (some .boolean)]
def wsL_pick : List Cond := .codeWith yL_pick cL_pick 5 (some .int) [(0, 10, 13, 23)] :: ((wsL_pick_r1 ++ wsL_pick_r2) ++ wsX40 ++ wsX30 ++ (vx_at0 RX4 71 "java/lang/IndexOutOfBoundsException" ["java/lang/RuntimeException", "java/lang/Exception"]).filter goodWord)
def wsL_rotate_r1 : List Cond := [Cond.classLink RL 13 "java/lang/IllegalArgumentException", Cond.methodLink RL 31 yX4_rotate, Cond.instanceMethod yX4_rotate, Cond.selects RX4 yX4_rotate yX4_rotate, Cond.initialized RX4, Cond.code yX4_rotate cX4_rotate 4 (some .int), Cond.classLink RX4 52 "java/lang/IllegalArgumentException", Cond.initialized "java/lang/IllegalArgumentException", Cond.methodLink RX4 72 yX4_rowOf, Cond.instanceMethod yX4_rowOf, Cond.selects RX4 yX4_rowOf yX4_rowOf, Cond.code yX4_rowOf cX4_rowOf 2 (some (.object "LoomDraft$ThreadRow")), Cond.fieldLink RX4 10 "LoomDraft" "warp" "LLoomDraft$ThreadRow;", Cond.fieldLink RX4 16 "LoomDraft" "weft" "LLoomDraft$ThreadRow;", Cond.instanceMethod yX3_moveOn, Cond.initialized RX3, Cond.selects RX3 yX3_moveOn yX3_moveOn, Cond.code yX3_moveOn cX3_moveOn 3 none, Cond.fieldLink RX3 18 "LoomDraft$ThreadRow" "size" "I", Cond.methodLink RX3 34 yX3_turn, Cond.instanceMethod yX3_turn, Cond.selects RX3 yX3_turn yX3_turn, Cond.code yX3_turn cX3_turn 5 none, Cond.methodLink RX3 30 yX3_swap]
def wsL_rotate_r2 : List Cond := [Cond.instanceMethod yX3_swap, Cond.selects RX3 yX3_swap yX3_swap, Cond.code yX3_swap cX3_swap 5 none, Cond.fieldLink RX3 9 "LoomDraft$ThreadRow" "bindings" "[I", Cond.fieldLink RX3 15 "LoomDraft$ThreadRow" "colours" "[I"]
def wsL_rotate : List Cond := .codeWith yL_rotate cL_rotate 5 (some .int) [(0, 10, 13, 13)] :: ((wsL_rotate_r1 ++ wsL_rotate_r2) ++ wsX30 ++ wsX40 ++ (vx_at0 RX4 54 "java/lang/IllegalArgumentException" ["java/lang/RuntimeException", "java/lang/Exception"]).filter goodWord)
def wsL_repeat_r1 : List Cond := [Cond.classLink RL 15 "java/lang/IllegalStateException", Cond.methodLink RL 35 yX4_repeat, Cond.instanceMethod yX4_repeat, Cond.selects RX4 yX4_repeat yX4_repeat, Cond.initialized RX4, Cond.code yX4_repeat cX4_repeat 3 (some .int), Cond.classLink RX4 59 "java/lang/IllegalStateException", Cond.initialized "java/lang/IllegalStateException", Cond.methodLink RX4 72 yX4_rowOf, Cond.instanceMethod yX4_rowOf, Cond.selects RX4 yX4_rowOf yX4_rowOf, Cond.code yX4_rowOf cX4_rowOf 2 (some (.object "LoomDraft$ThreadRow")), Cond.fieldLink RX4 10 "LoomDraft" "warp" "LLoomDraft$ThreadRow;", Cond.fieldLink RX4 16 "LoomDraft" "weft" "LLoomDraft$ThreadRow;", Cond.instanceMethod yX3_addCopy, Cond.initialized RX3, Cond.selects RX3 yX3_addCopy yX3_addCopy, Cond.code yX3_addCopy cX3_addCopy 3 none, Cond.fieldLink RX3 18 "LoomDraft$ThreadRow" "size" "I", Cond.fieldLink RX3 9 "LoomDraft$ThreadRow" "bindings" "[I", Cond.fieldLink RX3 15 "LoomDraft$ThreadRow" "colours" "[I", Cond.methodLink RX3 26 yX3_add, Cond.instanceMethod yX3_add, Cond.selects RX3 yX3_add yX3_add]
def wsL_repeat_r2 : List Cond := [Cond.code yX3_add cX3_add 4 (some .int)]
def wsL_repeat : List Cond := .codeWith yL_repeat cL_repeat 4 (some .int) [(0, 9, 12, 15)] :: ((wsL_repeat_r1 ++ wsL_repeat_r2) ++ wsX30 ++ wsX40 ++ (vx_at0 RX4 61 "java/lang/IllegalStateException" ["java/lang/RuntimeException", "java/lang/Exception"]).filter goodWord)
def wsL_cut : List Cond := .codeWith yL_cut cL_cut 5 (some .int) [(0, 10, 13, 13)] :: ([.classLink RL 13 "java/lang/IllegalArgumentException", .methodLink RL 39 yX4_cut, .instanceMethod yX4_cut, .selects RX4 yX4_cut yX4_cut, .initialized RX4, .code yX4_cut cX4_cut 5 (some .int), .classLink RX4 52 "java/lang/IllegalArgumentException", .initialized "java/lang/IllegalArgumentException", .methodLink RX4 72 yX4_rowOf, .instanceMethod yX4_rowOf, .selects RX4 yX4_rowOf yX4_rowOf, .code yX4_rowOf cX4_rowOf 2 (some (.object "LoomDraft$ThreadRow")), .fieldLink RX4 10 "LoomDraft" "warp" "LLoomDraft$ThreadRow;", .fieldLink RX4 16 "LoomDraft" "weft" "LLoomDraft$ThreadRow;"] ++ wsX30 ++ wsX40 ++ (vx_at0 RX4 54 "java/lang/IllegalArgumentException" ["java/lang/RuntimeException", "java/lang/Exception"]).filter goodWord)
def wsL_isWarpOnTop_r1 : List Cond := [Cond.classLink RL 23 "java/lang/IndexOutOfBoundsException", Cond.methodLink RL 42 yX4_isWarpOnTop, Cond.instanceMethod yX4_isWarpOnTop, Cond.selects RX4 yX4_isWarpOnTop yX4_isWarpOnTop, Cond.initialized RX4, Cond.code yX4_isWarpOnTop cX4_isWarpOnTop 3 (some .boolean), Cond.classLink RX4 69 "java/lang/IndexOutOfBoundsException", Cond.initialized "java/lang/IndexOutOfBoundsException", Cond.fieldLink RX4 16 "LoomDraft" "weft" "LLoomDraft$ThreadRow;", Cond.fieldLink RX4 10 "LoomDraft" "warp" "LLoomDraft$ThreadRow;", Cond.instanceMethod yX3_has, Cond.initialized RX3, Cond.selects RX3 yX3_has yX3_has, Cond.code yX3_has cX3_has 2 (some .boolean), Cond.fieldLink RX3 18 "LoomDraft$ThreadRow" "size" "I", Cond.static yX4_isBelow, Cond.code yX4_isBelow cX4_isBelow 2 (some .boolean), Cond.methodLink RX4 105 yX4_shaftsUpAt, Cond.instanceMethod yX4_shaftsUpAt, Cond.selects RX4 yX4_shaftsUpAt yX4_shaftsUpAt, Cond.code yX4_shaftsUpAt cX4_shaftsUpAt 3 (some .long), Cond.fieldLink RX4 23 "LoomDraft" "rising" "Z", Cond.methodLink RX4 90 yX4_shaftsMovedFor, Cond.instanceMethod yX4_shaftsMovedFor]
def wsL_isWarpOnTop_r2 : List Cond := [Cond.selects RX4 yX4_shaftsMovedFor yX4_shaftsMovedFor, Cond.code yX4_shaftsMovedFor cX4_shaftsMovedFor 4 (some .int), Cond.fieldLink RX4 19 "LoomDraft" "ties" "[I", Cond.methodLink RX4 109 yX4_hasBit, Cond.static yX4_hasBit, Cond.code yX4_hasBit cX4_hasBit 3 (some .boolean), Cond.methodLink RX4 150 yX4_allOf, Cond.static yX4_allOf, Cond.code yX4_allOf cX4_allOf 1 (some .long)]
def wsL_isWarpOnTop : List Cond := .codeWith yL_isWarpOnTop cL_isWarpOnTop 5 (some .int) [(0, 17, 20, 23)] :: ((wsL_isWarpOnTop_r1 ++ wsL_isWarpOnTop_r2) ++ wsX40 ++ wsX30 ++ (vx_at0 RX4 71 "java/lang/IndexOutOfBoundsException" ["java/lang/RuntimeException", "java/lang/Exception"]).filter goodWord)
def wsL_colour_r1 : List Cond := [Cond.classLink RL 23 "java/lang/IndexOutOfBoundsException", Cond.methodLink RL 46 yX4_colour, Cond.instanceMethod yX4_colour, Cond.selects RX4 yX4_colour yX4_colour, Cond.initialized RX4, Cond.code yX4_colour cX4_colour 4 (some .int), Cond.classLink RX4 69 "java/lang/IndexOutOfBoundsException", Cond.initialized "java/lang/IndexOutOfBoundsException", Cond.fieldLink RX4 16 "LoomDraft" "weft" "LLoomDraft$ThreadRow;", Cond.fieldLink RX4 10 "LoomDraft" "warp" "LLoomDraft$ThreadRow;", Cond.instanceMethod yX3_has, Cond.initialized RX3, Cond.selects RX3 yX3_has yX3_has, Cond.code yX3_has cX3_has 2 (some .boolean), Cond.fieldLink RX3 18 "LoomDraft$ThreadRow" "size" "I", Cond.static yX4_isBelow, Cond.code yX4_isBelow cX4_isBelow 2 (some .boolean), Cond.methodLink RX4 105 yX4_shaftsUpAt, Cond.instanceMethod yX4_shaftsUpAt, Cond.selects RX4 yX4_shaftsUpAt yX4_shaftsUpAt, Cond.code yX4_shaftsUpAt cX4_shaftsUpAt 3 (some .long), Cond.fieldLink RX4 23 "LoomDraft" "rising" "Z", Cond.methodLink RX4 90 yX4_shaftsMovedFor, Cond.instanceMethod yX4_shaftsMovedFor]
def wsL_colour_r2 : List Cond := [Cond.selects RX4 yX4_shaftsMovedFor yX4_shaftsMovedFor, Cond.code yX4_shaftsMovedFor cX4_shaftsMovedFor 4 (some .int), Cond.fieldLink RX4 19 "LoomDraft" "ties" "[I", Cond.methodLink RX4 109 yX4_hasBit, Cond.static yX4_hasBit, Cond.code yX4_hasBit cX4_hasBit 3 (some .boolean), Cond.methodLink RX4 150 yX4_allOf, Cond.static yX4_allOf, Cond.code yX4_allOf cX4_allOf 1 (some .long)]
def wsL_colour : List Cond := .codeWith yL_colour cL_colour 5 (some .int) [(0, 10, 13, 23)] :: ((wsL_colour_r1 ++ wsL_colour_r2) ++ wsX40 ++ wsX30 ++ (vx_at0 RX4 71 "java/lang/IndexOutOfBoundsException" ["java/lang/RuntimeException", "java/lang/Exception"]).filter goodWord)
def wsL_floats_r1 : List Cond := [Cond.classLink RL 13 "java/lang/IllegalArgumentException", Cond.methodLink RL 49 yX4_floats, Cond.instanceMethod yX4_floats, Cond.selects RX4 yX4_floats yX4_floats, Cond.initialized RX4, Cond.code yX4_floats cX4_floats 3 (some .int), Cond.classLink RX4 52 "java/lang/IllegalArgumentException", Cond.initialized "java/lang/IllegalArgumentException", Cond.fieldLink RX4 37 "LoomDraft" "cloth" "LLoomDraft$Cloth;", Cond.methodLink RX4 113 yX4_weave, Cond.instanceMethod yX4_weave, Cond.selects RX4 yX4_weave yX4_weave, Cond.code yX4_weave cX4_weave 7 none, Cond.fieldLink RX4 10 "LoomDraft" "warp" "LLoomDraft$ThreadRow;", Cond.fieldLink RX4 16 "LoomDraft" "weft" "LLoomDraft$ThreadRow;", Cond.methodLink RX4 105 yX4_shaftsUpAt, Cond.instanceMethod yX4_shaftsUpAt, Cond.selects RX4 yX4_shaftsUpAt yX4_shaftsUpAt, Cond.code yX4_shaftsUpAt cX4_shaftsUpAt 3 (some .long), Cond.fieldLink RX4 23 "LoomDraft" "rising" "Z", Cond.methodLink RX4 90 yX4_shaftsMovedFor, Cond.instanceMethod yX4_shaftsMovedFor, Cond.selects RX4 yX4_shaftsMovedFor yX4_shaftsMovedFor, Cond.code yX4_shaftsMovedFor cX4_shaftsMovedFor 4 (some .int)]
def wsL_floats_r2 : List Cond := [Cond.fieldLink RX4 19 "LoomDraft" "ties" "[I", Cond.methodLink RX4 109 yX4_hasBit, Cond.static yX4_hasBit, Cond.code yX4_hasBit cX4_hasBit 3 (some .boolean), Cond.methodLink RX4 150 yX4_allOf, Cond.static yX4_allOf, Cond.code yX4_allOf cX4_allOf 1 (some .long), Cond.instanceMethod yX0_countFloats, Cond.initialized RX0, Cond.selects RX0 yX0_countFloats yX0_countFloats, Cond.code yX0_countFloats cX0_countFloats 10 none, Cond.fieldLink RX0 15 "LoomDraft$Cloth" "floatsOfAtLeast" "[I", Cond.fieldLink RX0 25 "LoomDraft$Cloth" "ends" "I", Cond.fieldLink RX0 29 "LoomDraft$Cloth" "picks" "I", Cond.methodLink RX0 19 yJ7_fill_53178, Cond.static yJ7_fill_53178, Cond.initialized RJ7, Cond.code yJ7_fill_53178 cJ7_fill_53178 4 none, Cond.methodLink RX0 32 yX0_isUp, Cond.instanceMethod yX0_isUp, Cond.selects RX0 yX0_isUp yX0_isUp, Cond.code yX0_isUp cX0_isUp 3 (some .boolean), Cond.fieldLink RX0 9 "LoomDraft$Cloth" "endsUp" "[J"]
def wsL_floats : List Cond := .codeWith yL_floats cL_floats 5 (some .int) [(0, 10, 13, 13)] :: ((wsL_floats_r1 ++ wsL_floats_r2) ++ wsX40 ++ wsX00 ++ wsX30 ++ (vx_at0 RX4 54 "java/lang/IllegalArgumentException" ["java/lang/RuntimeException", "java/lang/Exception"]).filter goodWord)
def wsL_colourAt : List Cond := .codeWith yL_colourAt cL_colourAt 4 (some .int) [(0, 9, 12, 23)] :: ([.classLink RL 23 "java/lang/IndexOutOfBoundsException", .methodLink RL 52 yX4_colourAt, .instanceMethod yX4_colourAt, .selects RX4 yX4_colourAt yX4_colourAt, .initialized RX4, .code yX4_colourAt cX4_colourAt 3 (some .int), .classLink RX4 69 "java/lang/IndexOutOfBoundsException", .initialized "java/lang/IndexOutOfBoundsException", .methodLink RX4 140 yX4_colourAppearingAs, .instanceMethod yX4_colourAppearingAs, .selects RX4 yX4_colourAppearingAs yX4_colourAppearingAs, .code yX4_colourAppearingAs cX4_colourAppearingAs 6 (some .int), .fieldLink RX4 10 "LoomDraft" "warp" "LLoomDraft$ThreadRow;", .fieldLink RX4 16 "LoomDraft" "weft" "LLoomDraft$ThreadRow;", .methodLink RX4 109 yX4_hasBit, .static yX4_hasBit, .code yX4_hasBit cX4_hasBit 3 (some .boolean), .methodLink RX4 199 yJ6_bitCount_0f7a4, .static yJ6_bitCount_0f7a4, .initialized RJ6, .code yJ6_bitCount_0f7a4 cJ6_bitCount_0f7a4 1 (some .int), .constant RJ6 265 (1431655765), .constant RJ6 266 (858993459), .constant RJ6 267 (252645135)] ++ wsX40 ++ wsX30 ++ (vx_at0 RX4 71 "java/lang/IndexOutOfBoundsException" ["java/lang/RuntimeException", "java/lang/Exception"]).filter goodWord)
def wsL_threadsOf : List Cond := .codeWith yL_threadsOf cL_threadsOf 4 (some .int) [(0, 9, 12, 23)] :: ([.classLink RL 23 "java/lang/IndexOutOfBoundsException", .methodLink RL 56 yX4_threadsOf, .instanceMethod yX4_threadsOf, .selects RX4 yX4_threadsOf yX4_threadsOf, .initialized RX4, .code yX4_threadsOf cX4_threadsOf 2 (some .int), .classLink RX4 69 "java/lang/IndexOutOfBoundsException", .initialized "java/lang/IndexOutOfBoundsException", .fieldLink RX4 10 "LoomDraft" "warp" "LLoomDraft$ThreadRow;", .fieldLink RX4 16 "LoomDraft" "weft" "LLoomDraft$ThreadRow;", .methodLink RX4 48 yX4_isBelow, .static yX4_isBelow, .code yX4_isBelow cX4_isBelow 2 (some .boolean), .instanceMethod yX3_threadsColoured, .initialized RX3, .selects RX3 yX3_threadsColoured yX3_threadsColoured, .code yX3_threadsColoured cX3_threadsColoured 4 (some .int), .fieldLink RX3 18 "LoomDraft$ThreadRow" "size" "I", .fieldLink RX3 15 "LoomDraft$ThreadRow" "colours" "[I"] ++ wsX40 ++ wsX30 ++ (vx_at0 RX4 71 "java/lang/IndexOutOfBoundsException" ["java/lang/RuntimeException", "java/lang/Exception"]).filter goodWord)
def wsL_draw : List Cond := .codeWith yL_draw cL_draw 4 (some .int) [(0, 9, 12, 13)] :: ([.classLink RL 13 "java/lang/IllegalArgumentException", .methodLink RL 59 yX4_draw, .instanceMethod yX4_draw, .selects RX4 yX4_draw yX4_draw, .initialized RX4, .code yX4_draw cX4_draw 3 (some .int), .classLink RX4 52 "java/lang/IllegalArgumentException", .initialized "java/lang/IllegalArgumentException", .fieldLink RX4 30 "LoomDraft" "drawing" "LLoomDraft$Drawing;"] ++ wsX40 ++ wsX10 ++ (vx_at0 RX4 54 "java/lang/IllegalArgumentException" ["java/lang/RuntimeException", "java/lang/Exception"]).filter goodWord)
def wsL_row : List Cond := .codeWith yL_row cL_row 5 (some .int) [(0, 9, 12, 15), (0, 9, 16, 13)] :: ([.classLink RL 15 "java/lang/IllegalStateException", .classLink RL 13 "java/lang/IllegalArgumentException", .methodLink RL 62 yX4_row, .instanceMethod yX4_row, .selects RX4 yX4_row yX4_row, .initialized RX4, .code yX4_row cX4_row 3 (some .int), .classLink RX4 59 "java/lang/IllegalStateException", .initialized "java/lang/IllegalStateException", .classLink RX4 52 "java/lang/IllegalArgumentException", .initialized "java/lang/IllegalArgumentException", .fieldLink RX4 30 "LoomDraft" "drawing" "LLoomDraft$Drawing;", .constantLong RX4 153 (-1), .methodLink RX4 150 yX4_allOf, .static yX4_allOf, .code yX4_allOf cX4_allOf 1 (some .long)] ++ wsX40 ++ wsX10 ++ (vx_at0 RX4 61 "java/lang/IllegalStateException" ["java/lang/RuntimeException", "java/lang/Exception"]).filter goodWord ++ (vx_at0 RX4 54 "java/lang/IllegalArgumentException" ["java/lang/RuntimeException", "java/lang/Exception"]).filter goodWord)
def wsL_fit_r1 : List Cond := [Cond.classLink RL 15 "java/lang/IllegalStateException", Cond.methodLink RL 66 yX4_fit, Cond.instanceMethod yX4_fit, Cond.selects RX4 yX4_fit yX4_fit, Cond.initialized RX4, Cond.code yX4_fit cX4_fit 3 (some .int), Cond.classLink RX4 59 "java/lang/IllegalStateException", Cond.initialized "java/lang/IllegalStateException", Cond.fieldLink RX4 30 "LoomDraft" "drawing" "LLoomDraft$Drawing;", Cond.instanceMethod yX1_numberColumns, Cond.initialized RX1, Cond.selects RX1 yX1_numberColumns yX1_numberColumns, Cond.code yX1_numberColumns cX1_numberColumns 2 (some .int), Cond.fieldLink RX1 25 "LoomDraft$Drawing" "columns" "I", Cond.fieldLink RX1 15 "LoomDraft$Drawing" "columnCells" "[J", Cond.fieldLink RX1 18 "LoomDraft$Drawing" "shaftOf" "[I", Cond.methodLink RX1 29 yX1_cellsOfColumn, Cond.instanceMethod yX1_cellsOfColumn, Cond.selects RX1 yX1_cellsOfColumn yX1_cellsOfColumn, Cond.code yX1_cellsOfColumn cX1_cellsOfColumn 5 (some .long), Cond.fieldLink RX1 37 "LoomDraft$Drawing" "size" "I", Cond.fieldLink RX1 9 "LoomDraft$Drawing" "rows" "[J", Cond.static yX4_hasBit, Cond.code yX4_hasBit cX4_hasBit 3 (some .boolean)]
def wsL_fit_r2 : List Cond := [Cond.methodLink RX1 33 yX1_numberAlike, Cond.static yX1_numberAlike, Cond.code yX1_numberAlike cX1_numberAlike 6 (some .int), Cond.methodLink RX1 44 yX1_firstLike, Cond.static yX1_firstLike, Cond.code yX1_firstLike cX1_firstLike 3 (some .int), Cond.instanceMethod yX1_numberRows, Cond.selects RX1 yX1_numberRows yX1_numberRows, Cond.code yX1_numberRows cX1_numberRows 1 (some .int), Cond.fieldLink RX1 22 "LoomDraft$Drawing" "treadleOf" "[I", Cond.methodLink RX4 165 yX4_tieAsNumbered, Cond.instanceMethod yX4_tieAsNumbered, Cond.selects RX4 yX4_tieAsNumbered yX4_tieAsNumbered, Cond.code yX4_tieAsNumbered cX4_tieAsNumbered 4 none, Cond.fieldLink RX4 19 "LoomDraft" "ties" "[I", Cond.fieldLink RX4 23 "LoomDraft" "rising" "Z", Cond.methodLink RX4 203 yJ7_fill_53178, Cond.static yJ7_fill_53178, Cond.initialized RJ7, Cond.code yJ7_fill_53178 cJ7_fill_53178 4 none, Cond.methodLink RX4 109 yX4_hasBit, Cond.methodLink RX4 168 yX4_threadAsNumbered, Cond.instanceMethod yX4_threadAsNumbered, Cond.selects RX4 yX4_threadAsNumbered yX4_threadAsNumbered]
def wsL_fit_r3 : List Cond := [Cond.code yX4_threadAsNumbered cX4_threadAsNumbered 2 none, Cond.fieldLink RX4 10 "LoomDraft" "warp" "LLoomDraft$ThreadRow;", Cond.fieldLink RX4 16 "LoomDraft" "weft" "LLoomDraft$ThreadRow;", Cond.instanceMethod yX3_add, Cond.initialized RX3, Cond.selects RX3 yX3_add yX3_add, Cond.code yX3_add cX3_add 4 (some .int), Cond.fieldLink RX3 18 "LoomDraft$ThreadRow" "size" "I", Cond.fieldLink RX3 9 "LoomDraft$ThreadRow" "bindings" "[I", Cond.fieldLink RX3 15 "LoomDraft$ThreadRow" "colours" "[I"]
def wsL_fit : List Cond := .codeWith yL_fit cL_fit 3 (some .int) [(0, 8, 11, 15)] :: ((wsL_fit_r1 ++ (wsL_fit_r2 ++ wsL_fit_r3)) ++ wsX40 ++ wsX10 ++ wsX30 ++ (vx_at0 RX4 61 "java/lang/IllegalStateException" ["java/lang/RuntimeException", "java/lang/Exception"]).filter goodWord)
theorem dJ6_bitCount_0f7a4_0 : decode cJ6_bitCount_0f7a4 0 = .ok (.iload_n 0, 1) := by decide +kernel
theorem dJ6_bitCount_0f7a4_1 : decode cJ6_bitCount_0f7a4 1 = .ok (.iload_n 0, 1) := by decide +kernel
theorem dJ6_bitCount_0f7a4_2 : decode cJ6_bitCount_0f7a4 2 = .ok (.iconst 1, 1) := by decide +kernel
theorem dJ6_bitCount_0f7a4_3 : decode cJ6_bitCount_0f7a4 3 = .ok (.iushr, 1) := by decide +kernel
theorem dJ6_bitCount_0f7a4_4 : decode cJ6_bitCount_0f7a4 4 = .ok (.ldc_w 265, 3) := by decide +kernel
theorem dJ6_bitCount_0f7a4_7 : decode cJ6_bitCount_0f7a4 7 = .ok (.iand, 1) := by decide +kernel
theorem dJ6_bitCount_0f7a4_8 : decode cJ6_bitCount_0f7a4 8 = .ok (.isub, 1) := by decide +kernel
theorem dJ6_bitCount_0f7a4_9 : decode cJ6_bitCount_0f7a4 9 = .ok (.istore_n 0, 1) := by decide +kernel
theorem dJ6_bitCount_0f7a4_10 : decode cJ6_bitCount_0f7a4 10 = .ok (.iload_n 0, 1) := by decide +kernel
theorem dJ6_bitCount_0f7a4_11 : decode cJ6_bitCount_0f7a4 11 = .ok (.ldc_w 266, 3) := by decide +kernel
theorem dJ6_bitCount_0f7a4_14 : decode cJ6_bitCount_0f7a4 14 = .ok (.iand, 1) := by decide +kernel
theorem dJ6_bitCount_0f7a4_15 : decode cJ6_bitCount_0f7a4 15 = .ok (.iload_n 0, 1) := by decide +kernel
theorem dJ6_bitCount_0f7a4_16 : decode cJ6_bitCount_0f7a4 16 = .ok (.iconst 2, 1) := by decide +kernel
theorem dJ6_bitCount_0f7a4_17 : decode cJ6_bitCount_0f7a4 17 = .ok (.iushr, 1) := by decide +kernel
theorem dJ6_bitCount_0f7a4_18 : decode cJ6_bitCount_0f7a4 18 = .ok (.ldc_w 266, 3) := by decide +kernel
theorem dJ6_bitCount_0f7a4_21 : decode cJ6_bitCount_0f7a4 21 = .ok (.iand, 1) := by decide +kernel
theorem dJ6_bitCount_0f7a4_22 : decode cJ6_bitCount_0f7a4 22 = .ok (.iadd, 1) := by decide +kernel
theorem dJ6_bitCount_0f7a4_23 : decode cJ6_bitCount_0f7a4 23 = .ok (.istore_n 0, 1) := by decide +kernel
theorem dJ6_bitCount_0f7a4_24 : decode cJ6_bitCount_0f7a4 24 = .ok (.iload_n 0, 1) := by decide +kernel
theorem dJ6_bitCount_0f7a4_25 : decode cJ6_bitCount_0f7a4 25 = .ok (.iload_n 0, 1) := by decide +kernel
theorem dJ6_bitCount_0f7a4_26 : decode cJ6_bitCount_0f7a4 26 = .ok (.iconst 4, 1) := by decide +kernel
theorem dJ6_bitCount_0f7a4_27 : decode cJ6_bitCount_0f7a4 27 = .ok (.iushr, 1) := by decide +kernel
theorem dJ6_bitCount_0f7a4_28 : decode cJ6_bitCount_0f7a4 28 = .ok (.iadd, 1) := by decide +kernel
theorem dJ6_bitCount_0f7a4_29 : decode cJ6_bitCount_0f7a4 29 = .ok (.ldc_w 267, 3) := by decide +kernel
theorem dJ6_bitCount_0f7a4_32 : decode cJ6_bitCount_0f7a4 32 = .ok (.iand, 1) := by decide +kernel
theorem dJ6_bitCount_0f7a4_33 : decode cJ6_bitCount_0f7a4 33 = .ok (.istore_n 0, 1) := by decide +kernel
theorem dJ6_bitCount_0f7a4_34 : decode cJ6_bitCount_0f7a4 34 = .ok (.iload_n 0, 1) := by decide +kernel
theorem dJ6_bitCount_0f7a4_35 : decode cJ6_bitCount_0f7a4 35 = .ok (.iload_n 0, 1) := by decide +kernel
theorem dJ6_bitCount_0f7a4_36 : decode cJ6_bitCount_0f7a4 36 = .ok (.bipush 8, 2) := by decide +kernel
theorem dJ6_bitCount_0f7a4_38 : decode cJ6_bitCount_0f7a4 38 = .ok (.iushr, 1) := by decide +kernel
theorem dJ6_bitCount_0f7a4_39 : decode cJ6_bitCount_0f7a4 39 = .ok (.iadd, 1) := by decide +kernel
theorem dJ6_bitCount_0f7a4_40 : decode cJ6_bitCount_0f7a4 40 = .ok (.istore_n 0, 1) := by decide +kernel
theorem dJ6_bitCount_0f7a4_41 : decode cJ6_bitCount_0f7a4 41 = .ok (.iload_n 0, 1) := by decide +kernel
theorem dJ6_bitCount_0f7a4_42 : decode cJ6_bitCount_0f7a4 42 = .ok (.iload_n 0, 1) := by decide +kernel
theorem dJ6_bitCount_0f7a4_43 : decode cJ6_bitCount_0f7a4 43 = .ok (.bipush 16, 2) := by decide +kernel
theorem dJ6_bitCount_0f7a4_45 : decode cJ6_bitCount_0f7a4 45 = .ok (.iushr, 1) := by decide +kernel
theorem dJ6_bitCount_0f7a4_46 : decode cJ6_bitCount_0f7a4 46 = .ok (.iadd, 1) := by decide +kernel
theorem dJ6_bitCount_0f7a4_47 : decode cJ6_bitCount_0f7a4 47 = .ok (.istore_n 0, 1) := by decide +kernel
theorem dJ6_bitCount_0f7a4_48 : decode cJ6_bitCount_0f7a4 48 = .ok (.iload_n 0, 1) := by decide +kernel
theorem dJ6_bitCount_0f7a4_49 : decode cJ6_bitCount_0f7a4 49 = .ok (.bipush 63, 2) := by decide +kernel
theorem dJ6_bitCount_0f7a4_51 : decode cJ6_bitCount_0f7a4 51 = .ok (.iand, 1) := by decide +kernel
theorem dJ6_bitCount_0f7a4_52 : decode cJ6_bitCount_0f7a4 52 = .ok (.ireturn, 1) := by decide +kernel
theorem dJ13_bitCount_95d88_0 : decode cJ13_bitCount_95d88 0 = .ok (.lload_n 0, 1) := by decide +kernel
theorem dJ13_bitCount_95d88_1 : decode cJ13_bitCount_95d88 1 = .ok (.lload_n 0, 1) := by decide +kernel
theorem dJ13_bitCount_95d88_2 : decode cJ13_bitCount_95d88 2 = .ok (.iconst 1, 1) := by decide +kernel
theorem dJ13_bitCount_95d88_3 : decode cJ13_bitCount_95d88 3 = .ok (.lushr, 1) := by decide +kernel
theorem dJ13_bitCount_95d88_4 : decode cJ13_bitCount_95d88 4 = .ok (.ldc2_w 314, 3) := by decide +kernel
theorem dJ13_bitCount_95d88_7 : decode cJ13_bitCount_95d88 7 = .ok (.land, 1) := by decide +kernel
theorem dJ13_bitCount_95d88_8 : decode cJ13_bitCount_95d88 8 = .ok (.lsub, 1) := by decide +kernel
theorem dJ13_bitCount_95d88_9 : decode cJ13_bitCount_95d88 9 = .ok (.lstore_n 0, 1) := by decide +kernel
theorem dJ13_bitCount_95d88_10 : decode cJ13_bitCount_95d88 10 = .ok (.lload_n 0, 1) := by decide +kernel
theorem dJ13_bitCount_95d88_11 : decode cJ13_bitCount_95d88 11 = .ok (.ldc2_w 316, 3) := by decide +kernel
theorem dJ13_bitCount_95d88_14 : decode cJ13_bitCount_95d88 14 = .ok (.land, 1) := by decide +kernel
theorem dJ13_bitCount_95d88_15 : decode cJ13_bitCount_95d88 15 = .ok (.lload_n 0, 1) := by decide +kernel
theorem dJ13_bitCount_95d88_16 : decode cJ13_bitCount_95d88 16 = .ok (.iconst 2, 1) := by decide +kernel
theorem dJ13_bitCount_95d88_17 : decode cJ13_bitCount_95d88 17 = .ok (.lushr, 1) := by decide +kernel
theorem dJ13_bitCount_95d88_18 : decode cJ13_bitCount_95d88 18 = .ok (.ldc2_w 316, 3) := by decide +kernel
theorem dJ13_bitCount_95d88_21 : decode cJ13_bitCount_95d88 21 = .ok (.land, 1) := by decide +kernel
theorem dJ13_bitCount_95d88_22 : decode cJ13_bitCount_95d88 22 = .ok (.ladd, 1) := by decide +kernel
theorem dJ13_bitCount_95d88_23 : decode cJ13_bitCount_95d88 23 = .ok (.lstore_n 0, 1) := by decide +kernel
theorem dJ13_bitCount_95d88_24 : decode cJ13_bitCount_95d88 24 = .ok (.lload_n 0, 1) := by decide +kernel
theorem dJ13_bitCount_95d88_25 : decode cJ13_bitCount_95d88 25 = .ok (.lload_n 0, 1) := by decide +kernel
theorem dJ13_bitCount_95d88_26 : decode cJ13_bitCount_95d88 26 = .ok (.iconst 4, 1) := by decide +kernel
theorem dJ13_bitCount_95d88_27 : decode cJ13_bitCount_95d88 27 = .ok (.lushr, 1) := by decide +kernel
theorem dJ13_bitCount_95d88_28 : decode cJ13_bitCount_95d88 28 = .ok (.ladd, 1) := by decide +kernel
theorem dJ13_bitCount_95d88_29 : decode cJ13_bitCount_95d88 29 = .ok (.ldc2_w 318, 3) := by decide +kernel
theorem dJ13_bitCount_95d88_32 : decode cJ13_bitCount_95d88 32 = .ok (.land, 1) := by decide +kernel
theorem dJ13_bitCount_95d88_33 : decode cJ13_bitCount_95d88 33 = .ok (.lstore_n 0, 1) := by decide +kernel
theorem dJ13_bitCount_95d88_34 : decode cJ13_bitCount_95d88 34 = .ok (.lload_n 0, 1) := by decide +kernel
theorem dJ13_bitCount_95d88_35 : decode cJ13_bitCount_95d88 35 = .ok (.lload_n 0, 1) := by decide +kernel
theorem dJ13_bitCount_95d88_36 : decode cJ13_bitCount_95d88 36 = .ok (.bipush 8, 2) := by decide +kernel
theorem dJ13_bitCount_95d88_38 : decode cJ13_bitCount_95d88 38 = .ok (.lushr, 1) := by decide +kernel
theorem dJ13_bitCount_95d88_39 : decode cJ13_bitCount_95d88 39 = .ok (.ladd, 1) := by decide +kernel
theorem dJ13_bitCount_95d88_40 : decode cJ13_bitCount_95d88 40 = .ok (.lstore_n 0, 1) := by decide +kernel
theorem dJ13_bitCount_95d88_41 : decode cJ13_bitCount_95d88 41 = .ok (.lload_n 0, 1) := by decide +kernel
theorem dJ13_bitCount_95d88_42 : decode cJ13_bitCount_95d88 42 = .ok (.lload_n 0, 1) := by decide +kernel
theorem dJ13_bitCount_95d88_43 : decode cJ13_bitCount_95d88 43 = .ok (.bipush 16, 2) := by decide +kernel
theorem dJ13_bitCount_95d88_45 : decode cJ13_bitCount_95d88 45 = .ok (.lushr, 1) := by decide +kernel
theorem dJ13_bitCount_95d88_46 : decode cJ13_bitCount_95d88 46 = .ok (.ladd, 1) := by decide +kernel
theorem dJ13_bitCount_95d88_47 : decode cJ13_bitCount_95d88 47 = .ok (.lstore_n 0, 1) := by decide +kernel
theorem dJ13_bitCount_95d88_48 : decode cJ13_bitCount_95d88 48 = .ok (.lload_n 0, 1) := by decide +kernel
theorem dJ13_bitCount_95d88_49 : decode cJ13_bitCount_95d88 49 = .ok (.lload_n 0, 1) := by decide +kernel
theorem dJ13_bitCount_95d88_50 : decode cJ13_bitCount_95d88 50 = .ok (.bipush 32, 2) := by decide +kernel
theorem dJ13_bitCount_95d88_52 : decode cJ13_bitCount_95d88 52 = .ok (.lushr, 1) := by decide +kernel
theorem dJ13_bitCount_95d88_53 : decode cJ13_bitCount_95d88 53 = .ok (.ladd, 1) := by decide +kernel
theorem dJ13_bitCount_95d88_54 : decode cJ13_bitCount_95d88 54 = .ok (.lstore_n 0, 1) := by decide +kernel
theorem dJ13_bitCount_95d88_55 : decode cJ13_bitCount_95d88 55 = .ok (.lload_n 0, 1) := by decide +kernel
theorem dJ13_bitCount_95d88_56 : decode cJ13_bitCount_95d88 56 = .ok (.l2i, 1) := by decide +kernel
theorem dJ13_bitCount_95d88_57 : decode cJ13_bitCount_95d88 57 = .ok (.bipush 127, 2) := by decide +kernel
theorem dJ13_bitCount_95d88_59 : decode cJ13_bitCount_95d88 59 = .ok (.iand, 1) := by decide +kernel
theorem dJ13_bitCount_95d88_60 : decode cJ13_bitCount_95d88 60 = .ok (.ireturn, 1) := by decide +kernel
theorem dJ9_max_7cf53_0 : decode cJ9_max_7cf53 0 = .ok (.iload_n 0, 1) := by decide +kernel
theorem dJ9_max_7cf53_1 : decode cJ9_max_7cf53 1 = .ok (.iload_n 1, 1) := by decide +kernel
theorem dJ9_max_7cf53_2 : decode cJ9_max_7cf53 2 = .ok (.if_icmp .lt 7, 3) := by decide +kernel
theorem dJ9_max_7cf53_5 : decode cJ9_max_7cf53 5 = .ok (.iload_n 0, 1) := by decide +kernel
theorem dJ9_max_7cf53_6 : decode cJ9_max_7cf53 6 = .ok (.goto 4, 3) := by decide +kernel
theorem dJ9_max_7cf53_9 : decode cJ9_max_7cf53 9 = .ok (.iload_n 1, 1) := by decide +kernel
theorem dJ9_max_7cf53_10 : decode cJ9_max_7cf53 10 = .ok (.ireturn, 1) := by decide +kernel
theorem dJ7_fill_53178_0 : decode cJ7_fill_53178 0 = .ok (.iconst 0, 1) := by decide +kernel
theorem dJ7_fill_53178_1 : decode cJ7_fill_53178 1 = .ok (.istore_n 2, 1) := by decide +kernel
theorem dJ7_fill_53178_2 : decode cJ7_fill_53178 2 = .ok (.aload_n 0, 1) := by decide +kernel
theorem dJ7_fill_53178_3 : decode cJ7_fill_53178 3 = .ok (.arraylength, 1) := by decide +kernel
theorem dJ7_fill_53178_4 : decode cJ7_fill_53178 4 = .ok (.istore_n 3, 1) := by decide +kernel
theorem dJ7_fill_53178_5 : decode cJ7_fill_53178 5 = .ok (.iload_n 2, 1) := by decide +kernel
theorem dJ7_fill_53178_6 : decode cJ7_fill_53178 6 = .ok (.iload_n 3, 1) := by decide +kernel
theorem dJ7_fill_53178_7 : decode cJ7_fill_53178 7 = .ok (.if_icmp .ge 13, 3) := by decide +kernel
theorem dJ7_fill_53178_10 : decode cJ7_fill_53178 10 = .ok (.aload_n 0, 1) := by decide +kernel
theorem dJ7_fill_53178_11 : decode cJ7_fill_53178 11 = .ok (.iload_n 2, 1) := by decide +kernel
theorem dJ7_fill_53178_12 : decode cJ7_fill_53178 12 = .ok (.iload_n 1, 1) := by decide +kernel
theorem dJ7_fill_53178_13 : decode cJ7_fill_53178 13 = .ok (.iastore, 1) := by decide +kernel
theorem dJ7_fill_53178_14 : decode cJ7_fill_53178 14 = .ok (.iinc 2 1, 3) := by decide +kernel
theorem dJ7_fill_53178_17 : decode cJ7_fill_53178 17 = .ok (.goto (-12), 3) := by decide +kernel
theorem dJ7_fill_53178_20 : decode cJ7_fill_53178 20 = .ok (.return_, 1) := by decide +kernel
set_option maxRecDepth 20000 in
theorem dX0_init_0 : decode cX0_init 0 = .ok (.aload_n 0, 1) := by decide +kernel
theorem dX0_init_1 : decode cX0_init 1 = .ok (.invokespecial 3, 3) := by decide +kernel
theorem dX0_init_4 : decode cX0_init 4 = .ok (.aload_n 0, 1) := by decide +kernel
theorem dX0_init_5 : decode cX0_init 5 = .ok (.bipush 40, 2) := by decide +kernel
theorem dX0_init_7 : decode cX0_init 7 = .ok (.newarray .long, 2) := by decide +kernel
theorem dX0_init_9 : decode cX0_init 9 = .ok (.putfield 9, 3) := by decide +kernel
theorem dX0_init_12 : decode cX0_init 12 = .ok (.aload_n 0, 1) := by decide +kernel
theorem dX0_init_13 : decode cX0_init 13 = .ok (.bipush 41, 2) := by decide +kernel
theorem dX0_init_15 : decode cX0_init 15 = .ok (.newarray .int, 2) := by decide +kernel
theorem dX0_init_17 : decode cX0_init 17 = .ok (.putfield 15, 3) := by decide +kernel
theorem dX0_init_20 : decode cX0_init 20 = .ok (.return_, 1) := by decide +kernel
set_option maxRecDepth 20000 in
theorem ggX0_countFloats_J7_fill_53178 : GoodIn wsX0_countFloats wsJ7_fill_53178 := goodIn_r _ [7] (by decide +kernel) (by decide +kernel)
set_option maxRecDepth 20000 in
theorem gX0_countFloats_J7_fill_53178 : GoodIn wsX0_countFloats (va_wsS RX0 19 yJ7_fill_53178 wsJ7_fill_53178) := goodIn_app (goodIn_of _ (by decide +kernel)) ggX0_countFloats_J7_fill_53178
set_option maxRecDepth 20000 in
theorem ggX0_countFloats_X0_isUp : GoodIn wsX0_countFloats wsX0_isUp := goodIn_r _ [12, 13, 14, 15, 16, 17, 18, 19, 20] (by decide +kernel) (by decide +kernel)
set_option maxRecDepth 20000 in
theorem gX0_countFloats_X0_isUp : GoodIn wsX0_countFloats (wsV RX0 32 RX0 yX0_isUp wsX0_isUp) := goodIn_app (goodIn_of _ (by decide +kernel)) ggX0_countFloats_X0_isUp
theorem dX0_countFloats_0 : decode cX0_countFloats 0 = .ok (.aload_n 0, 1) := by decide +kernel
theorem dX0_countFloats_1 : decode cX0_countFloats 1 = .ok (.getfield 15, 3) := by decide +kernel
theorem dX0_countFloats_4 : decode cX0_countFloats 4 = .ok (.iconst 0, 1) := by decide +kernel
theorem dX0_countFloats_5 : decode cX0_countFloats 5 = .ok (.invokestatic 19, 3) := by decide +kernel
theorem dX0_countFloats_8 : decode cX0_countFloats 8 = .ok (.iload_n 1, 1) := by decide +kernel
theorem dX0_countFloats_9 : decode cX0_countFloats 9 = .ok (.iload_n 2, 1) := by decide +kernel
theorem dX0_countFloats_10 : decode cX0_countFloats 10 = .ok (.if_icmp .ne 7, 3) := by decide +kernel
theorem dX0_countFloats_13 : decode cX0_countFloats 13 = .ok (.iconst 1, 1) := by decide +kernel
theorem dX0_countFloats_14 : decode cX0_countFloats 14 = .ok (.goto 4, 3) := by decide +kernel
theorem dX0_countFloats_17 : decode cX0_countFloats 17 = .ok (.iconst 0, 1) := by decide +kernel
theorem dX0_countFloats_18 : decode cX0_countFloats 18 = .ok (.istore_n 3, 1) := by decide +kernel
theorem dX0_countFloats_19 : decode cX0_countFloats 19 = .ok (.iload_n 1, 1) := by decide +kernel
theorem dX0_countFloats_20 : decode cX0_countFloats 20 = .ok (.ifCond .eq 10, 3) := by decide +kernel
theorem dX0_countFloats_23 : decode cX0_countFloats 23 = .ok (.aload_n 0, 1) := by decide +kernel
theorem dX0_countFloats_24 : decode cX0_countFloats 24 = .ok (.getfield 25, 3) := by decide +kernel
theorem dX0_countFloats_27 : decode cX0_countFloats 27 = .ok (.goto 7, 3) := by decide +kernel
theorem dX0_countFloats_30 : decode cX0_countFloats 30 = .ok (.aload_n 0, 1) := by decide +kernel
theorem dX0_countFloats_31 : decode cX0_countFloats 31 = .ok (.getfield 29, 3) := by decide +kernel
theorem dX0_countFloats_34 : decode cX0_countFloats 34 = .ok (.istore 4, 2) := by decide +kernel
theorem dX0_countFloats_36 : decode cX0_countFloats 36 = .ok (.iload_n 1, 1) := by decide +kernel
theorem dX0_countFloats_37 : decode cX0_countFloats 37 = .ok (.ifCond .eq 10, 3) := by decide +kernel
theorem dX0_countFloats_40 : decode cX0_countFloats 40 = .ok (.aload_n 0, 1) := by decide +kernel
theorem dX0_countFloats_41 : decode cX0_countFloats 41 = .ok (.getfield 29, 3) := by decide +kernel
theorem dX0_countFloats_44 : decode cX0_countFloats 44 = .ok (.goto 7, 3) := by decide +kernel
theorem dX0_countFloats_47 : decode cX0_countFloats 47 = .ok (.aload_n 0, 1) := by decide +kernel
theorem dX0_countFloats_48 : decode cX0_countFloats 48 = .ok (.getfield 25, 3) := by decide +kernel
theorem dX0_countFloats_51 : decode cX0_countFloats 51 = .ok (.istore 5, 2) := by decide +kernel
theorem dX0_countFloats_53 : decode cX0_countFloats 53 = .ok (.iconst 0, 1) := by decide +kernel
theorem dX0_countFloats_54 : decode cX0_countFloats 54 = .ok (.istore 6, 2) := by decide +kernel
theorem dX0_countFloats_56 : decode cX0_countFloats 56 = .ok (.iload 6, 2) := by decide +kernel
theorem dX0_countFloats_58 : decode cX0_countFloats 58 = .ok (.iload 4, 2) := by decide +kernel
theorem dX0_countFloats_60 : decode cX0_countFloats 60 = .ok (.if_icmp .ge 85, 3) := by decide +kernel
theorem dX0_countFloats_63 : decode cX0_countFloats 63 = .ok (.iconst 0, 1) := by decide +kernel
theorem dX0_countFloats_64 : decode cX0_countFloats 64 = .ok (.istore 7, 2) := by decide +kernel
theorem dX0_countFloats_66 : decode cX0_countFloats 66 = .ok (.iconst 0, 1) := by decide +kernel
theorem dX0_countFloats_67 : decode cX0_countFloats 67 = .ok (.istore 8, 2) := by decide +kernel
theorem dX0_countFloats_69 : decode cX0_countFloats 69 = .ok (.iload 8, 2) := by decide +kernel
theorem dX0_countFloats_71 : decode cX0_countFloats 71 = .ok (.iload 5, 2) := by decide +kernel
theorem dX0_countFloats_73 : decode cX0_countFloats 73 = .ok (.if_icmp .ge 66, 3) := by decide +kernel
theorem dX0_countFloats_76 : decode cX0_countFloats 76 = .ok (.iload_n 1, 1) := by decide +kernel
theorem dX0_countFloats_77 : decode cX0_countFloats 77 = .ok (.ifCond .eq 14, 3) := by decide +kernel
theorem dX0_countFloats_80 : decode cX0_countFloats 80 = .ok (.aload_n 0, 1) := by decide +kernel
theorem dX0_countFloats_81 : decode cX0_countFloats 81 = .ok (.iload 8, 2) := by decide +kernel
theorem dX0_countFloats_83 : decode cX0_countFloats 83 = .ok (.iload 6, 2) := by decide +kernel
theorem dX0_countFloats_85 : decode cX0_countFloats 85 = .ok (.invokevirtual 32, 3) := by decide +kernel
theorem dX0_countFloats_88 : decode cX0_countFloats 88 = .ok (.goto 11, 3) := by decide +kernel
theorem dX0_countFloats_91 : decode cX0_countFloats 91 = .ok (.aload_n 0, 1) := by decide +kernel
theorem dX0_countFloats_92 : decode cX0_countFloats 92 = .ok (.iload 6, 2) := by decide +kernel
theorem dX0_countFloats_94 : decode cX0_countFloats 94 = .ok (.iload 8, 2) := by decide +kernel
theorem dX0_countFloats_96 : decode cX0_countFloats 96 = .ok (.invokevirtual 32, 3) := by decide +kernel
theorem dX0_countFloats_99 : decode cX0_countFloats 99 = .ok (.istore 9, 2) := by decide +kernel
theorem dX0_countFloats_101 : decode cX0_countFloats 101 = .ok (.iload 9, 2) := by decide +kernel
theorem dX0_countFloats_103 : decode cX0_countFloats 103 = .ok (.iload_n 3, 1) := by decide +kernel
theorem dX0_countFloats_104 : decode cX0_countFloats 104 = .ok (.if_icmp .ne 10, 3) := by decide +kernel
theorem dX0_countFloats_107 : decode cX0_countFloats 107 = .ok (.iload 7, 2) := by decide +kernel
theorem dX0_countFloats_109 : decode cX0_countFloats 109 = .ok (.iconst 1, 1) := by decide +kernel
theorem dX0_countFloats_110 : decode cX0_countFloats 110 = .ok (.iadd, 1) := by decide +kernel
theorem dX0_countFloats_111 : decode cX0_countFloats 111 = .ok (.goto 4, 3) := by decide +kernel
theorem dX0_countFloats_114 : decode cX0_countFloats 114 = .ok (.iconst 0, 1) := by decide +kernel
theorem dX0_countFloats_115 : decode cX0_countFloats 115 = .ok (.istore 7, 2) := by decide +kernel
theorem dX0_countFloats_117 : decode cX0_countFloats 117 = .ok (.iload 7, 2) := by decide +kernel
theorem dX0_countFloats_119 : decode cX0_countFloats 119 = .ok (.ifCond .le 14, 3) := by decide +kernel
theorem dX0_countFloats_122 : decode cX0_countFloats 122 = .ok (.aload_n 0, 1) := by decide +kernel
theorem dX0_countFloats_123 : decode cX0_countFloats 123 = .ok (.getfield 15, 3) := by decide +kernel
theorem dX0_countFloats_126 : decode cX0_countFloats 126 = .ok (.iload 7, 2) := by decide +kernel
theorem dX0_countFloats_128 : decode cX0_countFloats 128 = .ok (.dup2, 1) := by decide +kernel
theorem dX0_countFloats_129 : decode cX0_countFloats 129 = .ok (.iaload, 1) := by decide +kernel
theorem dX0_countFloats_130 : decode cX0_countFloats 130 = .ok (.iconst 1, 1) := by decide +kernel
theorem dX0_countFloats_131 : decode cX0_countFloats 131 = .ok (.iadd, 1) := by decide +kernel
theorem dX0_countFloats_132 : decode cX0_countFloats 132 = .ok (.iastore, 1) := by decide +kernel
theorem dX0_countFloats_133 : decode cX0_countFloats 133 = .ok (.iinc 8 1, 3) := by decide +kernel
theorem dX0_countFloats_136 : decode cX0_countFloats 136 = .ok (.goto (-67), 3) := by decide +kernel
theorem dX0_countFloats_139 : decode cX0_countFloats 139 = .ok (.iinc 6 1, 3) := by decide +kernel
theorem dX0_countFloats_142 : decode cX0_countFloats 142 = .ok (.goto (-86), 3) := by decide +kernel
theorem dX0_countFloats_145 : decode cX0_countFloats 145 = .ok (.return_, 1) := by decide +kernel
set_option maxRecDepth 20000 in
theorem ggX0_isUp_X4_hasBit : GoodIn wsX0_isUp wsX4_hasBit := goodIn_r _ [4] (by decide +kernel) (by decide +kernel)
set_option maxRecDepth 20000 in
theorem gX0_isUp_X4_hasBit_n36 : GoodIn wsX0_isUp (wsX4_hasBit) := ggX0_isUp_X4_hasBit
theorem dX0_isUp_0 : decode cX0_isUp 0 = .ok (.aload_n 0, 1) := by decide +kernel
theorem dX0_isUp_1 : decode cX0_isUp 1 = .ok (.getfield 9, 3) := by decide +kernel
theorem dX0_isUp_4 : decode cX0_isUp 4 = .ok (.iload_n 1, 1) := by decide +kernel
theorem dX0_isUp_5 : decode cX0_isUp 5 = .ok (.laload, 1) := by decide +kernel
theorem dX0_isUp_6 : decode cX0_isUp 6 = .ok (.iload_n 2, 1) := by decide +kernel
theorem dX0_isUp_7 : decode cX0_isUp 7 = .ok (.invokestatic 36, 3) := by decide +kernel
theorem dX0_isUp_10 : decode cX0_isUp 10 = .ok (.ireturn, 1) := by decide +kernel
set_option maxRecDepth 20000 in
theorem ggX0_placesWithEndUp_J13_bitCount_95d88 : GoodIn wsX0_placesWithEndUp wsJ13_bitCount_95d88 := goodIn_r _ [6, 7, 8, 9] (by decide +kernel) (by decide +kernel)
set_option maxRecDepth 20000 in
theorem gX0_placesWithEndUp_J13_bitCount_95d88 : GoodIn wsX0_placesWithEndUp (va_wsS RX0 40 yJ13_bitCount_95d88 wsJ13_bitCount_95d88) := goodIn_app (goodIn_of _ (by decide +kernel)) ggX0_placesWithEndUp_J13_bitCount_95d88
theorem dX0_placesWithEndUp_0 : decode cX0_placesWithEndUp 0 = .ok (.iconst 0, 1) := by decide +kernel
theorem dX0_placesWithEndUp_1 : decode cX0_placesWithEndUp 1 = .ok (.istore_n 1, 1) := by decide +kernel
theorem dX0_placesWithEndUp_2 : decode cX0_placesWithEndUp 2 = .ok (.iconst 0, 1) := by decide +kernel
theorem dX0_placesWithEndUp_3 : decode cX0_placesWithEndUp 3 = .ok (.istore_n 2, 1) := by decide +kernel
theorem dX0_placesWithEndUp_4 : decode cX0_placesWithEndUp 4 = .ok (.iload_n 2, 1) := by decide +kernel
theorem dX0_placesWithEndUp_5 : decode cX0_placesWithEndUp 5 = .ok (.aload_n 0, 1) := by decide +kernel
theorem dX0_placesWithEndUp_6 : decode cX0_placesWithEndUp 6 = .ok (.getfield 29, 3) := by decide +kernel
theorem dX0_placesWithEndUp_9 : decode cX0_placesWithEndUp 9 = .ok (.if_icmp .ge 21, 3) := by decide +kernel
theorem dX0_placesWithEndUp_12 : decode cX0_placesWithEndUp 12 = .ok (.iload_n 1, 1) := by decide +kernel
theorem dX0_placesWithEndUp_13 : decode cX0_placesWithEndUp 13 = .ok (.aload_n 0, 1) := by decide +kernel
theorem dX0_placesWithEndUp_14 : decode cX0_placesWithEndUp 14 = .ok (.getfield 9, 3) := by decide +kernel
theorem dX0_placesWithEndUp_17 : decode cX0_placesWithEndUp 17 = .ok (.iload_n 2, 1) := by decide +kernel
theorem dX0_placesWithEndUp_18 : decode cX0_placesWithEndUp 18 = .ok (.laload, 1) := by decide +kernel
theorem dX0_placesWithEndUp_19 : decode cX0_placesWithEndUp 19 = .ok (.invokestatic 40, 3) := by decide +kernel
theorem dX0_placesWithEndUp_22 : decode cX0_placesWithEndUp 22 = .ok (.iadd, 1) := by decide +kernel
theorem dX0_placesWithEndUp_23 : decode cX0_placesWithEndUp 23 = .ok (.istore_n 1, 1) := by decide +kernel
theorem dX0_placesWithEndUp_24 : decode cX0_placesWithEndUp 24 = .ok (.iinc 2 1, 3) := by decide +kernel
theorem dX0_placesWithEndUp_27 : decode cX0_placesWithEndUp 27 = .ok (.goto (-23), 3) := by decide +kernel
theorem dX0_placesWithEndUp_30 : decode cX0_placesWithEndUp 30 = .ok (.iload_n 1, 1) := by decide +kernel
theorem dX0_placesWithEndUp_31 : decode cX0_placesWithEndUp 31 = .ok (.ireturn, 1) := by decide +kernel
set_option maxRecDepth 20000 in
theorem ggX0_picksUnder_X0_isUp : GoodIn wsX0_picksUnder wsX0_isUp := goodIn_r _ [6, 7, 8, 9, 10, 11, 12, 13, 14] (by decide +kernel) (by decide +kernel)
set_option maxRecDepth 20000 in
theorem gX0_picksUnder_X0_isUp : GoodIn wsX0_picksUnder (wsV RX0 32 RX0 yX0_isUp wsX0_isUp) := goodIn_app (goodIn_of _ (by decide +kernel)) ggX0_picksUnder_X0_isUp
theorem dX0_picksUnder_0 : decode cX0_picksUnder 0 = .ok (.lconst 0, 1) := by decide +kernel
theorem dX0_picksUnder_1 : decode cX0_picksUnder 1 = .ok (.lstore_n 2, 1) := by decide +kernel
theorem dX0_picksUnder_2 : decode cX0_picksUnder 2 = .ok (.iconst 0, 1) := by decide +kernel
theorem dX0_picksUnder_3 : decode cX0_picksUnder 3 = .ok (.istore 4, 2) := by decide +kernel
theorem dX0_picksUnder_5 : decode cX0_picksUnder 5 = .ok (.iload 4, 2) := by decide +kernel
theorem dX0_picksUnder_7 : decode cX0_picksUnder 7 = .ok (.aload_n 0, 1) := by decide +kernel
theorem dX0_picksUnder_8 : decode cX0_picksUnder 8 = .ok (.getfield 29, 3) := by decide +kernel
theorem dX0_picksUnder_11 : decode cX0_picksUnder 11 = .ok (.if_icmp .ge 26, 3) := by decide +kernel
theorem dX0_picksUnder_14 : decode cX0_picksUnder 14 = .ok (.aload_n 0, 1) := by decide +kernel
theorem dX0_picksUnder_15 : decode cX0_picksUnder 15 = .ok (.iload 4, 2) := by decide +kernel
theorem dX0_picksUnder_17 : decode cX0_picksUnder 17 = .ok (.iload_n 1, 1) := by decide +kernel
theorem dX0_picksUnder_18 : decode cX0_picksUnder 18 = .ok (.invokevirtual 32, 3) := by decide +kernel
theorem dX0_picksUnder_21 : decode cX0_picksUnder 21 = .ok (.ifCond .eq 10, 3) := by decide +kernel
theorem dX0_picksUnder_24 : decode cX0_picksUnder 24 = .ok (.lload_n 2, 1) := by decide +kernel
theorem dX0_picksUnder_25 : decode cX0_picksUnder 25 = .ok (.lconst 1, 1) := by decide +kernel
theorem dX0_picksUnder_26 : decode cX0_picksUnder 26 = .ok (.iload 4, 2) := by decide +kernel
theorem dX0_picksUnder_28 : decode cX0_picksUnder 28 = .ok (.lshl, 1) := by decide +kernel
theorem dX0_picksUnder_29 : decode cX0_picksUnder 29 = .ok (.lor, 1) := by decide +kernel
theorem dX0_picksUnder_30 : decode cX0_picksUnder 30 = .ok (.lstore_n 2, 1) := by decide +kernel
theorem dX0_picksUnder_31 : decode cX0_picksUnder 31 = .ok (.iinc 4 1, 3) := by decide +kernel
theorem dX0_picksUnder_34 : decode cX0_picksUnder 34 = .ok (.goto (-29), 3) := by decide +kernel
theorem dX0_picksUnder_37 : decode cX0_picksUnder 37 = .ok (.lload_n 2, 1) := by decide +kernel
theorem dX0_picksUnder_38 : decode cX0_picksUnder 38 = .ok (.lreturn, 1) := by decide +kernel
set_option maxRecDepth 20000 in
theorem ggX0_endsUnder_X4_allOf : GoodIn wsX0_endsUnder wsX4_allOf := goodIn_r _ [6] (by decide +kernel) (by decide +kernel)
set_option maxRecDepth 20000 in
theorem gX0_endsUnder_X4_allOf_n46 : GoodIn wsX0_endsUnder (wsX4_allOf) := ggX0_endsUnder_X4_allOf
theorem dX0_endsUnder_0 : decode cX0_endsUnder 0 = .ok (.aload_n 0, 1) := by decide +kernel
theorem dX0_endsUnder_1 : decode cX0_endsUnder 1 = .ok (.getfield 25, 3) := by decide +kernel
theorem dX0_endsUnder_4 : decode cX0_endsUnder 4 = .ok (.invokestatic 46, 3) := by decide +kernel
theorem dX0_endsUnder_7 : decode cX0_endsUnder 7 = .ok (.aload_n 0, 1) := by decide +kernel
theorem dX0_endsUnder_8 : decode cX0_endsUnder 8 = .ok (.getfield 9, 3) := by decide +kernel
theorem dX0_endsUnder_11 : decode cX0_endsUnder 11 = .ok (.iload_n 1, 1) := by decide +kernel
theorem dX0_endsUnder_12 : decode cX0_endsUnder 12 = .ok (.laload, 1) := by decide +kernel
theorem dX0_endsUnder_13 : decode cX0_endsUnder 13 = .ok (.ldc2_w 50, 3) := by decide +kernel
theorem dX0_endsUnder_16 : decode cX0_endsUnder 16 = .ok (.lxor, 1) := by decide +kernel
theorem dX0_endsUnder_17 : decode cX0_endsUnder 17 = .ok (.land, 1) := by decide +kernel
theorem dX0_endsUnder_18 : decode cX0_endsUnder 18 = .ok (.lreturn, 1) := by decide +kernel
theorem dX1_init_0 : decode cX1_init 0 = .ok (.aload_n 0, 1) := by decide +kernel
theorem dX1_init_1 : decode cX1_init 1 = .ok (.invokespecial 3, 3) := by decide +kernel
theorem dX1_init_4 : decode cX1_init 4 = .ok (.aload_n 0, 1) := by decide +kernel
theorem dX1_init_5 : decode cX1_init 5 = .ok (.bipush 40, 2) := by decide +kernel
theorem dX1_init_7 : decode cX1_init 7 = .ok (.newarray .long, 2) := by decide +kernel
theorem dX1_init_9 : decode cX1_init 9 = .ok (.putfield 9, 3) := by decide +kernel
theorem dX1_init_12 : decode cX1_init 12 = .ok (.aload_n 0, 1) := by decide +kernel
theorem dX1_init_13 : decode cX1_init 13 = .ok (.bipush 40, 2) := by decide +kernel
theorem dX1_init_15 : decode cX1_init 15 = .ok (.newarray .long, 2) := by decide +kernel
theorem dX1_init_17 : decode cX1_init 17 = .ok (.putfield 15, 3) := by decide +kernel
theorem dX1_init_20 : decode cX1_init 20 = .ok (.aload_n 0, 1) := by decide +kernel
theorem dX1_init_21 : decode cX1_init 21 = .ok (.bipush 40, 2) := by decide +kernel
theorem dX1_init_23 : decode cX1_init 23 = .ok (.newarray .int, 2) := by decide +kernel
theorem dX1_init_25 : decode cX1_init 25 = .ok (.putfield 18, 3) := by decide +kernel
theorem dX1_init_28 : decode cX1_init 28 = .ok (.aload_n 0, 1) := by decide +kernel
theorem dX1_init_29 : decode cX1_init 29 = .ok (.bipush 40, 2) := by decide +kernel
theorem dX1_init_31 : decode cX1_init 31 = .ok (.newarray .int, 2) := by decide +kernel
theorem dX1_init_33 : decode cX1_init 33 = .ok (.putfield 22, 3) := by decide +kernel
theorem dX1_init_36 : decode cX1_init 36 = .ok (.return_, 1) := by decide +kernel
set_option maxRecDepth 20000 in
theorem ggX1_numberColumns_X1_cellsOfColumn : GoodIn wsX1_numberColumns wsX1_cellsOfColumn := goodIn_r _ [8, 9, 10, 11, 12, 13, 20, 21, 22, 23, 24, 25] (by decide +kernel) (by decide +kernel)
set_option maxRecDepth 20000 in
theorem gX1_numberColumns_X1_cellsOfColumn : GoodIn wsX1_numberColumns (wsV RX1 29 RX1 yX1_cellsOfColumn wsX1_cellsOfColumn) := goodIn_app (goodIn_of _ (by decide +kernel)) ggX1_numberColumns_X1_cellsOfColumn
set_option maxRecDepth 20000 in
theorem ggX1_numberColumns_X1_numberAlike : GoodIn wsX1_numberColumns wsX1_numberAlike := goodIn_r _ [16, 17, 18, 7, 19] (by decide +kernel) (by decide +kernel)
set_option maxRecDepth 20000 in
theorem gX1_numberColumns_X1_numberAlike : GoodIn wsX1_numberColumns (va_wsS RX1 33 yX1_numberAlike wsX1_numberAlike) := goodIn_app (goodIn_of _ (by decide +kernel)) ggX1_numberColumns_X1_numberAlike
theorem dX1_numberColumns_0 : decode cX1_numberColumns 0 = .ok (.iconst 0, 1) := by decide +kernel
theorem dX1_numberColumns_1 : decode cX1_numberColumns 1 = .ok (.istore_n 1, 1) := by decide +kernel
theorem dX1_numberColumns_2 : decode cX1_numberColumns 2 = .ok (.iload_n 1, 1) := by decide +kernel
theorem dX1_numberColumns_3 : decode cX1_numberColumns 3 = .ok (.aload_n 0, 1) := by decide +kernel
theorem dX1_numberColumns_4 : decode cX1_numberColumns 4 = .ok (.getfield 25, 3) := by decide +kernel
theorem dX1_numberColumns_7 : decode cX1_numberColumns 7 = .ok (.if_icmp .ge 20, 3) := by decide +kernel
theorem dX1_numberColumns_10 : decode cX1_numberColumns 10 = .ok (.aload_n 0, 1) := by decide +kernel
theorem dX1_numberColumns_11 : decode cX1_numberColumns 11 = .ok (.getfield 15, 3) := by decide +kernel
theorem dX1_numberColumns_14 : decode cX1_numberColumns 14 = .ok (.iload_n 1, 1) := by decide +kernel
theorem dX1_numberColumns_15 : decode cX1_numberColumns 15 = .ok (.aload_n 0, 1) := by decide +kernel
theorem dX1_numberColumns_16 : decode cX1_numberColumns 16 = .ok (.iload_n 1, 1) := by decide +kernel
theorem dX1_numberColumns_17 : decode cX1_numberColumns 17 = .ok (.invokevirtual 29, 3) := by decide +kernel
theorem dX1_numberColumns_20 : decode cX1_numberColumns 20 = .ok (.lastore, 1) := by decide +kernel
theorem dX1_numberColumns_21 : decode cX1_numberColumns 21 = .ok (.iinc 1 1, 3) := by decide +kernel
theorem dX1_numberColumns_24 : decode cX1_numberColumns 24 = .ok (.goto (-22), 3) := by decide +kernel
theorem dX1_numberColumns_27 : decode cX1_numberColumns 27 = .ok (.aload_n 0, 1) := by decide +kernel
theorem dX1_numberColumns_28 : decode cX1_numberColumns 28 = .ok (.getfield 15, 3) := by decide +kernel
theorem dX1_numberColumns_31 : decode cX1_numberColumns 31 = .ok (.aload_n 0, 1) := by decide +kernel
theorem dX1_numberColumns_32 : decode cX1_numberColumns 32 = .ok (.getfield 25, 3) := by decide +kernel
theorem dX1_numberColumns_35 : decode cX1_numberColumns 35 = .ok (.aload_n 0, 1) := by decide +kernel
theorem dX1_numberColumns_36 : decode cX1_numberColumns 36 = .ok (.getfield 18, 3) := by decide +kernel
theorem dX1_numberColumns_39 : decode cX1_numberColumns 39 = .ok (.invokestatic 33, 3) := by decide +kernel
theorem dX1_numberColumns_42 : decode cX1_numberColumns 42 = .ok (.ireturn, 1) := by decide +kernel
set_option maxRecDepth 20000 in
theorem ggX1_numberRows_X1_numberAlike : GoodIn wsX1_numberRows wsX1_numberAlike := goodIn_r _ [7, 8, 9, 6, 10] (by decide +kernel) (by decide +kernel)
set_option maxRecDepth 20000 in
theorem gX1_numberRows_X1_numberAlike : GoodIn wsX1_numberRows (va_wsS RX1 33 yX1_numberAlike wsX1_numberAlike) := goodIn_app (goodIn_of _ (by decide +kernel)) ggX1_numberRows_X1_numberAlike
theorem dX1_numberRows_0 : decode cX1_numberRows 0 = .ok (.aload_n 0, 1) := by decide +kernel
theorem dX1_numberRows_1 : decode cX1_numberRows 1 = .ok (.getfield 9, 3) := by decide +kernel
theorem dX1_numberRows_4 : decode cX1_numberRows 4 = .ok (.aload_n 0, 1) := by decide +kernel
theorem dX1_numberRows_5 : decode cX1_numberRows 5 = .ok (.getfield 37, 3) := by decide +kernel
theorem dX1_numberRows_8 : decode cX1_numberRows 8 = .ok (.aload_n 0, 1) := by decide +kernel
theorem dX1_numberRows_9 : decode cX1_numberRows 9 = .ok (.getfield 22, 3) := by decide +kernel
theorem dX1_numberRows_12 : decode cX1_numberRows 12 = .ok (.invokestatic 33, 3) := by decide +kernel
theorem dX1_numberRows_15 : decode cX1_numberRows 15 = .ok (.ireturn, 1) := by decide +kernel
set_option maxRecDepth 20000 in
theorem ggX1_cellsOfColumn_X4_hasBit : GoodIn wsX1_cellsOfColumn wsX4_hasBit := goodIn_r _ [5] (by decide +kernel) (by decide +kernel)
set_option maxRecDepth 20000 in
theorem gX1_cellsOfColumn_X4_hasBit_n40 : GoodIn wsX1_cellsOfColumn (wsX4_hasBit) := ggX1_cellsOfColumn_X4_hasBit
theorem dX1_cellsOfColumn_0 : decode cX1_cellsOfColumn 0 = .ok (.lconst 0, 1) := by decide +kernel
theorem dX1_cellsOfColumn_1 : decode cX1_cellsOfColumn 1 = .ok (.lstore_n 2, 1) := by decide +kernel
theorem dX1_cellsOfColumn_2 : decode cX1_cellsOfColumn 2 = .ok (.iconst 0, 1) := by decide +kernel
theorem dX1_cellsOfColumn_3 : decode cX1_cellsOfColumn 3 = .ok (.istore 4, 2) := by decide +kernel
theorem dX1_cellsOfColumn_5 : decode cX1_cellsOfColumn 5 = .ok (.iload 4, 2) := by decide +kernel
theorem dX1_cellsOfColumn_7 : decode cX1_cellsOfColumn 7 = .ok (.aload_n 0, 1) := by decide +kernel
theorem dX1_cellsOfColumn_8 : decode cX1_cellsOfColumn 8 = .ok (.getfield 37, 3) := by decide +kernel
theorem dX1_cellsOfColumn_11 : decode cX1_cellsOfColumn 11 = .ok (.if_icmp .ge 30, 3) := by decide +kernel
theorem dX1_cellsOfColumn_14 : decode cX1_cellsOfColumn 14 = .ok (.aload_n 0, 1) := by decide +kernel
theorem dX1_cellsOfColumn_15 : decode cX1_cellsOfColumn 15 = .ok (.getfield 9, 3) := by decide +kernel
theorem dX1_cellsOfColumn_18 : decode cX1_cellsOfColumn 18 = .ok (.iload 4, 2) := by decide +kernel
theorem dX1_cellsOfColumn_20 : decode cX1_cellsOfColumn 20 = .ok (.laload, 1) := by decide +kernel
theorem dX1_cellsOfColumn_21 : decode cX1_cellsOfColumn 21 = .ok (.iload_n 1, 1) := by decide +kernel
theorem dX1_cellsOfColumn_22 : decode cX1_cellsOfColumn 22 = .ok (.invokestatic 40, 3) := by decide +kernel
theorem dX1_cellsOfColumn_25 : decode cX1_cellsOfColumn 25 = .ok (.ifCond .eq 10, 3) := by decide +kernel
theorem dX1_cellsOfColumn_28 : decode cX1_cellsOfColumn 28 = .ok (.lload_n 2, 1) := by decide +kernel
theorem dX1_cellsOfColumn_29 : decode cX1_cellsOfColumn 29 = .ok (.lconst 1, 1) := by decide +kernel
theorem dX1_cellsOfColumn_30 : decode cX1_cellsOfColumn 30 = .ok (.iload 4, 2) := by decide +kernel
theorem dX1_cellsOfColumn_32 : decode cX1_cellsOfColumn 32 = .ok (.lshl, 1) := by decide +kernel
theorem dX1_cellsOfColumn_33 : decode cX1_cellsOfColumn 33 = .ok (.lor, 1) := by decide +kernel
theorem dX1_cellsOfColumn_34 : decode cX1_cellsOfColumn 34 = .ok (.lstore_n 2, 1) := by decide +kernel
theorem dX1_cellsOfColumn_35 : decode cX1_cellsOfColumn 35 = .ok (.iinc 4 1, 3) := by decide +kernel
theorem dX1_cellsOfColumn_38 : decode cX1_cellsOfColumn 38 = .ok (.goto (-33), 3) := by decide +kernel
theorem dX1_cellsOfColumn_41 : decode cX1_cellsOfColumn 41 = .ok (.lload_n 2, 1) := by decide +kernel
theorem dX1_cellsOfColumn_42 : decode cX1_cellsOfColumn 42 = .ok (.lreturn, 1) := by decide +kernel
set_option maxRecDepth 20000 in
theorem ggX1_numberAlike_X1_firstLike : GoodIn wsX1_numberAlike wsX1_firstLike := goodIn_r _ [4] (by decide +kernel) (by decide +kernel)
set_option maxRecDepth 20000 in
theorem gX1_numberAlike_X1_firstLike : GoodIn wsX1_numberAlike (va_wsS RX1 44 yX1_firstLike wsX1_firstLike) := goodIn_app (goodIn_of _ (by decide +kernel)) ggX1_numberAlike_X1_firstLike
theorem dX1_numberAlike_0 : decode cX1_numberAlike 0 = .ok (.iconst 0, 1) := by decide +kernel
theorem dX1_numberAlike_1 : decode cX1_numberAlike 1 = .ok (.istore_n 3, 1) := by decide +kernel
theorem dX1_numberAlike_2 : decode cX1_numberAlike 2 = .ok (.iconst 0, 1) := by decide +kernel
theorem dX1_numberAlike_3 : decode cX1_numberAlike 3 = .ok (.istore 4, 2) := by decide +kernel
theorem dX1_numberAlike_5 : decode cX1_numberAlike 5 = .ok (.iload 4, 2) := by decide +kernel
theorem dX1_numberAlike_7 : decode cX1_numberAlike 7 = .ok (.iload_n 1, 1) := by decide +kernel
theorem dX1_numberAlike_8 : decode cX1_numberAlike 8 = .ok (.if_icmp .ge 43, 3) := by decide +kernel
theorem dX1_numberAlike_11 : decode cX1_numberAlike 11 = .ok (.aload_n 0, 1) := by decide +kernel
theorem dX1_numberAlike_12 : decode cX1_numberAlike 12 = .ok (.iload 4, 2) := by decide +kernel
theorem dX1_numberAlike_14 : decode cX1_numberAlike 14 = .ok (.invokestatic 44, 3) := by decide +kernel
theorem dX1_numberAlike_17 : decode cX1_numberAlike 17 = .ok (.istore 5, 2) := by decide +kernel
theorem dX1_numberAlike_19 : decode cX1_numberAlike 19 = .ok (.iload 5, 2) := by decide +kernel
theorem dX1_numberAlike_21 : decode cX1_numberAlike 21 = .ok (.iload 4, 2) := by decide +kernel
theorem dX1_numberAlike_23 : decode cX1_numberAlike 23 = .ok (.if_icmp .ge 14, 3) := by decide +kernel
theorem dX1_numberAlike_26 : decode cX1_numberAlike 26 = .ok (.aload_n 2, 1) := by decide +kernel
theorem dX1_numberAlike_27 : decode cX1_numberAlike 27 = .ok (.iload 4, 2) := by decide +kernel
theorem dX1_numberAlike_29 : decode cX1_numberAlike 29 = .ok (.aload_n 2, 1) := by decide +kernel
theorem dX1_numberAlike_30 : decode cX1_numberAlike 30 = .ok (.iload 5, 2) := by decide +kernel
theorem dX1_numberAlike_32 : decode cX1_numberAlike 32 = .ok (.iaload, 1) := by decide +kernel
theorem dX1_numberAlike_33 : decode cX1_numberAlike 33 = .ok (.iastore, 1) := by decide +kernel
theorem dX1_numberAlike_34 : decode cX1_numberAlike 34 = .ok (.goto 11, 3) := by decide +kernel
theorem dX1_numberAlike_37 : decode cX1_numberAlike 37 = .ok (.aload_n 2, 1) := by decide +kernel
theorem dX1_numberAlike_38 : decode cX1_numberAlike 38 = .ok (.iload 4, 2) := by decide +kernel
theorem dX1_numberAlike_40 : decode cX1_numberAlike 40 = .ok (.iload_n 3, 1) := by decide +kernel
theorem dX1_numberAlike_41 : decode cX1_numberAlike 41 = .ok (.iastore, 1) := by decide +kernel
theorem dX1_numberAlike_42 : decode cX1_numberAlike 42 = .ok (.iinc 3 1, 3) := by decide +kernel
theorem dX1_numberAlike_45 : decode cX1_numberAlike 45 = .ok (.iinc 4 1, 3) := by decide +kernel
theorem dX1_numberAlike_48 : decode cX1_numberAlike 48 = .ok (.goto (-43), 3) := by decide +kernel
theorem dX1_numberAlike_51 : decode cX1_numberAlike 51 = .ok (.iload_n 3, 1) := by decide +kernel
theorem dX1_numberAlike_52 : decode cX1_numberAlike 52 = .ok (.ireturn, 1) := by decide +kernel
theorem dX1_firstLike_0 : decode cX1_firstLike 0 = .ok (.iconst 0, 1) := by decide +kernel
theorem dX1_firstLike_1 : decode cX1_firstLike 1 = .ok (.istore_n 2, 1) := by decide +kernel
theorem dX1_firstLike_2 : decode cX1_firstLike 2 = .ok (.iload_n 2, 1) := by decide +kernel
theorem dX1_firstLike_3 : decode cX1_firstLike 3 = .ok (.iload_n 1, 1) := by decide +kernel
theorem dX1_firstLike_4 : decode cX1_firstLike 4 = .ok (.if_icmp .ge 19, 3) := by decide +kernel
theorem dX1_firstLike_7 : decode cX1_firstLike 7 = .ok (.aload_n 0, 1) := by decide +kernel
theorem dX1_firstLike_8 : decode cX1_firstLike 8 = .ok (.iload_n 2, 1) := by decide +kernel
theorem dX1_firstLike_9 : decode cX1_firstLike 9 = .ok (.laload, 1) := by decide +kernel
theorem dX1_firstLike_10 : decode cX1_firstLike 10 = .ok (.aload_n 0, 1) := by decide +kernel
theorem dX1_firstLike_11 : decode cX1_firstLike 11 = .ok (.iload_n 1, 1) := by decide +kernel
theorem dX1_firstLike_12 : decode cX1_firstLike 12 = .ok (.laload, 1) := by decide +kernel
theorem dX1_firstLike_13 : decode cX1_firstLike 13 = .ok (.lcmp, 1) := by decide +kernel
theorem dX1_firstLike_14 : decode cX1_firstLike 14 = .ok (.ifCond .eq 9, 3) := by decide +kernel
theorem dX1_firstLike_17 : decode cX1_firstLike 17 = .ok (.iinc 2 1, 3) := by decide +kernel
theorem dX1_firstLike_20 : decode cX1_firstLike 20 = .ok (.goto (-18), 3) := by decide +kernel
theorem dX1_firstLike_23 : decode cX1_firstLike 23 = .ok (.iload_n 2, 1) := by decide +kernel
theorem dX1_firstLike_24 : decode cX1_firstLike 24 = .ok (.ireturn, 1) := by decide +kernel
set_option maxRecDepth 20000 in
theorem ggX1_digestFrom_X4_digestWith : GoodIn wsX1_digestFrom wsX4_digestWith := goodIn_r _ [6, 7] (by decide +kernel) (by decide +kernel)
set_option maxRecDepth 20000 in
theorem gX1_digestFrom_X4_digestWith_n48 : GoodIn wsX1_digestFrom (wsX4_digestWith) := ggX1_digestFrom_X4_digestWith
theorem dX1_digestFrom_0 : decode cX1_digestFrom 0 = .ok (.lload_n 1, 1) := by decide +kernel
theorem dX1_digestFrom_1 : decode cX1_digestFrom 1 = .ok (.aload_n 0, 1) := by decide +kernel
theorem dX1_digestFrom_2 : decode cX1_digestFrom 2 = .ok (.getfield 25, 3) := by decide +kernel
theorem dX1_digestFrom_5 : decode cX1_digestFrom 5 = .ok (.i2l, 1) := by decide +kernel
theorem dX1_digestFrom_6 : decode cX1_digestFrom 6 = .ok (.invokestatic 48, 3) := by decide +kernel
theorem dX1_digestFrom_9 : decode cX1_digestFrom 9 = .ok (.lstore_n 3, 1) := by decide +kernel
theorem dX1_digestFrom_10 : decode cX1_digestFrom 10 = .ok (.lload_n 3, 1) := by decide +kernel
theorem dX1_digestFrom_11 : decode cX1_digestFrom 11 = .ok (.aload_n 0, 1) := by decide +kernel
theorem dX1_digestFrom_12 : decode cX1_digestFrom 12 = .ok (.getfield 37, 3) := by decide +kernel
theorem dX1_digestFrom_15 : decode cX1_digestFrom 15 = .ok (.i2l, 1) := by decide +kernel
theorem dX1_digestFrom_16 : decode cX1_digestFrom 16 = .ok (.invokestatic 48, 3) := by decide +kernel
theorem dX1_digestFrom_19 : decode cX1_digestFrom 19 = .ok (.lstore_n 3, 1) := by decide +kernel
theorem dX1_digestFrom_20 : decode cX1_digestFrom 20 = .ok (.iconst 0, 1) := by decide +kernel
theorem dX1_digestFrom_21 : decode cX1_digestFrom 21 = .ok (.istore 5, 2) := by decide +kernel
theorem dX1_digestFrom_23 : decode cX1_digestFrom 23 = .ok (.iload 5, 2) := by decide +kernel
theorem dX1_digestFrom_25 : decode cX1_digestFrom 25 = .ok (.aload_n 0, 1) := by decide +kernel
theorem dX1_digestFrom_26 : decode cX1_digestFrom 26 = .ok (.getfield 37, 3) := by decide +kernel
theorem dX1_digestFrom_29 : decode cX1_digestFrom 29 = .ok (.if_icmp .ge 21, 3) := by decide +kernel
theorem dX1_digestFrom_32 : decode cX1_digestFrom 32 = .ok (.lload_n 3, 1) := by decide +kernel
theorem dX1_digestFrom_33 : decode cX1_digestFrom 33 = .ok (.aload_n 0, 1) := by decide +kernel
theorem dX1_digestFrom_34 : decode cX1_digestFrom 34 = .ok (.getfield 9, 3) := by decide +kernel
theorem dX1_digestFrom_37 : decode cX1_digestFrom 37 = .ok (.iload 5, 2) := by decide +kernel
theorem dX1_digestFrom_39 : decode cX1_digestFrom 39 = .ok (.laload, 1) := by decide +kernel
theorem dX1_digestFrom_40 : decode cX1_digestFrom 40 = .ok (.invokestatic 48, 3) := by decide +kernel
theorem dX1_digestFrom_43 : decode cX1_digestFrom 43 = .ok (.lstore_n 3, 1) := by decide +kernel
theorem dX1_digestFrom_44 : decode cX1_digestFrom 44 = .ok (.iinc 5 1, 3) := by decide +kernel
theorem dX1_digestFrom_47 : decode cX1_digestFrom 47 = .ok (.goto (-24), 3) := by decide +kernel
theorem dX1_digestFrom_50 : decode cX1_digestFrom 50 = .ok (.lload_n 3, 1) := by decide +kernel
theorem dX1_digestFrom_51 : decode cX1_digestFrom 51 = .ok (.lreturn, 1) := by decide +kernel
theorem dX2_init_0 : decode cX2_init 0 = .ok (.aload_n 0, 1) := by decide +kernel
theorem dX2_init_1 : decode cX2_init 1 = .ok (.invokespecial 3, 3) := by decide +kernel
theorem dX2_init_4 : decode cX2_init 4 = .ok (.aload_n 0, 1) := by decide +kernel
theorem dX2_init_5 : decode cX2_init 5 = .ok (.bipush 80, 2) := by decide +kernel
theorem dX2_init_7 : decode cX2_init 7 = .ok (.newarray .long, 2) := by decide +kernel
theorem dX2_init_9 : decode cX2_init 9 = .ok (.putfield 9, 3) := by decide +kernel
theorem dX2_init_12 : decode cX2_init 12 = .ok (.aload_n 0, 1) := by decide +kernel
theorem dX2_init_13 : decode cX2_init 13 = .ok (.bipush 80, 2) := by decide +kernel
theorem dX2_init_15 : decode cX2_init 15 = .ok (.newarray .long, 2) := by decide +kernel
theorem dX2_init_17 : decode cX2_init 17 = .ok (.putfield 15, 3) := by decide +kernel
theorem dX2_init_20 : decode cX2_init 20 = .ok (.return_, 1) := by decide +kernel
set_option maxRecDepth 20000 in
theorem ggX2_follow_X2_begin : GoodIn wsX2_follow wsX2_begin := goodIn_r _ [8, 9, 1, 2, 3, 10, 11, 12, 13, 14, 15, 16, 17, 18, 19, 20, 21, 22, 23, 24, 25, 26, 27, 28, 29, 38, 39, 40, 41, 34, 35, 36, 37] (by decide +kernel) (by decide +kernel)
set_option maxRecDepth 20000 in
theorem gX2_follow_X2_begin : GoodIn wsX2_follow (wsV RX2 18 RX2 yX2_begin wsX2_begin) := goodIn_app (goodIn_of _ (by decide +kernel)) ggX2_follow_X2_begin
set_option maxRecDepth 20000 in
theorem ggX2_follow_X2_leads : GoodIn wsX2_follow wsX2_leads := goodIn_r _ [33, 9, 2, 3, 20, 21, 22, 34, 35, 36, 37] (by decide +kernel) (by decide +kernel)
set_option maxRecDepth 20000 in
theorem gX2_follow_X2_leads : GoodIn wsX2_follow (wsV RX2 26 RX2 yX2_leads wsX2_leads) := goodIn_app (goodIn_of _ (by decide +kernel)) ggX2_follow_X2_leads
theorem dX2_follow_0 : decode cX2_follow 0 = .ok (.aload_n 0, 1) := by decide +kernel
theorem dX2_follow_1 : decode cX2_follow 1 = .ok (.aload_n 1, 1) := by decide +kernel
theorem dX2_follow_2 : decode cX2_follow 2 = .ok (.invokevirtual 18, 3) := by decide +kernel
theorem dX2_follow_5 : decode cX2_follow 5 = .ok (.iconst 0, 1) := by decide +kernel
theorem dX2_follow_6 : decode cX2_follow 6 = .ok (.istore_n 2, 1) := by decide +kernel
theorem dX2_follow_7 : decode cX2_follow 7 = .ok (.iload_n 2, 1) := by decide +kernel
theorem dX2_follow_8 : decode cX2_follow 8 = .ok (.aload_n 0, 1) := by decide +kernel
theorem dX2_follow_9 : decode cX2_follow 9 = .ok (.getfield 22, 3) := by decide +kernel
theorem dX2_follow_12 : decode cX2_follow 12 = .ok (.if_icmp .ge 64, 3) := by decide +kernel
theorem dX2_follow_15 : decode cX2_follow 15 = .ok (.iconst 0, 1) := by decide +kernel
theorem dX2_follow_16 : decode cX2_follow 16 = .ok (.istore_n 3, 1) := by decide +kernel
theorem dX2_follow_17 : decode cX2_follow 17 = .ok (.iload_n 3, 1) := by decide +kernel
theorem dX2_follow_18 : decode cX2_follow 18 = .ok (.aload_n 0, 1) := by decide +kernel
theorem dX2_follow_19 : decode cX2_follow 19 = .ok (.getfield 22, 3) := by decide +kernel
theorem dX2_follow_22 : decode cX2_follow 22 = .ok (.if_icmp .ge 48, 3) := by decide +kernel
theorem dX2_follow_25 : decode cX2_follow 25 = .ok (.aload_n 0, 1) := by decide +kernel
theorem dX2_follow_26 : decode cX2_follow 26 = .ok (.iload_n 3, 1) := by decide +kernel
theorem dX2_follow_27 : decode cX2_follow 27 = .ok (.iload_n 2, 1) := by decide +kernel
theorem dX2_follow_28 : decode cX2_follow 28 = .ok (.invokevirtual 26, 3) := by decide +kernel
theorem dX2_follow_31 : decode cX2_follow 31 = .ok (.ifCond .eq 33, 3) := by decide +kernel
theorem dX2_follow_34 : decode cX2_follow 34 = .ok (.aload_n 0, 1) := by decide +kernel
theorem dX2_follow_35 : decode cX2_follow 35 = .ok (.getfield 9, 3) := by decide +kernel
theorem dX2_follow_38 : decode cX2_follow 38 = .ok (.iload_n 3, 1) := by decide +kernel
theorem dX2_follow_39 : decode cX2_follow 39 = .ok (.dup2, 1) := by decide +kernel
theorem dX2_follow_40 : decode cX2_follow 40 = .ok (.laload, 1) := by decide +kernel
theorem dX2_follow_41 : decode cX2_follow 41 = .ok (.aload_n 0, 1) := by decide +kernel
theorem dX2_follow_42 : decode cX2_follow 42 = .ok (.getfield 9, 3) := by decide +kernel
theorem dX2_follow_45 : decode cX2_follow 45 = .ok (.iload_n 2, 1) := by decide +kernel
theorem dX2_follow_46 : decode cX2_follow 46 = .ok (.laload, 1) := by decide +kernel
theorem dX2_follow_47 : decode cX2_follow 47 = .ok (.lor, 1) := by decide +kernel
theorem dX2_follow_48 : decode cX2_follow 48 = .ok (.lastore, 1) := by decide +kernel
theorem dX2_follow_49 : decode cX2_follow 49 = .ok (.aload_n 0, 1) := by decide +kernel
theorem dX2_follow_50 : decode cX2_follow 50 = .ok (.getfield 15, 3) := by decide +kernel
theorem dX2_follow_53 : decode cX2_follow 53 = .ok (.iload_n 3, 1) := by decide +kernel
theorem dX2_follow_54 : decode cX2_follow 54 = .ok (.dup2, 1) := by decide +kernel
theorem dX2_follow_55 : decode cX2_follow 55 = .ok (.laload, 1) := by decide +kernel
theorem dX2_follow_56 : decode cX2_follow 56 = .ok (.aload_n 0, 1) := by decide +kernel
theorem dX2_follow_57 : decode cX2_follow 57 = .ok (.getfield 15, 3) := by decide +kernel
theorem dX2_follow_60 : decode cX2_follow 60 = .ok (.iload_n 2, 1) := by decide +kernel
theorem dX2_follow_61 : decode cX2_follow 61 = .ok (.laload, 1) := by decide +kernel
theorem dX2_follow_62 : decode cX2_follow 62 = .ok (.lor, 1) := by decide +kernel
theorem dX2_follow_63 : decode cX2_follow 63 = .ok (.lastore, 1) := by decide +kernel
theorem dX2_follow_64 : decode cX2_follow 64 = .ok (.iinc 3 1, 3) := by decide +kernel
theorem dX2_follow_67 : decode cX2_follow 67 = .ok (.goto (-50), 3) := by decide +kernel
theorem dX2_follow_70 : decode cX2_follow 70 = .ok (.iinc 2 1, 3) := by decide +kernel
theorem dX2_follow_73 : decode cX2_follow 73 = .ok (.goto (-66), 3) := by decide +kernel
theorem dX2_follow_76 : decode cX2_follow 76 = .ok (.return_, 1) := by decide +kernel
set_option maxRecDepth 20000 in
theorem ggX2_begin_X0_picksUnder : GoodIn wsX2_begin wsX0_picksUnder := goodIn_r _ [8, 9, 10, 11, 12, 6, 13, 14, 15, 16, 17, 25, 26, 27, 28] (by decide +kernel) (by decide +kernel)
set_option maxRecDepth 20000 in
theorem gX2_begin_X0_picksUnder_n39 : GoodIn wsX2_begin (wsX0_picksUnder) := ggX2_begin_X0_picksUnder
set_option maxRecDepth 20000 in
theorem ggX2_begin_X0_endsUnder : GoodIn wsX2_begin wsX0_endsUnder := goodIn_r _ [20, 21, 14, 22, 23, 16, 24, 25, 26, 27, 28] (by decide +kernel) (by decide +kernel)
set_option maxRecDepth 20000 in
theorem gX2_begin_X0_endsUnder_n43 : GoodIn wsX2_begin (wsX0_endsUnder) := ggX2_begin_X0_endsUnder
theorem dX2_begin_0 : decode cX2_begin 0 = .ok (.aload_n 0, 1) := by decide +kernel
theorem dX2_begin_1 : decode cX2_begin 1 = .ok (.aload_n 1, 1) := by decide +kernel
theorem dX2_begin_2 : decode cX2_begin 2 = .ok (.getfield 30, 3) := by decide +kernel
theorem dX2_begin_5 : decode cX2_begin 5 = .ok (.putfield 35, 3) := by decide +kernel
theorem dX2_begin_8 : decode cX2_begin 8 = .ok (.aload_n 0, 1) := by decide +kernel
theorem dX2_begin_9 : decode cX2_begin 9 = .ok (.aload_n 1, 1) := by decide +kernel
theorem dX2_begin_10 : decode cX2_begin 10 = .ok (.getfield 30, 3) := by decide +kernel
theorem dX2_begin_13 : decode cX2_begin 13 = .ok (.aload_n 1, 1) := by decide +kernel
theorem dX2_begin_14 : decode cX2_begin 14 = .ok (.getfield 36, 3) := by decide +kernel
theorem dX2_begin_17 : decode cX2_begin 17 = .ok (.iadd, 1) := by decide +kernel
theorem dX2_begin_18 : decode cX2_begin 18 = .ok (.putfield 22, 3) := by decide +kernel
theorem dX2_begin_21 : decode cX2_begin 21 = .ok (.iconst 0, 1) := by decide +kernel
theorem dX2_begin_22 : decode cX2_begin 22 = .ok (.istore_n 2, 1) := by decide +kernel
theorem dX2_begin_23 : decode cX2_begin 23 = .ok (.iload_n 2, 1) := by decide +kernel
theorem dX2_begin_24 : decode cX2_begin 24 = .ok (.aload_n 0, 1) := by decide +kernel
theorem dX2_begin_25 : decode cX2_begin 25 = .ok (.getfield 35, 3) := by decide +kernel
theorem dX2_begin_28 : decode cX2_begin 28 = .ok (.if_icmp .ge 27, 3) := by decide +kernel
theorem dX2_begin_31 : decode cX2_begin 31 = .ok (.aload_n 0, 1) := by decide +kernel
theorem dX2_begin_32 : decode cX2_begin 32 = .ok (.getfield 9, 3) := by decide +kernel
theorem dX2_begin_35 : decode cX2_begin 35 = .ok (.iload_n 2, 1) := by decide +kernel
theorem dX2_begin_36 : decode cX2_begin 36 = .ok (.lconst 0, 1) := by decide +kernel
theorem dX2_begin_37 : decode cX2_begin 37 = .ok (.lastore, 1) := by decide +kernel
theorem dX2_begin_38 : decode cX2_begin 38 = .ok (.aload_n 0, 1) := by decide +kernel
theorem dX2_begin_39 : decode cX2_begin 39 = .ok (.getfield 15, 3) := by decide +kernel
theorem dX2_begin_42 : decode cX2_begin 42 = .ok (.iload_n 2, 1) := by decide +kernel
theorem dX2_begin_43 : decode cX2_begin 43 = .ok (.aload_n 1, 1) := by decide +kernel
theorem dX2_begin_44 : decode cX2_begin 44 = .ok (.iload_n 2, 1) := by decide +kernel
theorem dX2_begin_45 : decode cX2_begin 45 = .ok (.invokevirtual 39, 3) := by decide +kernel
theorem dX2_begin_48 : decode cX2_begin 48 = .ok (.lastore, 1) := by decide +kernel
theorem dX2_begin_49 : decode cX2_begin 49 = .ok (.iinc 2 1, 3) := by decide +kernel
theorem dX2_begin_52 : decode cX2_begin 52 = .ok (.goto (-29), 3) := by decide +kernel
theorem dX2_begin_55 : decode cX2_begin 55 = .ok (.iconst 0, 1) := by decide +kernel
theorem dX2_begin_56 : decode cX2_begin 56 = .ok (.istore_n 2, 1) := by decide +kernel
theorem dX2_begin_57 : decode cX2_begin 57 = .ok (.iload_n 2, 1) := by decide +kernel
theorem dX2_begin_58 : decode cX2_begin 58 = .ok (.aload_n 1, 1) := by decide +kernel
theorem dX2_begin_59 : decode cX2_begin 59 = .ok (.getfield 36, 3) := by decide +kernel
theorem dX2_begin_62 : decode cX2_begin 62 = .ok (.if_icmp .ge 37, 3) := by decide +kernel
theorem dX2_begin_65 : decode cX2_begin 65 = .ok (.aload_n 0, 1) := by decide +kernel
theorem dX2_begin_66 : decode cX2_begin 66 = .ok (.getfield 9, 3) := by decide +kernel
theorem dX2_begin_69 : decode cX2_begin 69 = .ok (.aload_n 0, 1) := by decide +kernel
theorem dX2_begin_70 : decode cX2_begin 70 = .ok (.getfield 35, 3) := by decide +kernel
theorem dX2_begin_73 : decode cX2_begin 73 = .ok (.iload_n 2, 1) := by decide +kernel
theorem dX2_begin_74 : decode cX2_begin 74 = .ok (.iadd, 1) := by decide +kernel
theorem dX2_begin_75 : decode cX2_begin 75 = .ok (.aload_n 1, 1) := by decide +kernel
theorem dX2_begin_76 : decode cX2_begin 76 = .ok (.iload_n 2, 1) := by decide +kernel
theorem dX2_begin_77 : decode cX2_begin 77 = .ok (.invokevirtual 43, 3) := by decide +kernel
theorem dX2_begin_80 : decode cX2_begin 80 = .ok (.lastore, 1) := by decide +kernel
theorem dX2_begin_81 : decode cX2_begin 81 = .ok (.aload_n 0, 1) := by decide +kernel
theorem dX2_begin_82 : decode cX2_begin 82 = .ok (.getfield 15, 3) := by decide +kernel
theorem dX2_begin_85 : decode cX2_begin 85 = .ok (.aload_n 0, 1) := by decide +kernel
theorem dX2_begin_86 : decode cX2_begin 86 = .ok (.getfield 35, 3) := by decide +kernel
theorem dX2_begin_89 : decode cX2_begin 89 = .ok (.iload_n 2, 1) := by decide +kernel
theorem dX2_begin_90 : decode cX2_begin 90 = .ok (.iadd, 1) := by decide +kernel
theorem dX2_begin_91 : decode cX2_begin 91 = .ok (.lconst 0, 1) := by decide +kernel
theorem dX2_begin_92 : decode cX2_begin 92 = .ok (.lastore, 1) := by decide +kernel
theorem dX2_begin_93 : decode cX2_begin 93 = .ok (.iinc 2 1, 3) := by decide +kernel
theorem dX2_begin_96 : decode cX2_begin 96 = .ok (.goto (-39), 3) := by decide +kernel
theorem dX2_begin_99 : decode cX2_begin 99 = .ok (.return_, 1) := by decide +kernel
set_option maxRecDepth 20000 in
theorem ggX2_leads_X4_hasBit : GoodIn wsX2_leads wsX4_hasBit := goodIn_r _ [6] (by decide +kernel) (by decide +kernel)
set_option maxRecDepth 20000 in
theorem gX2_leads_X4_hasBit_n46 : GoodIn wsX2_leads (wsX4_hasBit) := ggX2_leads_X4_hasBit
theorem dX2_leads_0 : decode cX2_leads 0 = .ok (.iload_n 2, 1) := by decide +kernel
theorem dX2_leads_1 : decode cX2_leads 1 = .ok (.aload_n 0, 1) := by decide +kernel
theorem dX2_leads_2 : decode cX2_leads 2 = .ok (.getfield 35, 3) := by decide +kernel
theorem dX2_leads_5 : decode cX2_leads 5 = .ok (.if_icmp .ge 16, 3) := by decide +kernel
theorem dX2_leads_8 : decode cX2_leads 8 = .ok (.aload_n 0, 1) := by decide +kernel
theorem dX2_leads_9 : decode cX2_leads 9 = .ok (.getfield 9, 3) := by decide +kernel
theorem dX2_leads_12 : decode cX2_leads 12 = .ok (.iload_n 1, 1) := by decide +kernel
theorem dX2_leads_13 : decode cX2_leads 13 = .ok (.laload, 1) := by decide +kernel
theorem dX2_leads_14 : decode cX2_leads 14 = .ok (.iload_n 2, 1) := by decide +kernel
theorem dX2_leads_15 : decode cX2_leads 15 = .ok (.invokestatic 46, 3) := by decide +kernel
theorem dX2_leads_18 : decode cX2_leads 18 = .ok (.goto 18, 3) := by decide +kernel
theorem dX2_leads_21 : decode cX2_leads 21 = .ok (.aload_n 0, 1) := by decide +kernel
theorem dX2_leads_22 : decode cX2_leads 22 = .ok (.getfield 15, 3) := by decide +kernel
theorem dX2_leads_25 : decode cX2_leads 25 = .ok (.iload_n 1, 1) := by decide +kernel
theorem dX2_leads_26 : decode cX2_leads 26 = .ok (.laload, 1) := by decide +kernel
theorem dX2_leads_27 : decode cX2_leads 27 = .ok (.iload_n 2, 1) := by decide +kernel
theorem dX2_leads_28 : decode cX2_leads 28 = .ok (.aload_n 0, 1) := by decide +kernel
theorem dX2_leads_29 : decode cX2_leads 29 = .ok (.getfield 35, 3) := by decide +kernel
theorem dX2_leads_32 : decode cX2_leads 32 = .ok (.isub, 1) := by decide +kernel
theorem dX2_leads_33 : decode cX2_leads 33 = .ok (.invokestatic 46, 3) := by decide +kernel
theorem dX2_leads_36 : decode cX2_leads 36 = .ok (.ireturn, 1) := by decide +kernel
set_option maxRecDepth 20000 in
theorem ggX2_groups_X2_isFirstOfGroup : GoodIn wsX2_groups wsX2_isFirstOfGroup := goodIn_r _ [6, 7, 8, 9, 5, 10, 11, 12, 13, 14, 15, 16, 17, 18, 19, 20] (by decide +kernel) (by decide +kernel)
set_option maxRecDepth 20000 in
theorem gX2_groups_X2_isFirstOfGroup : GoodIn wsX2_groups (wsV RX2 50 RX2 yX2_isFirstOfGroup wsX2_isFirstOfGroup) := goodIn_app (goodIn_of _ (by decide +kernel)) ggX2_groups_X2_isFirstOfGroup
theorem dX2_groups_0 : decode cX2_groups 0 = .ok (.iconst 0, 1) := by decide +kernel
theorem dX2_groups_1 : decode cX2_groups 1 = .ok (.istore_n 1, 1) := by decide +kernel
theorem dX2_groups_2 : decode cX2_groups 2 = .ok (.iconst 0, 1) := by decide +kernel
theorem dX2_groups_3 : decode cX2_groups 3 = .ok (.istore_n 2, 1) := by decide +kernel
theorem dX2_groups_4 : decode cX2_groups 4 = .ok (.iload_n 2, 1) := by decide +kernel
theorem dX2_groups_5 : decode cX2_groups 5 = .ok (.aload_n 0, 1) := by decide +kernel
theorem dX2_groups_6 : decode cX2_groups 6 = .ok (.getfield 22, 3) := by decide +kernel
theorem dX2_groups_9 : decode cX2_groups 9 = .ok (.if_icmp .ge 20, 3) := by decide +kernel
theorem dX2_groups_12 : decode cX2_groups 12 = .ok (.aload_n 0, 1) := by decide +kernel
theorem dX2_groups_13 : decode cX2_groups 13 = .ok (.iload_n 2, 1) := by decide +kernel
theorem dX2_groups_14 : decode cX2_groups 14 = .ok (.invokevirtual 50, 3) := by decide +kernel
theorem dX2_groups_17 : decode cX2_groups 17 = .ok (.ifCond .eq 6, 3) := by decide +kernel
theorem dX2_groups_20 : decode cX2_groups 20 = .ok (.iinc 1 1, 3) := by decide +kernel
theorem dX2_groups_23 : decode cX2_groups 23 = .ok (.iinc 2 1, 3) := by decide +kernel
theorem dX2_groups_26 : decode cX2_groups 26 = .ok (.goto (-22), 3) := by decide +kernel
theorem dX2_groups_29 : decode cX2_groups 29 = .ok (.iload_n 1, 1) := by decide +kernel
theorem dX2_groups_30 : decode cX2_groups 30 = .ok (.ireturn, 1) := by decide +kernel
set_option maxRecDepth 20000 in
theorem ggX2_isFirstOfGroup_X2_leads : GoodIn wsX2_isFirstOfGroup wsX2_leads := goodIn_r _ [5, 6, 7, 8, 9, 10, 11, 12, 13, 14, 15] (by decide +kernel) (by decide +kernel)
set_option maxRecDepth 20000 in
theorem gX2_isFirstOfGroup_X2_leads : GoodIn wsX2_isFirstOfGroup (wsV RX2 26 RX2 yX2_leads wsX2_leads) := goodIn_app (goodIn_of _ (by decide +kernel)) ggX2_isFirstOfGroup_X2_leads
theorem dX2_isFirstOfGroup_0 : decode cX2_isFirstOfGroup 0 = .ok (.iconst 0, 1) := by decide +kernel
theorem dX2_isFirstOfGroup_1 : decode cX2_isFirstOfGroup 1 = .ok (.istore_n 2, 1) := by decide +kernel
theorem dX2_isFirstOfGroup_2 : decode cX2_isFirstOfGroup 2 = .ok (.iload_n 2, 1) := by decide +kernel
theorem dX2_isFirstOfGroup_3 : decode cX2_isFirstOfGroup 3 = .ok (.iload_n 1, 1) := by decide +kernel
theorem dX2_isFirstOfGroup_4 : decode cX2_isFirstOfGroup 4 = .ok (.if_icmp .ge 29, 3) := by decide +kernel
theorem dX2_isFirstOfGroup_7 : decode cX2_isFirstOfGroup 7 = .ok (.aload_n 0, 1) := by decide +kernel
theorem dX2_isFirstOfGroup_8 : decode cX2_isFirstOfGroup 8 = .ok (.iload_n 1, 1) := by decide +kernel
theorem dX2_isFirstOfGroup_9 : decode cX2_isFirstOfGroup 9 = .ok (.iload_n 2, 1) := by decide +kernel
theorem dX2_isFirstOfGroup_10 : decode cX2_isFirstOfGroup 10 = .ok (.invokevirtual 26, 3) := by decide +kernel
theorem dX2_isFirstOfGroup_13 : decode cX2_isFirstOfGroup 13 = .ok (.ifCond .eq 14, 3) := by decide +kernel
theorem dX2_isFirstOfGroup_16 : decode cX2_isFirstOfGroup 16 = .ok (.aload_n 0, 1) := by decide +kernel
theorem dX2_isFirstOfGroup_17 : decode cX2_isFirstOfGroup 17 = .ok (.iload_n 2, 1) := by decide +kernel
theorem dX2_isFirstOfGroup_18 : decode cX2_isFirstOfGroup 18 = .ok (.iload_n 1, 1) := by decide +kernel
theorem dX2_isFirstOfGroup_19 : decode cX2_isFirstOfGroup 19 = .ok (.invokevirtual 26, 3) := by decide +kernel
theorem dX2_isFirstOfGroup_22 : decode cX2_isFirstOfGroup 22 = .ok (.ifCond .eq 5, 3) := by decide +kernel
theorem dX2_isFirstOfGroup_25 : decode cX2_isFirstOfGroup 25 = .ok (.iconst 0, 1) := by decide +kernel
theorem dX2_isFirstOfGroup_26 : decode cX2_isFirstOfGroup 26 = .ok (.ireturn, 1) := by decide +kernel
theorem dX2_isFirstOfGroup_27 : decode cX2_isFirstOfGroup 27 = .ok (.iinc 2 1, 3) := by decide +kernel
theorem dX2_isFirstOfGroup_30 : decode cX2_isFirstOfGroup 30 = .ok (.goto (-28), 3) := by decide +kernel
theorem dX2_isFirstOfGroup_33 : decode cX2_isFirstOfGroup 33 = .ok (.iconst 1, 1) := by decide +kernel
theorem dX2_isFirstOfGroup_34 : decode cX2_isFirstOfGroup 34 = .ok (.ireturn, 1) := by decide +kernel
theorem dX3_init_0 : decode cX3_init 0 = .ok (.aload_n 0, 1) := by decide +kernel
theorem dX3_init_1 : decode cX3_init 1 = .ok (.invokespecial 3, 3) := by decide +kernel
theorem dX3_init_4 : decode cX3_init 4 = .ok (.aload_n 0, 1) := by decide +kernel
theorem dX3_init_5 : decode cX3_init 5 = .ok (.bipush 40, 2) := by decide +kernel
theorem dX3_init_7 : decode cX3_init 7 = .ok (.newarray .int, 2) := by decide +kernel
theorem dX3_init_9 : decode cX3_init 9 = .ok (.putfield 9, 3) := by decide +kernel
theorem dX3_init_12 : decode cX3_init 12 = .ok (.aload_n 0, 1) := by decide +kernel
theorem dX3_init_13 : decode cX3_init 13 = .ok (.bipush 40, 2) := by decide +kernel
theorem dX3_init_15 : decode cX3_init 15 = .ok (.newarray .int, 2) := by decide +kernel
theorem dX3_init_17 : decode cX3_init 17 = .ok (.putfield 15, 3) := by decide +kernel
theorem dX3_init_20 : decode cX3_init 20 = .ok (.return_, 1) := by decide +kernel
set_option maxRecDepth 20000 in
theorem ggX3_has_X4_isBelow : GoodIn wsX3_has wsX4_isBelow := goodIn_r _ [4] (by decide +kernel) (by decide +kernel)
set_option maxRecDepth 20000 in
theorem gX3_has_X4_isBelow_n22 : GoodIn wsX3_has (wsX4_isBelow) := ggX3_has_X4_isBelow
theorem dX3_has_0 : decode cX3_has 0 = .ok (.iload_n 1, 1) := by decide +kernel
theorem dX3_has_1 : decode cX3_has 1 = .ok (.aload_n 0, 1) := by decide +kernel
theorem dX3_has_2 : decode cX3_has 2 = .ok (.getfield 18, 3) := by decide +kernel
theorem dX3_has_5 : decode cX3_has 5 = .ok (.invokestatic 22, 3) := by decide +kernel
theorem dX3_has_8 : decode cX3_has 8 = .ok (.ireturn, 1) := by decide +kernel
theorem dX3_isFull_0 : decode cX3_isFull 0 = .ok (.aload_n 0, 1) := by decide +kernel
theorem dX3_isFull_1 : decode cX3_isFull 1 = .ok (.getfield 18, 3) := by decide +kernel
theorem dX3_isFull_4 : decode cX3_isFull 4 = .ok (.bipush 40, 2) := by decide +kernel
theorem dX3_isFull_6 : decode cX3_isFull 6 = .ok (.if_icmp .ne 7, 3) := by decide +kernel
theorem dX3_isFull_9 : decode cX3_isFull 9 = .ok (.iconst 1, 1) := by decide +kernel
theorem dX3_isFull_10 : decode cX3_isFull 10 = .ok (.goto 4, 3) := by decide +kernel
theorem dX3_isFull_13 : decode cX3_isFull 13 = .ok (.iconst 0, 1) := by decide +kernel
theorem dX3_isFull_14 : decode cX3_isFull 14 = .ok (.ireturn, 1) := by decide +kernel
theorem dX3_add_0 : decode cX3_add 0 = .ok (.aload_n 0, 1) := by decide +kernel
theorem dX3_add_1 : decode cX3_add 1 = .ok (.getfield 18, 3) := by decide +kernel
theorem dX3_add_4 : decode cX3_add 4 = .ok (.istore_n 3, 1) := by decide +kernel
theorem dX3_add_5 : decode cX3_add 5 = .ok (.aload_n 0, 1) := by decide +kernel
theorem dX3_add_6 : decode cX3_add 6 = .ok (.getfield 9, 3) := by decide +kernel
theorem dX3_add_9 : decode cX3_add 9 = .ok (.iload_n 3, 1) := by decide +kernel
theorem dX3_add_10 : decode cX3_add 10 = .ok (.iload_n 1, 1) := by decide +kernel
theorem dX3_add_11 : decode cX3_add 11 = .ok (.iastore, 1) := by decide +kernel
theorem dX3_add_12 : decode cX3_add 12 = .ok (.aload_n 0, 1) := by decide +kernel
theorem dX3_add_13 : decode cX3_add 13 = .ok (.getfield 15, 3) := by decide +kernel
theorem dX3_add_16 : decode cX3_add 16 = .ok (.iload_n 3, 1) := by decide +kernel
theorem dX3_add_17 : decode cX3_add 17 = .ok (.iload_n 2, 1) := by decide +kernel
theorem dX3_add_18 : decode cX3_add 18 = .ok (.iastore, 1) := by decide +kernel
theorem dX3_add_19 : decode cX3_add 19 = .ok (.aload_n 0, 1) := by decide +kernel
theorem dX3_add_20 : decode cX3_add 20 = .ok (.dup, 1) := by decide +kernel
theorem dX3_add_21 : decode cX3_add 21 = .ok (.getfield 18, 3) := by decide +kernel
theorem dX3_add_24 : decode cX3_add 24 = .ok (.iconst 1, 1) := by decide +kernel
theorem dX3_add_25 : decode cX3_add 25 = .ok (.iadd, 1) := by decide +kernel
theorem dX3_add_26 : decode cX3_add 26 = .ok (.putfield 18, 3) := by decide +kernel
theorem dX3_add_29 : decode cX3_add 29 = .ok (.iload_n 3, 1) := by decide +kernel
theorem dX3_add_30 : decode cX3_add 30 = .ok (.ireturn, 1) := by decide +kernel
set_option maxRecDepth 20000 in
theorem ggX3_addCopy_X3_add : GoodIn wsX3_addCopy wsX3_add := goodIn_r _ [8, 1, 2, 3, 9, 10, 11] (by decide +kernel) (by decide +kernel)
set_option maxRecDepth 20000 in
theorem gX3_addCopy_X3_add : GoodIn wsX3_addCopy (wsV RX3 26 RX3 yX3_add wsX3_add) := goodIn_app (goodIn_of _ (by decide +kernel)) ggX3_addCopy_X3_add
theorem dX3_addCopy_0 : decode cX3_addCopy 0 = .ok (.aload_n 0, 1) := by decide +kernel
theorem dX3_addCopy_1 : decode cX3_addCopy 1 = .ok (.getfield 18, 3) := by decide +kernel
theorem dX3_addCopy_4 : decode cX3_addCopy 4 = .ok (.istore_n 1, 1) := by decide +kernel
theorem dX3_addCopy_5 : decode cX3_addCopy 5 = .ok (.iconst 0, 1) := by decide +kernel
theorem dX3_addCopy_6 : decode cX3_addCopy 6 = .ok (.istore_n 2, 1) := by decide +kernel
theorem dX3_addCopy_7 : decode cX3_addCopy 7 = .ok (.iload_n 2, 1) := by decide +kernel
theorem dX3_addCopy_8 : decode cX3_addCopy 8 = .ok (.iload_n 1, 1) := by decide +kernel
theorem dX3_addCopy_9 : decode cX3_addCopy 9 = .ok (.if_icmp .ge 26, 3) := by decide +kernel
theorem dX3_addCopy_12 : decode cX3_addCopy 12 = .ok (.aload_n 0, 1) := by decide +kernel
theorem dX3_addCopy_13 : decode cX3_addCopy 13 = .ok (.aload_n 0, 1) := by decide +kernel
theorem dX3_addCopy_14 : decode cX3_addCopy 14 = .ok (.getfield 9, 3) := by decide +kernel
theorem dX3_addCopy_17 : decode cX3_addCopy 17 = .ok (.iload_n 2, 1) := by decide +kernel
theorem dX3_addCopy_18 : decode cX3_addCopy 18 = .ok (.iaload, 1) := by decide +kernel
theorem dX3_addCopy_19 : decode cX3_addCopy 19 = .ok (.aload_n 0, 1) := by decide +kernel
theorem dX3_addCopy_20 : decode cX3_addCopy 20 = .ok (.getfield 15, 3) := by decide +kernel
theorem dX3_addCopy_23 : decode cX3_addCopy 23 = .ok (.iload_n 2, 1) := by decide +kernel
theorem dX3_addCopy_24 : decode cX3_addCopy 24 = .ok (.iaload, 1) := by decide +kernel
theorem dX3_addCopy_25 : decode cX3_addCopy 25 = .ok (.invokevirtual 26, 3) := by decide +kernel
theorem dX3_addCopy_28 : decode cX3_addCopy 28 = .ok (.pop, 1) := by decide +kernel
theorem dX3_addCopy_29 : decode cX3_addCopy 29 = .ok (.iinc 2 1, 3) := by decide +kernel
theorem dX3_addCopy_32 : decode cX3_addCopy 32 = .ok (.goto (-25), 3) := by decide +kernel
theorem dX3_addCopy_35 : decode cX3_addCopy 35 = .ok (.return_, 1) := by decide +kernel
set_option maxRecDepth 20000 in
theorem ggX3_turn_X3_swap : GoodIn wsX3_turn wsX3_swap := goodIn_r _ [5, 6, 7, 8, 9, 10] (by decide +kernel) (by decide +kernel)
set_option maxRecDepth 20000 in
theorem gX3_turn_X3_swap : GoodIn wsX3_turn (wsV RX3 30 RX3 yX3_swap wsX3_swap) := goodIn_app (goodIn_of _ (by decide +kernel)) ggX3_turn_X3_swap
theorem dX3_turn_0 : decode cX3_turn 0 = .ok (.iload_n 1, 1) := by decide +kernel
theorem dX3_turn_1 : decode cX3_turn 1 = .ok (.istore_n 3, 1) := by decide +kernel
theorem dX3_turn_2 : decode cX3_turn 2 = .ok (.iload_n 2, 1) := by decide +kernel
theorem dX3_turn_3 : decode cX3_turn 3 = .ok (.iconst 1, 1) := by decide +kernel
theorem dX3_turn_4 : decode cX3_turn 4 = .ok (.isub, 1) := by decide +kernel
theorem dX3_turn_5 : decode cX3_turn 5 = .ok (.istore 4, 2) := by decide +kernel
theorem dX3_turn_7 : decode cX3_turn 7 = .ok (.iload_n 3, 1) := by decide +kernel
theorem dX3_turn_8 : decode cX3_turn 8 = .ok (.iload 4, 2) := by decide +kernel
theorem dX3_turn_10 : decode cX3_turn 10 = .ok (.if_icmp .ge 19, 3) := by decide +kernel
theorem dX3_turn_13 : decode cX3_turn 13 = .ok (.aload_n 0, 1) := by decide +kernel
theorem dX3_turn_14 : decode cX3_turn 14 = .ok (.iload_n 3, 1) := by decide +kernel
theorem dX3_turn_15 : decode cX3_turn 15 = .ok (.iload 4, 2) := by decide +kernel
theorem dX3_turn_17 : decode cX3_turn 17 = .ok (.invokevirtual 30, 3) := by decide +kernel
theorem dX3_turn_20 : decode cX3_turn 20 = .ok (.iinc 3 1, 3) := by decide +kernel
theorem dX3_turn_23 : decode cX3_turn 23 = .ok (.iinc 4 (-1), 3) := by decide +kernel
theorem dX3_turn_26 : decode cX3_turn 26 = .ok (.goto (-19), 3) := by decide +kernel
theorem dX3_turn_29 : decode cX3_turn 29 = .ok (.return_, 1) := by decide +kernel
theorem dX3_swap_0 : decode cX3_swap 0 = .ok (.aload_n 0, 1) := by decide +kernel
theorem dX3_swap_1 : decode cX3_swap 1 = .ok (.getfield 9, 3) := by decide +kernel
theorem dX3_swap_4 : decode cX3_swap 4 = .ok (.iload_n 1, 1) := by decide +kernel
theorem dX3_swap_5 : decode cX3_swap 5 = .ok (.iaload, 1) := by decide +kernel
theorem dX3_swap_6 : decode cX3_swap 6 = .ok (.istore_n 3, 1) := by decide +kernel
theorem dX3_swap_7 : decode cX3_swap 7 = .ok (.aload_n 0, 1) := by decide +kernel
theorem dX3_swap_8 : decode cX3_swap 8 = .ok (.getfield 15, 3) := by decide +kernel
theorem dX3_swap_11 : decode cX3_swap 11 = .ok (.iload_n 1, 1) := by decide +kernel
theorem dX3_swap_12 : decode cX3_swap 12 = .ok (.iaload, 1) := by decide +kernel
theorem dX3_swap_13 : decode cX3_swap 13 = .ok (.istore 4, 2) := by decide +kernel
theorem dX3_swap_15 : decode cX3_swap 15 = .ok (.aload_n 0, 1) := by decide +kernel
theorem dX3_swap_16 : decode cX3_swap 16 = .ok (.getfield 9, 3) := by decide +kernel
theorem dX3_swap_19 : decode cX3_swap 19 = .ok (.iload_n 1, 1) := by decide +kernel
theorem dX3_swap_20 : decode cX3_swap 20 = .ok (.aload_n 0, 1) := by decide +kernel
theorem dX3_swap_21 : decode cX3_swap 21 = .ok (.getfield 9, 3) := by decide +kernel
theorem dX3_swap_24 : decode cX3_swap 24 = .ok (.iload_n 2, 1) := by decide +kernel
theorem dX3_swap_25 : decode cX3_swap 25 = .ok (.iaload, 1) := by decide +kernel
theorem dX3_swap_26 : decode cX3_swap 26 = .ok (.iastore, 1) := by decide +kernel
theorem dX3_swap_27 : decode cX3_swap 27 = .ok (.aload_n 0, 1) := by decide +kernel
theorem dX3_swap_28 : decode cX3_swap 28 = .ok (.getfield 15, 3) := by decide +kernel
theorem dX3_swap_31 : decode cX3_swap 31 = .ok (.iload_n 1, 1) := by decide +kernel
theorem dX3_swap_32 : decode cX3_swap 32 = .ok (.aload_n 0, 1) := by decide +kernel
theorem dX3_swap_33 : decode cX3_swap 33 = .ok (.getfield 15, 3) := by decide +kernel
theorem dX3_swap_36 : decode cX3_swap 36 = .ok (.iload_n 2, 1) := by decide +kernel
theorem dX3_swap_37 : decode cX3_swap 37 = .ok (.iaload, 1) := by decide +kernel
theorem dX3_swap_38 : decode cX3_swap 38 = .ok (.iastore, 1) := by decide +kernel
theorem dX3_swap_39 : decode cX3_swap 39 = .ok (.aload_n 0, 1) := by decide +kernel
theorem dX3_swap_40 : decode cX3_swap 40 = .ok (.getfield 9, 3) := by decide +kernel
theorem dX3_swap_43 : decode cX3_swap 43 = .ok (.iload_n 2, 1) := by decide +kernel
theorem dX3_swap_44 : decode cX3_swap 44 = .ok (.iload_n 3, 1) := by decide +kernel
theorem dX3_swap_45 : decode cX3_swap 45 = .ok (.iastore, 1) := by decide +kernel
theorem dX3_swap_46 : decode cX3_swap 46 = .ok (.aload_n 0, 1) := by decide +kernel
theorem dX3_swap_47 : decode cX3_swap 47 = .ok (.getfield 15, 3) := by decide +kernel
theorem dX3_swap_50 : decode cX3_swap 50 = .ok (.iload_n 2, 1) := by decide +kernel
theorem dX3_swap_51 : decode cX3_swap 51 = .ok (.iload 4, 2) := by decide +kernel
theorem dX3_swap_53 : decode cX3_swap 53 = .ok (.iastore, 1) := by decide +kernel
theorem dX3_swap_54 : decode cX3_swap 54 = .ok (.return_, 1) := by decide +kernel
set_option maxRecDepth 20000 in
theorem ggX3_moveOn_X3_turn : GoodIn wsX3_moveOn wsX3_turn := goodIn_r _ [6, 7, 8, 9, 5, 10, 11, 12, 13, 14, 15] (by decide +kernel) (by decide +kernel)
set_option maxRecDepth 20000 in
theorem gX3_moveOn_X3_turn : GoodIn wsX3_moveOn (wsV RX3 34 RX3 yX3_turn wsX3_turn) := goodIn_app (goodIn_of _ (by decide +kernel)) ggX3_moveOn_X3_turn
theorem dX3_moveOn_0 : decode cX3_moveOn 0 = .ok (.aload_n 0, 1) := by decide +kernel
theorem dX3_moveOn_1 : decode cX3_moveOn 1 = .ok (.getfield 18, 3) := by decide +kernel
theorem dX3_moveOn_4 : decode cX3_moveOn 4 = .ok (.ifCond .le 34, 3) := by decide +kernel
theorem dX3_moveOn_7 : decode cX3_moveOn 7 = .ok (.iload_n 1, 1) := by decide +kernel
theorem dX3_moveOn_8 : decode cX3_moveOn 8 = .ok (.aload_n 0, 1) := by decide +kernel
theorem dX3_moveOn_9 : decode cX3_moveOn 9 = .ok (.getfield 18, 3) := by decide +kernel
theorem dX3_moveOn_12 : decode cX3_moveOn 12 = .ok (.irem, 1) := by decide +kernel
theorem dX3_moveOn_13 : decode cX3_moveOn 13 = .ok (.istore_n 2, 1) := by decide +kernel
theorem dX3_moveOn_14 : decode cX3_moveOn 14 = .ok (.aload_n 0, 1) := by decide +kernel
theorem dX3_moveOn_15 : decode cX3_moveOn 15 = .ok (.iconst 0, 1) := by decide +kernel
theorem dX3_moveOn_16 : decode cX3_moveOn 16 = .ok (.aload_n 0, 1) := by decide +kernel
theorem dX3_moveOn_17 : decode cX3_moveOn 17 = .ok (.getfield 18, 3) := by decide +kernel
theorem dX3_moveOn_20 : decode cX3_moveOn 20 = .ok (.invokevirtual 34, 3) := by decide +kernel
theorem dX3_moveOn_23 : decode cX3_moveOn 23 = .ok (.aload_n 0, 1) := by decide +kernel
theorem dX3_moveOn_24 : decode cX3_moveOn 24 = .ok (.iconst 0, 1) := by decide +kernel
theorem dX3_moveOn_25 : decode cX3_moveOn 25 = .ok (.iload_n 2, 1) := by decide +kernel
theorem dX3_moveOn_26 : decode cX3_moveOn 26 = .ok (.invokevirtual 34, 3) := by decide +kernel
theorem dX3_moveOn_29 : decode cX3_moveOn 29 = .ok (.aload_n 0, 1) := by decide +kernel
theorem dX3_moveOn_30 : decode cX3_moveOn 30 = .ok (.iload_n 2, 1) := by decide +kernel
theorem dX3_moveOn_31 : decode cX3_moveOn 31 = .ok (.aload_n 0, 1) := by decide +kernel
theorem dX3_moveOn_32 : decode cX3_moveOn 32 = .ok (.getfield 18, 3) := by decide +kernel
theorem dX3_moveOn_35 : decode cX3_moveOn 35 = .ok (.invokevirtual 34, 3) := by decide +kernel
theorem dX3_moveOn_38 : decode cX3_moveOn 38 = .ok (.return_, 1) := by decide +kernel
set_option maxRecDepth 20000 in
theorem ggX3_leastPeriod_X3_repeatsAfter : GoodIn wsX3_leastPeriod wsX3_repeatsAfter := goodIn_r _ [6, 1, 7, 8, 9, 10, 11] (by decide +kernel) (by decide +kernel)
set_option maxRecDepth 20000 in
theorem gX3_leastPeriod_X3_repeatsAfter : GoodIn wsX3_leastPeriod (wsV RX3 37 RX3 yX3_repeatsAfter wsX3_repeatsAfter) := goodIn_app (goodIn_of _ (by decide +kernel)) ggX3_leastPeriod_X3_repeatsAfter
theorem dX3_leastPeriod_0 : decode cX3_leastPeriod 0 = .ok (.iconst 1, 1) := by decide +kernel
theorem dX3_leastPeriod_1 : decode cX3_leastPeriod 1 = .ok (.istore_n 1, 1) := by decide +kernel
theorem dX3_leastPeriod_2 : decode cX3_leastPeriod 2 = .ok (.iload_n 1, 1) := by decide +kernel
theorem dX3_leastPeriod_3 : decode cX3_leastPeriod 3 = .ok (.aload_n 0, 1) := by decide +kernel
theorem dX3_leastPeriod_4 : decode cX3_leastPeriod 4 = .ok (.getfield 18, 3) := by decide +kernel
theorem dX3_leastPeriod_7 : decode cX3_leastPeriod 7 = .ok (.if_icmp .ge 19, 3) := by decide +kernel
theorem dX3_leastPeriod_10 : decode cX3_leastPeriod 10 = .ok (.aload_n 0, 1) := by decide +kernel
theorem dX3_leastPeriod_11 : decode cX3_leastPeriod 11 = .ok (.iload_n 1, 1) := by decide +kernel
theorem dX3_leastPeriod_12 : decode cX3_leastPeriod 12 = .ok (.invokevirtual 37, 3) := by decide +kernel
theorem dX3_leastPeriod_15 : decode cX3_leastPeriod 15 = .ok (.ifCond .eq 5, 3) := by decide +kernel
theorem dX3_leastPeriod_18 : decode cX3_leastPeriod 18 = .ok (.iload_n 1, 1) := by decide +kernel
theorem dX3_leastPeriod_19 : decode cX3_leastPeriod 19 = .ok (.ireturn, 1) := by decide +kernel
theorem dX3_leastPeriod_20 : decode cX3_leastPeriod 20 = .ok (.iinc 1 1, 3) := by decide +kernel
theorem dX3_leastPeriod_23 : decode cX3_leastPeriod 23 = .ok (.goto (-21), 3) := by decide +kernel
theorem dX3_leastPeriod_26 : decode cX3_leastPeriod 26 = .ok (.aload_n 0, 1) := by decide +kernel
theorem dX3_leastPeriod_27 : decode cX3_leastPeriod 27 = .ok (.getfield 18, 3) := by decide +kernel
theorem dX3_leastPeriod_30 : decode cX3_leastPeriod 30 = .ok (.ireturn, 1) := by decide +kernel
theorem dX3_repeatsAfter_0 : decode cX3_repeatsAfter 0 = .ok (.iload_n 1, 1) := by decide +kernel
theorem dX3_repeatsAfter_1 : decode cX3_repeatsAfter 1 = .ok (.istore_n 2, 1) := by decide +kernel
theorem dX3_repeatsAfter_2 : decode cX3_repeatsAfter 2 = .ok (.iload_n 2, 1) := by decide +kernel
theorem dX3_repeatsAfter_3 : decode cX3_repeatsAfter 3 = .ok (.aload_n 0, 1) := by decide +kernel
theorem dX3_repeatsAfter_4 : decode cX3_repeatsAfter 4 = .ok (.getfield 18, 3) := by decide +kernel
theorem dX3_repeatsAfter_7 : decode cX3_repeatsAfter 7 = .ok (.if_icmp .ge 45, 3) := by decide +kernel
theorem dX3_repeatsAfter_10 : decode cX3_repeatsAfter 10 = .ok (.iload_n 2, 1) := by decide +kernel
theorem dX3_repeatsAfter_11 : decode cX3_repeatsAfter 11 = .ok (.iload_n 1, 1) := by decide +kernel
theorem dX3_repeatsAfter_12 : decode cX3_repeatsAfter 12 = .ok (.isub, 1) := by decide +kernel
theorem dX3_repeatsAfter_13 : decode cX3_repeatsAfter 13 = .ok (.istore_n 3, 1) := by decide +kernel
theorem dX3_repeatsAfter_14 : decode cX3_repeatsAfter 14 = .ok (.aload_n 0, 1) := by decide +kernel
theorem dX3_repeatsAfter_15 : decode cX3_repeatsAfter 15 = .ok (.getfield 9, 3) := by decide +kernel
theorem dX3_repeatsAfter_18 : decode cX3_repeatsAfter 18 = .ok (.iload_n 2, 1) := by decide +kernel
theorem dX3_repeatsAfter_19 : decode cX3_repeatsAfter 19 = .ok (.iaload, 1) := by decide +kernel
theorem dX3_repeatsAfter_20 : decode cX3_repeatsAfter 20 = .ok (.aload_n 0, 1) := by decide +kernel
theorem dX3_repeatsAfter_21 : decode cX3_repeatsAfter 21 = .ok (.getfield 9, 3) := by decide +kernel
theorem dX3_repeatsAfter_24 : decode cX3_repeatsAfter 24 = .ok (.iload_n 3, 1) := by decide +kernel
theorem dX3_repeatsAfter_25 : decode cX3_repeatsAfter 25 = .ok (.iaload, 1) := by decide +kernel
theorem dX3_repeatsAfter_26 : decode cX3_repeatsAfter 26 = .ok (.if_icmp .ne 18, 3) := by decide +kernel
theorem dX3_repeatsAfter_29 : decode cX3_repeatsAfter 29 = .ok (.aload_n 0, 1) := by decide +kernel
theorem dX3_repeatsAfter_30 : decode cX3_repeatsAfter 30 = .ok (.getfield 15, 3) := by decide +kernel
theorem dX3_repeatsAfter_33 : decode cX3_repeatsAfter 33 = .ok (.iload_n 2, 1) := by decide +kernel
theorem dX3_repeatsAfter_34 : decode cX3_repeatsAfter 34 = .ok (.iaload, 1) := by decide +kernel
theorem dX3_repeatsAfter_35 : decode cX3_repeatsAfter 35 = .ok (.aload_n 0, 1) := by decide +kernel
theorem dX3_repeatsAfter_36 : decode cX3_repeatsAfter 36 = .ok (.getfield 15, 3) := by decide +kernel
theorem dX3_repeatsAfter_39 : decode cX3_repeatsAfter 39 = .ok (.iload_n 3, 1) := by decide +kernel
theorem dX3_repeatsAfter_40 : decode cX3_repeatsAfter 40 = .ok (.iaload, 1) := by decide +kernel
theorem dX3_repeatsAfter_41 : decode cX3_repeatsAfter 41 = .ok (.if_icmp .eq 5, 3) := by decide +kernel
theorem dX3_repeatsAfter_44 : decode cX3_repeatsAfter 44 = .ok (.iconst 0, 1) := by decide +kernel
theorem dX3_repeatsAfter_45 : decode cX3_repeatsAfter 45 = .ok (.ireturn, 1) := by decide +kernel
theorem dX3_repeatsAfter_46 : decode cX3_repeatsAfter 46 = .ok (.iinc 2 1, 3) := by decide +kernel
theorem dX3_repeatsAfter_49 : decode cX3_repeatsAfter 49 = .ok (.goto (-47), 3) := by decide +kernel
theorem dX3_repeatsAfter_52 : decode cX3_repeatsAfter 52 = .ok (.iconst 1, 1) := by decide +kernel
theorem dX3_repeatsAfter_53 : decode cX3_repeatsAfter 53 = .ok (.ireturn, 1) := by decide +kernel
theorem dX3_threadsColoured_0 : decode cX3_threadsColoured 0 = .ok (.iconst 0, 1) := by decide +kernel
theorem dX3_threadsColoured_1 : decode cX3_threadsColoured 1 = .ok (.istore_n 2, 1) := by decide +kernel
theorem dX3_threadsColoured_2 : decode cX3_threadsColoured 2 = .ok (.iconst 0, 1) := by decide +kernel
theorem dX3_threadsColoured_3 : decode cX3_threadsColoured 3 = .ok (.istore_n 3, 1) := by decide +kernel
theorem dX3_threadsColoured_4 : decode cX3_threadsColoured 4 = .ok (.iload_n 3, 1) := by decide +kernel
theorem dX3_threadsColoured_5 : decode cX3_threadsColoured 5 = .ok (.aload_n 0, 1) := by decide +kernel
theorem dX3_threadsColoured_6 : decode cX3_threadsColoured 6 = .ok (.getfield 18, 3) := by decide +kernel
theorem dX3_threadsColoured_9 : decode cX3_threadsColoured 9 = .ok (.if_icmp .ge 22, 3) := by decide +kernel
theorem dX3_threadsColoured_12 : decode cX3_threadsColoured 12 = .ok (.aload_n 0, 1) := by decide +kernel
theorem dX3_threadsColoured_13 : decode cX3_threadsColoured 13 = .ok (.getfield 15, 3) := by decide +kernel
theorem dX3_threadsColoured_16 : decode cX3_threadsColoured 16 = .ok (.iload_n 3, 1) := by decide +kernel
theorem dX3_threadsColoured_17 : decode cX3_threadsColoured 17 = .ok (.iaload, 1) := by decide +kernel
theorem dX3_threadsColoured_18 : decode cX3_threadsColoured 18 = .ok (.iload_n 1, 1) := by decide +kernel
theorem dX3_threadsColoured_19 : decode cX3_threadsColoured 19 = .ok (.if_icmp .ne 6, 3) := by decide +kernel
theorem dX3_threadsColoured_22 : decode cX3_threadsColoured 22 = .ok (.iinc 2 1, 3) := by decide +kernel
theorem dX3_threadsColoured_25 : decode cX3_threadsColoured 25 = .ok (.iinc 3 1, 3) := by decide +kernel
theorem dX3_threadsColoured_28 : decode cX3_threadsColoured 28 = .ok (.goto (-24), 3) := by decide +kernel
theorem dX3_threadsColoured_31 : decode cX3_threadsColoured 31 = .ok (.iload_n 2, 1) := by decide +kernel
theorem dX3_threadsColoured_32 : decode cX3_threadsColoured 32 = .ok (.ireturn, 1) := by decide +kernel
set_option maxRecDepth 20000 in
theorem ggX3_digestFrom_X4_digestWith : GoodIn wsX3_digestFrom wsX4_digestWith := goodIn_r _ [6, 7] (by decide +kernel) (by decide +kernel)
set_option maxRecDepth 20000 in
theorem gX3_digestFrom_X4_digestWith_n41 : GoodIn wsX3_digestFrom (wsX4_digestWith) := ggX3_digestFrom_X4_digestWith
theorem dX3_digestFrom_0 : decode cX3_digestFrom 0 = .ok (.lload_n 1, 1) := by decide +kernel
theorem dX3_digestFrom_1 : decode cX3_digestFrom 1 = .ok (.aload_n 0, 1) := by decide +kernel
theorem dX3_digestFrom_2 : decode cX3_digestFrom 2 = .ok (.getfield 18, 3) := by decide +kernel
theorem dX3_digestFrom_5 : decode cX3_digestFrom 5 = .ok (.i2l, 1) := by decide +kernel
theorem dX3_digestFrom_6 : decode cX3_digestFrom 6 = .ok (.invokestatic 41, 3) := by decide +kernel
theorem dX3_digestFrom_9 : decode cX3_digestFrom 9 = .ok (.lstore_n 3, 1) := by decide +kernel
theorem dX3_digestFrom_10 : decode cX3_digestFrom 10 = .ok (.iconst 0, 1) := by decide +kernel
theorem dX3_digestFrom_11 : decode cX3_digestFrom 11 = .ok (.istore 5, 2) := by decide +kernel
theorem dX3_digestFrom_13 : decode cX3_digestFrom 13 = .ok (.iload 5, 2) := by decide +kernel
theorem dX3_digestFrom_15 : decode cX3_digestFrom 15 = .ok (.aload_n 0, 1) := by decide +kernel
theorem dX3_digestFrom_16 : decode cX3_digestFrom 16 = .ok (.getfield 18, 3) := by decide +kernel
theorem dX3_digestFrom_19 : decode cX3_digestFrom 19 = .ok (.if_icmp .ge 35, 3) := by decide +kernel
theorem dX3_digestFrom_22 : decode cX3_digestFrom 22 = .ok (.lload_n 3, 1) := by decide +kernel
theorem dX3_digestFrom_23 : decode cX3_digestFrom 23 = .ok (.aload_n 0, 1) := by decide +kernel
theorem dX3_digestFrom_24 : decode cX3_digestFrom 24 = .ok (.getfield 9, 3) := by decide +kernel
theorem dX3_digestFrom_27 : decode cX3_digestFrom 27 = .ok (.iload 5, 2) := by decide +kernel
theorem dX3_digestFrom_29 : decode cX3_digestFrom 29 = .ok (.iaload, 1) := by decide +kernel
theorem dX3_digestFrom_30 : decode cX3_digestFrom 30 = .ok (.i2l, 1) := by decide +kernel
theorem dX3_digestFrom_31 : decode cX3_digestFrom 31 = .ok (.invokestatic 41, 3) := by decide +kernel
theorem dX3_digestFrom_34 : decode cX3_digestFrom 34 = .ok (.lstore_n 3, 1) := by decide +kernel
theorem dX3_digestFrom_35 : decode cX3_digestFrom 35 = .ok (.lload_n 3, 1) := by decide +kernel
theorem dX3_digestFrom_36 : decode cX3_digestFrom 36 = .ok (.aload_n 0, 1) := by decide +kernel
theorem dX3_digestFrom_37 : decode cX3_digestFrom 37 = .ok (.getfield 15, 3) := by decide +kernel
theorem dX3_digestFrom_40 : decode cX3_digestFrom 40 = .ok (.iload 5, 2) := by decide +kernel
theorem dX3_digestFrom_42 : decode cX3_digestFrom 42 = .ok (.iaload, 1) := by decide +kernel
theorem dX3_digestFrom_43 : decode cX3_digestFrom 43 = .ok (.i2l, 1) := by decide +kernel
theorem dX3_digestFrom_44 : decode cX3_digestFrom 44 = .ok (.invokestatic 41, 3) := by decide +kernel
theorem dX3_digestFrom_47 : decode cX3_digestFrom 47 = .ok (.lstore_n 3, 1) := by decide +kernel
theorem dX3_digestFrom_48 : decode cX3_digestFrom 48 = .ok (.iinc 5 1, 3) := by decide +kernel
theorem dX3_digestFrom_51 : decode cX3_digestFrom 51 = .ok (.goto (-38), 3) := by decide +kernel
theorem dX3_digestFrom_54 : decode cX3_digestFrom 54 = .ok (.lload_n 3, 1) := by decide +kernel
theorem dX3_digestFrom_55 : decode cX3_digestFrom 55 = .ok (.lreturn, 1) := by decide +kernel
set_option maxRecDepth 20000 in
abbrev vwCl : List vw_C := [(RX0, TX0, 4), (RX1, TX1, 6), (RX2, TX2, 4), (RX3, TX3, 3), (RX4, TX4, 7), (RX5, TX5, 9)]
