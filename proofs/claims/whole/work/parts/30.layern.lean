/-! the layer, fifth part: long[][] and int[][], worlds with a tail -/
theorem sel_left {X T : va_W} {k : Nat} {q : Nat × va_E} (h : X[k]? = some q) : (X ++ T)[k]? = some q := by
  rw [List.getElem?_append_left (List.getElem?_eq_some_iff.mp h).1]; exact h
theorem sel_right {X T : va_W} {k : Nat} {q : Nat × va_E} (h : T[k]? = some q) : (X ++ T)[X.length + k]? = some q := by
  rw [List.getElem?_append_right (by omega), Nat.add_sub_cancel_left]; exact h
theorem sel_get {X X' : va_W} {is : List Nat} (hs : is.map (fun i => X[i]?) = X'.map some) {k : Nat} {q : Nat × va_E} (h : X'[k]? = some q) : ∃ i : Nat, X[i]? = some q := by
  have h1 : (is.map (fun i => X[i]?))[k]? = some (some q) := by rw [hs, List.getElem?_map, h]; rfl
  rw [List.getElem?_map] at h1
  cases hi : is[k]? with
  | none => rw [hi] at h1; cases h1
  | some i => rw [hi] at h1; exact ⟨i, Option.some.inj h1⟩
theorem selP {D : va_G} {cl : List vw_C} {X X' T : va_W} {H : Heap} (h : va_P D cl (X ++ T) H) {is : List Nat} (hs : is.map (fun i => X[i]?) = X'.map some) : va_P D cl (X' ++ T) H := by
  intro k q hq
  rcases List.mem_append.mp (List.mem_of_getElem? hq) with h1 | h1
  · obtain ⟨j, hj⟩ := List.getElem?_of_mem h1
    obtain ⟨i, hi⟩ := sel_get hs hj
    exact h i q (sel_left hi)
  · obtain ⟨j, hj⟩ := List.getElem?_of_mem h1
    exact h _ q (sel_right hj)
theorem selD {A : Nat → Prop} {X X' T : va_W} (h : va_D A (X ++ T)) {is : List Nat} (hn : va_nd is = true) (hs : is.map (fun i => X[i]?) = X'.map some) : va_D A (X' ++ T) := by
  have hX : va_D A X := ⟨fun i j a b hi hj e => h.1 i j a b (sel_left hi) (sel_left hj) e, fun k q hk => h.2 k q (sel_left hk)⟩
  have hT : va_D A T := ⟨fun i j a b hi hj e => by
    have := h.1 _ _ a b (sel_right hi) (sel_right hj) e
    omega, fun k q hk => h.2 _ q (sel_right hk)⟩
  refine va_D.app (hX.sub is hn hs) hT (fun i j a b hi hj e => ?_)
  obtain ⟨i2, hi2⟩ := sel_get hs hi
  have := h.1 _ _ a b (sel_left hi2) (sel_right hj) e
  have hlt := (List.getElem?_eq_some_iff.mp hi2).1
  omega
theorem ao_int : (FieldType.array .int).toString = "[I" := by decide +kernel
theorem ao_long : (FieldType.array .long).toString = "[J" := by decide +kernel
theorem vr_outer (c : ClassId) (N h0 : Nat) : ∀ i : Nat, Jvm.Free.Multi.outerC c N h0 i = arrV c N (fun j => va_rf (if j < i then some (h0 + 1 + j) else none))
  | 0 => by
    show ({ cls := c, slots := Array.replicate N .null, vm := .none } : Cell) = _
    rw [arrV_new]
    refine congrArg (arrV c N) (funext fun j => ?_)
    simp [va_rf]
  | i + 1 => by
    show (Jvm.Free.Multi.outerC c N h0 i).setSlot i (.ref (h0 + 1 + i)) = _
    rw [vr_outer c N h0 i, arrV_store]
    refine congrArg (arrV c N) (funext fun j => ?_)
    by_cases e : j = i
    · subst e
      simp [updV, va_rf]
    · by_cases h : j < i
      · simp [updV, e, h, Nat.lt_succ_of_lt h]
      · simp [updV, e, h, show ¬ j < i + 1 by omega]
section XL5
variable {p : Program} {l : Launch} {e : Env} {R : Room} {s : State} {m : MethodId} {args : Array Value} {below : List Frame} {meth : Method} {c : Code} {Q : State → Prop}
variable {D : va_G} {tys : List (ClassId × FieldType)} {A : Nat → Prop} {H0 : Heap} {nL k n : Nat} {ws : va_W} {lv : List (Nat × Value)} {pc : Nat} {st : List Value} {cc : ByteArray} {Ts : List Cond} {own : String}
/-- a call whose answer is an array, in a world with a tail that the callee doesn't see -/
theorem x_callr_t {X T : va_W} {S : Type} {post : S → Prop} {w1 : S → Nat → va_W} {wc : va_W} {mc ms : Nat} {stk : List Value} {a : Array Value} (hr : XRun p l e R s m args below meth c D nL k n (X ++ T) lv pc stk st mc ms (fun sz => va_Qr post (fun u a t => Bo D tys (va_A wc sz) (w1 u a) t) (va_A wc sz) a) (fun sz => va_A wc sz)) (hA : ∀ q, H0.size ≤ q → A q) (isC : List Nat) (hC : isC.map (fun i => X[i]?) = wc.map some) (hC2 : isC.map (fun i => (X ++ T)[i]?) = wc.map some) (isR : List Nat) (wr : va_W) (hR : isR.map (fun i => X[i]?) = wr.map some) (hnr : va_nd isR = true) (hdis : ∀ i ∈ isR, i ∉ isC) (isP : List Nat) (hnp : va_nd isP = true) {wf : S → Nat → va_W} (hPm : ∀ u a, isP.map (fun i => (wr ++ w1 u a)[i]?) = (wf u a).map some) (K : ∀ (u : S) (a : Nat), post u → X_ p l e R s m args below meth c Q D A H0 nL (k + mc) (n + ms) (wf u a ++ T) lv (pc + 3) (.ref a :: st)) : X_ p l e R s m args below meth c Q D A H0 nL k n (X ++ T) lv pc stk := fun H locs ls hP hD hS hl => by
  have hFc := va_free (wc := wc) hD hS hA isC hC2
  refine va_callr (hr H locs ls hP (hD.weaken (fun _ _ _ _ => trivial)) hl) hS (fun q _ h => hFc q h) hFc (fun u ra t H1 locs1 ht hvm hw hB hz1 hk1 hS1 => ?_)
  obtain ⟨hP1, hK1, hD1⟩ := hB
  rw [ht] at hP1
  obtain ⟨hP2, hD2⟩ := va_joinQ (pl := T) (wr := wr) (w1 := w1 u ra) hP hD isC isR hC hR hnr hdis hk1 hFc hP1 hD1
  exact K u ra hw H1 locs1 ls (selP hP2 (hPm u ra)) (selD hD2 hnp (hPm u ra)) hS1 hl
/-- a call that only reads -/
theorem x_calli_ro {S : Type} {post : Int32 → S → Prop} {w1 : S → va_W} {wc : va_W} {mc ms : Nat} {stk : List Value} {a : Array Value} (hr : XRun p l e R s m args below meth c D nL k n ws lv pc stk st mc ms (fun sz => va_Qi post (fun u t => Bo D tys (va_A wc sz) (w1 u) t) (va_A wc sz) a) (fun sz => va_A wc sz)) (hA : ∀ q, H0.size ≤ q → A q) (hw1 : ∀ u, w1 u = wc) (isC : List Nat) (hC : isC.map (fun i => ws[i]?) = wc.map some) (K : ∀ (r : Int32) (u : S), post r u → X_ p l e R s m args below meth c Q D A H0 nL (k + mc) (n + ms) ws lv (pc + 3) (.int r :: st)) : X_ p l e R s m args below meth c Q D A H0 nL k n ws lv pc stk := fun H locs ls hP hD hS hl => by
  have hFc := va_free (wc := wc) hD hS hA isC hC
  refine va_calli (hr H locs ls hP (hD.weaken (fun _ _ _ _ => trivial)) hl) hS (fun q _ h => hFc q h) hFc (fun r u t H1 locs1 ht hvm hw hB hz1 hk1 hS1 => ?_)
  obtain ⟨hP1, hK1, hD1⟩ := hB
  rw [ht, hw1 u] at hP1
  refine K r u hw H1 locs1 ls (fun z q hz => ?_) hD hS1 hl
  by_cases hzc : ∃ (j : Nat) (b : Nat × va_E), wc[j]? = some b ∧ b.1 = q.1
  · obtain ⟨j, b, hj, he⟩ := hzc
    have h1 : (isC.map (fun i => ws[i]?))[j]? = some (some b) := by rw [hC, List.getElem?_map, hj]; rfl
    rw [List.getElem?_map] at h1
    cases hi : isC[j]? with
    | none => rw [hi] at h1; cases h1
    | some i =>
      rw [hi] at h1
      have h2 : ws[i]? = some b := Option.some.inj h1
      have e1 := hD.1 i z b q h2 hz he
      subst e1
      rw [h2] at hz
      cases hz
      exact hP1 j _ hj
  · have hlt := (hP z q hz).lt
    refine (hP z q hz).kept (hk1 q.1 hlt (fun w => ?_))
    rcases w with ⟨j, e9, hj⟩ | hge
    · exact hzc ⟨j, (q.1, e9), hj, rfl⟩
    · omega
theorem x_newqL (C : CallFix p m c cc nL s args Ts own) (hK : va_K D vwCl tys s) (hNW : NW s) (hA : ∀ q, H0.size ≤ q → A q) {ix : Nat} (hclink : Cond.classLink own ix "[J" ∈ Ts) {nn : Nat} {cB : ClassId} (t0 : Nat) (ht : tys[t0]? = some (cB, .array .long)) (hnn : nn < 2 ^ 20) (hcells : k + 1 ≤ R.cells) (hslots : n + nn ≤ R.slots) (hdg : decode cc pc = .ok (.anewarray ix, 3)) (K : ∀ q : Nat, X_ p l e R s m args below meth c Q D A H0 nL (k + 1) (n + nn) (ws ++ [(q, .inl (cB, nn, .inr (.inr (.inr (.inr (fun _ => none))))))]) lv (pc + 3) (.ref q :: st)) : X_ p l e R s m args below meth c Q D A H0 nL k n ws lv pc (.int (nI nn) :: st) := fun H locs ls hP hD hS hl => by
  have hlt : nn < 2 ^ 31 := Nat.lt_trans hnn (by decide)
  have hcl := nI_clamp hlt
  refine W.anewA (t := .long) C.1 C.2.1 C.2.2.2.1 (by rw [ao_long]; exact C.2.2.2.2 _ hclink) (hNW.use 54 rfl) rfl hdg rfl (nI_pos hlt) (by rw [hcl]; have : nn ≤ 1048576 := Nat.le_of_lt hnn; omega) hcells (by rw [hcl]; exact hslots) fun cA kA comp f1 f2 f3 f4 => ?_
  rw [hcl]
  have e1 : cA = cB := Option.some.inj (f1.symm.trans (hK.2 t0 _ ht).2)
  subst e1
  generalize hH1 : H.push ({ cls := cA, slots := Array.replicate nn .null, vm := .none } : Cell) = H1
  have z1 : H1.size = H.size + 1 := by rw [← hH1, Array.size_push]
  have e1 : H1[H.size]? = some (arrV cA nn (fun _ => .null)) := by rw [← hH1, Array.getElem?_push_size, ← arrV_new]
  have o1 : ∀ q : Nat, q < H.size → H1[q]? = H[q]? := fun q hq => by rw [← hH1, Array.getElem?_push, if_neg (Nat.ne_of_lt hq)]
  have hk : ∀ (k : Nat) (x : Nat × va_E), ws[k]? = some x → H1[x.1]? = H[x.1]? := fun k x hx => o1 x.1 ((hP k x hx).lt)
  refine K H.size H1 locs ls ((hP.kept hk).app (fun k x hx => ?_)) (hD.push hP rfl (hA _ hS.1)) ⟨Nat.le_trans hS.1 (by omega), fun x h1 h2 => (o1 x (Nat.lt_of_lt_of_le h1 hS.1)).trans (hS.2.1 x h1 h2), hS.2.2⟩ hl
  have hz : k < 1 := (List.getElem?_eq_some_iff.mp hx).1
  rw [show k = 0 by omega] at hx
  cases hx
  show H1[H.size]? = some (vp_cell _ _)
  rw [vp_cell_q]
  exact e1
theorem x_aastL (C : CallFix p m c cc nL s args Ts own) (hK : va_K D vwCl tys s) (hNW : NW s) (q0 qk t0 t1 : Nat) {a v i nn n1 : Nat} {cB cJ : ClassId} {f : Nat → Option Nat} {g : Nat → Int64} (ha : ws[q0]? = some (a, .inl (cB, nn, .inr (.inr (.inr (.inr f)))))) (ht : tys[t0]? = some (cB, .array .long)) (hv : ws[qk]? = some (v, .inl (cJ, n1, .inr (.inl g)))) (ht1 : tys[t1]? = some (cJ, .long)) (hin : i < nn) (hnn : nn < 2 ^ 31) (hdg : decode cc pc = .ok (.aastore, 1)) (ws' : va_W) (hws : ws.set q0 (a, .inl (cB, nn, .inr (.inr (.inr (.inr (va_up f i (some v))))))) = ws') (K : X_ p l e R s m args below meth c Q D A H0 nL k n ws' lv (pc + 1) st) : X_ p l e R s m args below meth c Q D A H0 nL k n ws lv pc (.ref v :: .int (nI i) :: .ref a :: st) := fun H locs ls hP hD hS hl => by
  subst hws
  have h1 := xcl hin hnn
  obtain ⟨comp, c9, k9, a1, a2, a3, a4, a5⟩ := arrayOverA_spec (hNW.use (args := #[]) 54 rfl)
  have ec : comp = cJ := Option.some.inj ((ao_long ▸ a1 : s.vm.findClass "[J" = some comp).symm.trans ((hK.2 t1 _ ht1).2))
  have eb : c9 = cB := Option.some.inj (a5.symm.trans (hK.2 t0 _ ht).2)
  subst ec
  subst eb
  obtain ⟨-, kv, hkv, cm, hkind⟩ := (hK.2 t1 _ ht1).1 0 (fun _ => .null)
  have hkv' : s.vm.classes[comp]? = some kv := hkv
  refine W.aast (k := k9) (kv := kv) (kcomp := kv) (comp := comp) (t := .array .long) C.1 C.2.1 (hP q0 _ ha) (fun q h => by cases h) (fun h => by cases h) a3 a4 rfl hkv' ⟨fun q => h1.1 (Or.inl q), by show _ < (arrV _ _ _).slots.size; rw [arrV_size, h1.2]; exact hin⟩ (hP qk _ hv) (fun q h => by cases h) hkv' (ao_assign hkv' hkind) rfl rfl hdg fun H1 e z oq => ?_
  refine K H1 _ ls (hP.set hD ha ?_ oq) (hD.set ha) (hS.put z oq (hD.2 q0 _ ha)) hl
  show H1[a]? = some (vp_cell _ _)
  rw [e]
  rw [vp_cell_q, vp_cell_q, arrV_store, h1.2]
  congr 2
  funext q
  by_cases hq : q = i
  · subst hq
    simp [updV, va_up, va_rf]
  · simp [updV, va_up, hq]
/-- new int[n0][n1] -/
theorem x_mna (C : CallFix p m c cc nL s args Ts own) (hK : va_K D vwCl tys s) (hNW : NW s) (hA : ∀ q, H0.size ≤ q → A q) {ix : Nat} (hclink : Cond.classLink own ix "[[I" ∈ Ts) (harr : Cond.arrayClass .int ∈ Ts) {cI cA : ClassId} (t0 t1 : Nat) (ht : tys[t0]? = some (cI, .int)) (ht1 : tys[t1]? = some (cA, .array .int)) (hcells : k + 3 ≤ R.cells) (hslots : n + 82 ≤ R.slots) (hdg : decode cc pc = .ok (.multianewarray ix 2, 4)) (K : ∀ q r0 r1 : Nat, X_ p l e R s m args below meth c Q D A H0 nL (k + 3) (n + 82) (ws ++ [(q, .inl (cA, 2, .inr (.inr (.inr (.inr (gr2 r0 r1)))))), (r0, .inl (cI, 40, .inl (fun _ => 0))), (r1, .inl (cI, 40, .inl (fun _ => 0)))]) lv (pc + 4) (.ref q :: st)) : X_ p l e R s m args below meth c Q D A H0 nL k n ws lv pc (.int (nI 40) :: .int (nI 2) :: st) := fun H locs ls hP hD hS hl => by
  intro T hT Xs
  have h40 : (nI 40).toNatClampNeg = 40 := nI_clamp (by decide)
  have h2 : (nI 2).toNatClampNeg = 2 := nI_clamp (by decide)
  obtain ⟨vm₁, cA', comp, -, fA, fC, hO, -, X', step⟩ := Xs.multianewarray2F (ty := .int) C.1 C.2.2.2.1 (by rw [ao_int]; exact C.2.2.2.2 _ hclink) (hNW.use 53 rfl) (C.2.2.2.2 _ harr) (g := F0 m pc ls (.int (nI 40) :: .int (nI 2) :: st)) rfl (by rw [C.2.1]; exact hdg) rfl (nI_pos (by decide)) (nI_pos (by decide)) (by rw [h2]; decide) (by rw [h40]; decide) (by rw [h40]; decide) rfl rfl (by rw [h2]; exact hcells) (by rw [h2, h40]; exact hslots)
  rw [h2, h40] at X' step
  have ec : some cI = some comp := ((hK.2 t0 _ ht).2).symm.trans fC
  cases ec
  have ea : some cA = some cA' := ((hK.2 t1 _ ht1).2).symm.trans fA
  cases ea
  generalize hF : Jvm.Free.Multi.fill (T.setVm vm₁) cA cI 2 40 (defaultValue .int) 2 = F at X' step
  have hTh : (T.setVm vm₁).heap = H := hT
  obtain ⟨f1, f2, -, -⟩ := Jvm.Free.Multi.fill_facts (T.setVm vm₁) cA cI 2 40 (defaultValue .int) 2
  rw [hF, hTh] at f1 f2
  have hold : ∀ x : Nat, x < H.size → F.heap[x]? = H[x]? := fun x hx => by
    have := Jvm.Free.Multi.fill_old (T.setVm vm₁) cA cI 2 40 (defaultValue .int) (a := x) (by rw [hTh]; exact hx) 2
    rw [hF, hTh] at this
    exact this
  have hrow : ∀ j : Nat, j < 2 → F.heap[H.size + 1 + j]? = some (vp_cell cI (40, .inl (fun _ => 0))) := fun j hj => by
    have := Jvm.Free.Multi.fill_inner (T.setVm vm₁) cA cI 2 40 (defaultValue .int) 2 j hj
    rw [hF, hTh] at this
    rw [this, vp_cell_i, ← arrV_new]
    rfl
  have hout : Jvm.Free.Multi.outerC cA 2 H.size 2 = vp_cell cA (2, .inr (.inr (.inr (.inr (gr2 (H.size + 1) (H.size + 2)))))) := by
    rw [vp_cell_q, vr_outer cA 2 H.size 2]
    refine congrArg (arrV cA 2) (funext fun j => ?_)
    match j with
    | 0 => rfl
    | 1 => rfl
    | j + 2 => rfl
  rw [hout] at f2
  have h0 := hrow 0 (by decide)
  have h1 := hrow 1 (by decide)
  have hP2 : va_P D vwCl (ws ++ [(H.size, .inl (cA, 2, .inr (.inr (.inr (.inr (gr2 (H.size + 1) (H.size + 2))))))), (H.size + 1, .inl (cI, 40, .inl (fun _ => 0))), (H.size + 2, .inl (cI, 40, .inl (fun _ => 0)))]) F.heap := (hP.kept (fun k9 x hx => hold x.1 ((hP k9 x hx).lt))).app (fun k9 x hx => by
    match k9 with
    | 0 => cases hx; exact f2
    | 1 => cases hx; exact h0
    | 2 => cases hx; exact h1
    | k9 + 3 => cases hx)
  have hD2 : va_D A (ws ++ [(H.size, .inl (cA, 2, .inr (.inr (.inr (.inr (gr2 (H.size + 1) (H.size + 2))))))), (H.size + 1, .inl (cI, 40, .inl (fun _ => 0))), (H.size + 2, .inl (cI, 40, .inl (fun _ => 0)))]) := by
    refine va_D.app hD ⟨fun i j x y hi hj e => ?_, fun k9 x hx => ?_⟩ (fun i j x y hi hj e => ?_)
    · match i, j with
      | 0, 0 => rfl
      | 1, 1 => rfl
      | 2, 2 => rfl
      | 0, 1 => cases hi; cases hj; exact absurd e (by show ¬ H.size = H.size + 1; omega)
      | 0, 2 => cases hi; cases hj; exact absurd e (by show ¬ H.size = H.size + 2; omega)
      | 1, 0 => cases hi; cases hj; exact absurd e (by show ¬ H.size + 1 = H.size; omega)
      | 1, 2 => cases hi; cases hj; exact absurd e (by show ¬ H.size + 1 = H.size + 2; omega)
      | 2, 0 => cases hi; cases hj; exact absurd e (by show ¬ H.size + 2 = H.size; omega)
      | 2, 1 => cases hi; cases hj; exact absurd e (by show ¬ H.size + 2 = H.size + 1; omega)
      | i + 3, _ => cases hi
      | _, j + 3 => cases hj
    · match k9 with
      | 0 => cases hx; exact hA _ hS.1
      | 1 => cases hx; exact hA _ (by have := hS.1; show H0.size ≤ H.size + 1; omega)
      | 2 => cases hx; exact hA _ (by have := hS.1; show H0.size ≤ H.size + 2; omega)
      | k9 + 3 => cases hx
    · have hlt := (hP i x hi).lt
      match j with
      | 0 => cases hj; exact absurd hlt (by rw [e]; exact Nat.lt_irrefl _)
      | 1 => cases hj; exact absurd hlt (by rw [e]; show ¬ H.size + 1 < H.size; omega)
      | 2 => cases hj; exact absurd hlt (by rw [e]; show ¬ H.size + 2 < H.size; omega)
      | j + 3 => cases hj
  obtain ⟨t, a1, b1⟩ := K H.size (H.size + 1) (H.size + 2) F.heap locs ls hP2 hD2 ⟨by rw [f1]; have := hS.1; omega, fun x h1 h2 => (hold x (Nat.lt_of_lt_of_le h1 hS.1)).trans (hS.2.1 x h1 h2), hS.2.2⟩ hl F rfl X'
  refine ⟨t, step t ?_, b1⟩
  have e : T.heap.size = H.size := by rw [hT]
  rw [e]
  exact a1
end XL5
