/-! the layer, fourth part: arrays over arrays, System.arraycopy -/
theorem ao_assign {s : State} {cJ : ClassId} {kv : Class} {comp : ClassId} (hkv : s.vm.classes[cJ]? = some kv) (hkind : kv.kind = .array comp .long) : s.vm.assignable cJ cJ = true := by
  unfold Vm.assignable
  unfold Vm.assignableAux
  simp only [hkv, hkind]
  simp
theorem cpy0 {f g : Nat → Int64} {z : Nat} (hz : z < 2 ^ 31) : va_cpy f g (nI 0).toNatClampNeg (nI 0).toNatClampNeg (nI z).toNatClampNeg = fun k => if k < z then f k else g k := by
  rw [nI_clamp hz, nI_clamp (by decide : 0 < 2 ^ 31)]
  funext k
  unfold va_cpy
  by_cases h : k < z
  · rw [if_pos (by omega), if_pos h]; congr 1; omega
  · rw [if_neg (by omega), if_neg h]
section XL4
variable {p : Program} {l : Launch} {e : Env} {R : Room} {s : State} {m : MethodId} {args : Array Value} {below : List Frame} {meth : Method} {c : Code} {Q : State → Prop}
variable {D : va_G} {tys : List (ClassId × FieldType)} {A : Nat → Prop} {H0 : Heap} {nL k n : Nat} {ws : va_W} {lv : List (Nat × Value)} {pc : Nat} {st : List Value} {cc : ByteArray} {Ts : List Cond} {own : String}
theorem x_copyl (C : CallFix p m c cc nL s args Ts own) (hK : va_K D vwCl tys s) {ix : Nat} (hlink : Cond.methodLink own ix arraycopyName ∈ Ts) (hnat : Cond.native arraycopyName ∈ Ts) (hstat : Cond.static arraycopyName ∈ Ts) (hini : Cond.initialized "java/lang/System" ∈ Ts) (q0 q1 t0 : Nat) {a0 a n0 n1 z : Nat} {cJ : ClassId} {f g : Nat → Int64} (ha0 : ws[q0]? = some (a0, .inl (cJ, n0, .inr (.inl f)))) (ha1 : ws[q1]? = some (a, .inl (cJ, n1, .inr (.inl g)))) (ht : tys[t0]? = some (cJ, .long)) (h4 : z ≤ n0) (h5 : z ≤ n1) (hz : z < 2 ^ 31) (hframes : 1 ≤ R.frames) (hlocals : (st.map fun v => v.category).sum + (nativeFrameWords "java/lang/System" "arraycopy" 5 + 11) ≤ R.locals) (hdg : decode cc pc = .ok (.invokestatic ix, 3)) (ws' : va_W) (hws : ws.set q1 (a, .inl (cJ, n1, .inr (.inl (fun k => if k < z then f k else g k)))) = ws') (K : X_ p l e R s m args below meth c Q D A H0 nL k n ws' lv (pc + 3) st) : X_ p l e R s m args below meth c Q D A H0 nL k n ws lv pc (.int (nI z) :: .int (nI 0) :: .ref a :: .int (nI 0) :: .ref a0 :: st) := fun H locs ls hP hD hS hl => by
  subst hws
  have hz0 : (0 : Nat) < 2 ^ 31 := by decide
  have hc := nI_clamp hz
  have hc0 := nI_clamp hz0
  refine va_copyl C.1 C.2.1 (by rw [hl.1]; exact C.2.2.1) C.2.2.2.1 (C.2.2.2.2 _ hlink) (C.2.2.2.2 _ hnat) (C.2.2.2.2 _ hstat) (C.2.2.2.2 _ hini) hK hP hD hS q0 q1 t0 t0 ha0 ha1 ht ht rfl (nI_pos hz0) (nI_pos hz0) (nI_pos hz) (by rw [hc, hc0]; omega) (by rw [hc, hc0]; omega) (fun i _ => rfl) hframes hlocals hdg (fun H1 locs1 hP1 hD1 hS1 => ?_)
  rw [cpy0 hz] at hP1 hD1
  exact K H1 locs1 ls hP1 hD1 hS1 hl
end XL4
