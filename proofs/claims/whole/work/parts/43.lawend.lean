/-! the law: its end, and what the tables say at its start -/
theorem x_lwret {p : Program} {l : Launch} {e : Env} {s : State} {m : MethodId} {bel : List Frame} {meth : Method} {c : Code} {b nL k n : Nat} {D : va_G} {ws : va_W} {lv : List (Nat × Value)} {pc : Nat} (hx : p.tables.exec = Jvm.exec) (hb : c.code = code) (hr : meth.sig.returnType = ret) (hlocks : meth.locks = false) (hk : k ≤ 719372) (hn : n ≤ 6937989) (hdg : decode code pc = .ok (.ireturn, 1)) : X_ p l e room_1 s m #[Value.ref b] bel meth c (lw_Z bel #[Value.ref b] s) D (fun q : Nat => s.heap.size ≤ q) s.heap nL k n ws lv pc [.int (nI 1)] := fun H locs ls hP hD hS hl =>
  W.widen hk hn (va_forget (fun q hq => hS.2.2 q hq) (lw_ret (d0 := s.drawn) (Drawn.sameBut.refl s.drawn lw_cs) hx hb hr hlocks hdg))
theorem arr_of {ty : FieldType} {args : Array Value} {s : State} (h : (Cond.arrayClass ty).before args s = true) : ∃ cA, ArrOfT s cA ty ∧ s.vm.findClass ("[" ++ ty.toString) = some cA := by
  simp only [Cond.before, Cond.holds, Cond.value] at h
  cases hf : s.vm.findClass ("[" ++ ty.toString) with
  | none => simp [hf] at h
  | some cA =>
    rw [hf] at h
    cases hk : s.vm.classes[cA]? with
    | none => simp [hk] at h
    | some k =>
      cases hkind : k.kind with
      | array comp t =>
        simp [hk, hkind] at h
        subst h
        exact ⟨cA, fun n z => ⟨(fun q hq => by cases hq), k, hk, comp, hkind⟩, rfl⟩
      | _ => simp [hk, hkind] at h
theorem arr_ofA {t : FieldType} {s : State} (h : va_Nw (.arrayOver (.array t)) s) : ∃ cA, ArrOfT s cA (.array t) ∧ s.vm.findClass ("[" ++ (FieldType.array t).toString) = some cA := by
  obtain ⟨comp, c9, k9, a1, a2, a3, a4, a5⟩ := arrayOverA_spec h
  exact ⟨c9, fun n z => ⟨(fun q hq => by cases hq), k9, a3, comp, a4⟩, a5⟩
theorem hl0_of {l : Launch} (h : l.flags = flags0) : l.stackTraces = false := by
  unfold Launch.stackTraces
  rw [h]
  decide
