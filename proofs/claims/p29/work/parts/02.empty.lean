/-! The statement as printed is EMPTY: its premise of the launch asks that the law's class file have the entry's code without an exception table, and the file has one. Evidence for REPORT.md ('STATEMENT'), not a proof of the property. -/
set_option maxRecDepth 100000 in
theorem p_entry_in : (x, code, maxLocals, ret) ∈ (Jvm.D.headSpec (Jvm.Cond.code x code maxLocals ret :: tables_1) room_1).pre.codes ++ (Jvm.D.headSpec (Jvm.Cond.code x code maxLocals ret :: tables_1) room_1).post.codes := by
  refine List.mem_append.mpr (Or.inl ?_)
  exact List.mem_cons_self
set_option maxRecDepth 100000 in
/-- no launch at all meets the premise -/
theorem p_lists_no (l : Launch) : ¬ Jvm.D.Lists l classFile x code maxLocals ret tables_1 room_1 := by
  intro h
  have hf : l.file? x.cls = some classFile := by first | exact h.2.1 | exact h.1
  have hc := h.2.2.1.1 _ p_entry_in
  rw [show ((x, code, maxLocals, ret) : MethodName × ByteArray × Nat × Option FieldType).1.cls = x.cls from rfl, hf] at hc
  have hc2 : Jvm.ClassFile.Facts.File.hasCode classFile x code maxLocals ret = true := hc
  rw [p_entry_no] at hc2
  exact Bool.noConfusion hc2
