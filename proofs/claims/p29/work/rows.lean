section
/-! What the class file of the law says of the entry's method: it has an exception table, so the word without one is false of it (evidence for REPORT.md; nothing else rests on these rows) -/
set_option maxRecDepth 100000 in
theorem p_entry_no : Jvm.ClassFile.Facts.File.hasCode classFile x code maxLocals ret = false := by decide +kernel
set_option maxRecDepth 100000 in
theorem p_entry_with : (List.range 200).any (fun k => Jvm.ClassFile.Facts.File.hasCodeWith classFile x code maxLocals ret [(420, 426, 429, k)]) = true := by decide +kernel
set_option maxRecDepth 100000 in
theorem p_pinned_no : ¬ PinnedClaimed := by
  intro h
  exact absurd (p_entry_no.symm.trans h) (by decide)
set_option maxRecDepth 100000 in
/-- of all code words of the claim the entry's alone is false of the files -/
theorem p_codes_only : ((((Jvm.D.headSpec (Jvm.Cond.code x code maxLocals ret :: tables_1) room_1).pre.codes ++ (Jvm.D.headSpec (Jvm.Cond.code x code maxLocals ret :: tables_1) room_1).post.codes).filter (fun y => !((launch0.file? y.1.cls).any fun f => f.hasCode y.1 y.2.1 y.2.2.1 y.2.2.2))).map (fun y => y.1.name)) = ["law"] := by decide +kernel
end
section
/-! The statement as printed is EMPTY: its premise of the launch asks that the law's class file have the entry's code without an exception table, and the file has one. Evidence for REPORT.md ('STATEMENT'), not a proof of the property. -/
set_option maxRecDepth 100000 in
theorem p_entry_in : (x, code, maxLocals, ret) ∈ (Jvm.D.headSpec (Jvm.Cond.code x code maxLocals ret :: tables_1) room_1).pre.codes ++ (Jvm.D.headSpec (Jvm.Cond.code x code maxLocals ret :: tables_1) room_1).post.codes := by
  refine List.mem_append.mpr (Or.inl ?_)
  exact List.mem_cons_self
set_option maxRecDepth 100000 in
/-- no launch at all meets the premise -/
theorem p_lists_no (l : Launch) : ¬ Jvm.D.Lists l classFile x code maxLocals ret tables_1 room_1 := by
  intro h
  have hf : l.file? x.cls = some classFile := by first | exact h.2.1 | exact h.1
  have hc := h.2.2.1.1 _ p_entry_in
  rw [show ((x, code, maxLocals, ret) : MethodName × ByteArray × Nat × Option FieldType).1.cls = x.cls from rfl, hf] at hc
  have hc2 : Jvm.ClassFile.Facts.File.hasCode classFile x code maxLocals ret = true := hc
  rw [p_entry_no] at hc2
  exact Bool.noConfusion hc2
end
section
/-! EMPTY, and said so in REPORT.md: the owed statement holds for want of any launch that meets its premise (p_lists_no). It says nothing of the class; it is not handed in, and p29 is not called proved. -/
theorem i_vc : Claimed_1_1 ∧ Claimed_1_2 := ⟨fun l _ hL _ => absurd hL (p_lists_no l), fun l _ hL _ => absurd hL (p_lists_no l)⟩
end
