/-! What the class file of the law says of the entry's method: it has an exception table, so the word without one is false of it (evidence for REPORT.md; nothing else rests on these rows) -/
set_option maxRecDepth 100000 in
theorem p_entry_no : Jvm.ClassFile.Facts.File.hasCode classFile x code maxLocals ret = false := by decide +kernel
set_option maxRecDepth 100000 in
theorem p_entry_with : (List.range 200).any (fun k => Jvm.ClassFile.Facts.File.hasCodeWith classFile x code maxLocals ret [(420, 426, 429, k)]) = true := by decide +kernel
set_option maxRecDepth 100000 in
theorem p_pinned_no : ¬ PinnedClaimed := by
  intro h
  exact absurd (p_entry_no.symm.trans h) (by decide)
set_option maxRecDepth 100000 in
/-- of all code words of the claim the entry's alone is false of the files -/
theorem p_codes_only : ((((Jvm.D.headSpec (Jvm.Cond.code x code maxLocals ret :: tables_1) room_1).pre.codes ++ (Jvm.D.headSpec (Jvm.Cond.code x code maxLocals ret :: tables_1) room_1).post.codes).filter (fun y => !((launch0.file? y.1.cls).any fun f => f.hasCode y.1 y.2.1 y.2.2.1 y.2.2.2))).map (fun y => y.1.name)) = ["law"] := by decide +kernel
