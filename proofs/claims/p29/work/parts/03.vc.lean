/-! EMPTY, and said so in REPORT.md: the owed statement holds for want of any launch that meets its premise (p_lists_no). It says nothing of the class; it is not handed in, and p29 is not called proved. -/
theorem i_vc : Claimed_1_1 ∧ Claimed_1_2 := ⟨fun l _ hL _ => absurd hL (p_lists_no l), fun l _ hL _ => absurd hL (p_lists_no l)⟩
