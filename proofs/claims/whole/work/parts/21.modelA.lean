/-! the reference, first part -/
theorem in_X5_thrown_X5 : ∀ w ∈ wsX50, w ∈ wsX5_thrown := by decide +kernel
theorem in_X5_fail_X5 : ∀ w ∈ wsX50, w ∈ wsX5_fail := by decide +kernel
theorem in_X5_add_X5 : ∀ w ∈ wsX50, w ∈ wsX5_add := by decide +kernel
theorem in_X5_thread_X5 : ∀ w ∈ wsX50, w ∈ wsX5_thread := by decide +kernel
theorem in_X5_tread_X5 : ∀ w ∈ wsX50, w ∈ wsX5_tread := by decide +kernel
theorem in_X5_tie_X5 : ∀ w ∈ wsX50, w ∈ wsX5_tie := by decide +kernel
theorem in_X5_setRising_X5 : ∀ w ∈ wsX50, w ∈ wsX5_setRising := by decide +kernel
theorem in_X5_count_X5 : ∀ w ∈ wsX50, w ∈ wsX5_count := by decide +kernel
theorem in_X5_end_X5 : ∀ w ∈ wsX50, w ∈ wsX5_end := by decide +kernel
theorem in_X5_moved_X5 : ∀ w ∈ wsX50, w ∈ wsX5_moved := by decide +kernel
theorem in_X5_pick_X5 : ∀ w ∈ wsX50, w ∈ wsX5_pick := by decide +kernel
abbrev rm_m_isIn0 : Room := { frames := 0, cells := 0, slots := 0, locals := 0 }
set_option maxRecDepth 100000 in
set_option maxHeartbeats 4000000 in
theorem c_m_isIn0 (l : Launch) (D : va_G) (tys : List (ClassId × FieldType)) (cI cJ cA : ClassId) (hI : tys[0]? = some (cI, .int)) (hJ : tys[1]? = some (cJ, .long)) (hR : tys[2]? = some (cA, .array .int)) (v : Int32) (hi0 : Nat) (hh : hi0 < 2 ^ 30) : MI l yX5_isIn wsX5_isIn rm_m_isIn0 D tys [.int v, .int (nI 0), .int (nI hi0)] [] Unit (fun r (_ : Unit) => r = bI (below v (hi0 + 1))) (fun (_ : Unit) => []) 0 0 := by
  intro sz
  refine x_met (cc := cX5_isIn) (maxL := 3) (ret := (some .boolean)) (by decide +kernel) rfl (by show _ ≤ _; simp [lg_sl, Value.category]) [(0, .int v), (1, .int (nI 0)), (2, .int (nI hi0))] rfl ?_
  intro p e s m args below meth c Q A H0 C hK hNW hlk hrt hnm hQ hH0 hAA hA
  refine x_iload_n C dX5_isIn_0 rfl 0 rfl ?_
  refine x_iload_n C dX5_isIn_1 rfl 1 rfl ?_
  refine x_icmp_lt C 14 dX5_isIn_2 (by decide) (fun h_1 => ?_) (fun h_1 => ?_)
  ·
    refine x_iconst C (nI 0) dX5_isIn_14 (by decide +kernel) ?_
    refine x_zret C hK hlk hrt hQ hH0 hAA () (by first | (left; rfl) | (right; rfl) | assumption | (simp; done)) ?_ [] (by decide) rfl (by first | decide | omega) (by first | decide | omega) dX5_isIn_15
    first | (rw [below_neg0 (by assumption)]; rfl) | (rw [below_gt (by assumption) hh]; rfl) | (rw [below_ok (by assumption) (by assumption) hh]; rfl)
  ·
    refine x_iload_n C dX5_isIn_5 rfl 0 rfl ?_
    refine x_iload_n C dX5_isIn_6 rfl 2 rfl ?_
    refine x_icmp_gt C 14 dX5_isIn_7 (by decide) (fun h_2 => ?_) (fun h_2 => ?_)
    ·
      refine x_iconst C (nI 0) dX5_isIn_14 (by decide +kernel) ?_
      refine x_zret C hK hlk hrt hQ hH0 hAA () (by first | (left; rfl) | (right; rfl) | assumption | (simp; done)) ?_ [] (by decide) rfl (by first | decide | omega) (by first | decide | omega) dX5_isIn_15
      first | (rw [below_neg0 (by assumption)]; rfl) | (rw [below_gt (by assumption) hh]; rfl) | (rw [below_ok (by assumption) (by assumption) hh]; rfl)
    ·
      refine x_iconst C (nI 1) dX5_isIn_10 (by decide +kernel) ?_
      refine x_goto C 15 dX5_isIn_11 (by decide) ?_
      refine x_zret C hK hlk hrt hQ hH0 hAA () (by first | (left; rfl) | (right; rfl) | assumption | (simp; done)) ?_ [] (by decide) rfl (by first | decide | omega) (by first | decide | omega) dX5_isIn_15
      first | (rw [below_neg0 (by assumption)]; rfl) | (rw [below_gt (by assumption) hh]; rfl) | (rw [below_ok (by assumption) (by assumption) hh]; rfl)
abbrev rm_m_isInS : Room := { frames := 0, cells := 0, slots := 0, locals := 0 }
set_option maxRecDepth 100000 in
set_option maxHeartbeats 4000000 in
theorem c_m_isInS (l : Launch) (D : va_G) (tys : List (ClassId × FieldType)) (cI cJ cA : ClassId) (hI : tys[0]? = some (cI, .int)) (hJ : tys[1]? = some (cJ, .long)) (hR : tys[2]? = some (cA, .array .int)) (v : Int32) (nn : Nat) (hh : nn ≤ 40) : MI l yX5_isIn wsX5_isIn rm_m_isInS D tys [.int v, .int (nI 0), .int (nI nn - nI 1)] [] Unit (fun r (_ : Unit) => r = bI (below v nn)) (fun (_ : Unit) => []) 0 0 := by
  intro sz
  refine x_met (cc := cX5_isIn) (maxL := 3) (ret := (some .boolean)) (by decide +kernel) rfl (by show _ ≤ _; simp [lg_sl, Value.category]) [(0, .int v), (1, .int (nI 0)), (2, .int (nI nn - nI 1))] rfl ?_
  intro p e s m args below meth c Q A H0 C hK hNW hlk hrt hnm hQ hH0 hAA hA
  refine x_iload_n C dX5_isIn_0 rfl 0 rfl ?_
  refine x_iload_n C dX5_isIn_1 rfl 1 rfl ?_
  refine x_icmp_lt C 14 dX5_isIn_2 (by decide) (fun h_1 => ?_) (fun h_1 => ?_)
  ·
    refine x_iconst C (nI 0) dX5_isIn_14 (by decide +kernel) ?_
    refine x_zret C hK hlk hrt hQ hH0 hAA () (by first | (left; rfl) | (right; rfl) | assumption | (simp; done)) ?_ [] (by decide) rfl (by first | decide | omega) (by first | decide | omega) dX5_isIn_15
    first | (rw [below_neg0 (by assumption)]; rfl) | (rw [below_gtS (by assumption) (by omega)]; rfl) | (rw [below_okS (by assumption) (by assumption) (by omega)]; rfl)
  ·
    refine x_iload_n C dX5_isIn_5 rfl 0 rfl ?_
    refine x_iload_n C dX5_isIn_6 rfl 2 rfl ?_
    refine x_icmp_gt C 14 dX5_isIn_7 (by decide) (fun h_2 => ?_) (fun h_2 => ?_)
    ·
      refine x_iconst C (nI 0) dX5_isIn_14 (by decide +kernel) ?_
      refine x_zret C hK hlk hrt hQ hH0 hAA () (by first | (left; rfl) | (right; rfl) | assumption | (simp; done)) ?_ [] (by decide) rfl (by first | decide | omega) (by first | decide | omega) dX5_isIn_15
      first | (rw [below_neg0 (by assumption)]; rfl) | (rw [below_gtS (by assumption) (by omega)]; rfl) | (rw [below_okS (by assumption) (by assumption) (by omega)]; rfl)
    ·
      refine x_iconst C (nI 1) dX5_isIn_10 (by decide +kernel) ?_
      refine x_goto C 15 dX5_isIn_11 (by decide) ?_
      refine x_zret C hK hlk hrt hQ hH0 hAA () (by first | (left; rfl) | (right; rfl) | assumption | (simp; done)) ?_ [] (by decide) rfl (by first | decide | omega) (by first | decide | omega) dX5_isIn_15
      first | (rw [below_neg0 (by assumption)]; rfl) | (rw [below_gtS (by assumption) (by omega)]; rfl) | (rw [below_okS (by assumption) (by assumption) (by omega)]; rfl)
abbrev rm_m_isIn1 : Room := { frames := 0, cells := 0, slots := 0, locals := 0 }
set_option maxRecDepth 100000 in
set_option maxHeartbeats 4000000 in
theorem c_m_isIn1 (l : Launch) (D : va_G) (tys : List (ClassId × FieldType)) (cI cJ cA : ClassId) (hI : tys[0]? = some (cI, .int)) (hJ : tys[1]? = some (cJ, .long)) (hR : tys[2]? = some (cA, .array .int)) (v : Int32) (hi0 : Nat) (hh : hi0 < 2 ^ 30) : MI l yX5_isIn wsX5_isIn rm_m_isIn1 D tys [.int v, .int (nI 1), .int (nI hi0)] [] Unit (fun r (_ : Unit) => r = bI (isin1 v hi0)) (fun (_ : Unit) => []) 0 0 := by
  intro sz
  refine x_met (cc := cX5_isIn) (maxL := 3) (ret := (some .boolean)) (by decide +kernel) rfl (by show _ ≤ _; simp [lg_sl, Value.category]) [(0, .int v), (1, .int (nI 1)), (2, .int (nI hi0))] rfl ?_
  intro p e s m args below meth c Q A H0 C hK hNW hlk hrt hnm hQ hH0 hAA hA
  refine x_iload_n C dX5_isIn_0 rfl 0 rfl ?_
  refine x_iload_n C dX5_isIn_1 rfl 1 rfl ?_
  refine x_icmp_lt C 14 dX5_isIn_2 (by decide) (fun h_1 => ?_) (fun h_1 => ?_)
  ·
    refine x_iconst C (nI 0) dX5_isIn_14 (by decide +kernel) ?_
    refine x_zret C hK hlk hrt hQ hH0 hAA () (by first | (left; rfl) | (right; rfl) | assumption | (simp; done)) ?_ [] (by decide) rfl (by first | decide | omega) (by first | decide | omega) dX5_isIn_15
    first | (rw [isin1_lt (by assumption)]; rfl) | (rw [isin1_gt (by assumption)]; rfl) | (rw [isin1_ok (by assumption) (by assumption)]; rfl)
  ·
    refine x_iload_n C dX5_isIn_5 rfl 0 rfl ?_
    refine x_iload_n C dX5_isIn_6 rfl 2 rfl ?_
    refine x_icmp_gt C 14 dX5_isIn_7 (by decide) (fun h_2 => ?_) (fun h_2 => ?_)
    ·
      refine x_iconst C (nI 0) dX5_isIn_14 (by decide +kernel) ?_
      refine x_zret C hK hlk hrt hQ hH0 hAA () (by first | (left; rfl) | (right; rfl) | assumption | (simp; done)) ?_ [] (by decide) rfl (by first | decide | omega) (by first | decide | omega) dX5_isIn_15
      first | (rw [isin1_lt (by assumption)]; rfl) | (rw [isin1_gt (by assumption)]; rfl) | (rw [isin1_ok (by assumption) (by assumption)]; rfl)
    ·
      refine x_iconst C (nI 1) dX5_isIn_10 (by decide +kernel) ?_
      refine x_goto C 15 dX5_isIn_11 (by decide) ?_
      refine x_zret C hK hlk hrt hQ hH0 hAA () (by first | (left; rfl) | (right; rfl) | assumption | (simp; done)) ?_ [] (by decide) rfl (by first | decide | omega) (by first | decide | omega) dX5_isIn_15
      first | (rw [isin1_lt (by assumption)]; rfl) | (rw [isin1_gt (by assumption)]; rfl) | (rw [isin1_ok (by assumption) (by assumption)]; rfl)
abbrev rm_m_of1 : Room := { frames := 0, cells := 0, slots := 0, locals := 0 }
set_option maxRecDepth 100000 in
set_option maxHeartbeats 4000000 in
theorem c_m_of1 (l : Launch) (D : va_G) (tys : List (ClassId × FieldType)) (cI cJ cA : ClassId) (hI : tys[0]? = some (cI, .int)) (hJ : tys[1]? = some (cJ, .long)) (hR : tys[2]? = some (cA, .array .int))   : MI l yX5_of wsX5_of rm_m_of1 D tys [.int (nI 1)] [] Unit (fun r (_ : Unit) => r = nI 0) (fun (_ : Unit) => []) 0 0 := by
  intro sz
  refine x_met (cc := cX5_of) (maxL := 1) (ret := (some .int)) (by decide +kernel) rfl (by show _ ≤ _; simp [lg_sl, Value.category]) [(0, .int (nI 1))] rfl ?_
  intro p e s m args below meth c Q A H0 C hK hNW hlk hrt hnm hQ hH0 hAA hA
  refine x_iload_n C dX5_of_0 rfl 0 rfl ?_
  refine xn_if_eq C 8 (by omega) dX5_of_1 (by decide) (fun h_1 => ?_) (fun h_1 => ?_)
  ·
    exact absurd h_1 (by first | decide | omega)
  ·
    refine x_iconst C (nI 0) dX5_of_4 (by decide +kernel) ?_
    refine x_goto C 9 dX5_of_5 (by decide) ?_
    refine x_iret C hK hlk hrt hQ hH0 hAA () ?_ [] (by decide) rfl (by first | decide | omega) (by first | decide | omega) dX5_of_9
    first | rfl | (exact ⟨rfl, rfl⟩) | trivial | assumption | omega
abbrev rm_m_of0 : Room := { frames := 0, cells := 0, slots := 0, locals := 0 }
set_option maxRecDepth 100000 in
set_option maxHeartbeats 4000000 in
theorem c_m_of0 (l : Launch) (D : va_G) (tys : List (ClassId × FieldType)) (cI cJ cA : ClassId) (hI : tys[0]? = some (cI, .int)) (hJ : tys[1]? = some (cJ, .long)) (hR : tys[2]? = some (cA, .array .int))   : MI l yX5_of wsX5_of rm_m_of0 D tys [.int (nI 0)] [] Unit (fun r (_ : Unit) => r = nI 1) (fun (_ : Unit) => []) 0 0 := by
  intro sz
  refine x_met (cc := cX5_of) (maxL := 1) (ret := (some .int)) (by decide +kernel) rfl (by show _ ≤ _; simp [lg_sl, Value.category]) [(0, .int (nI 0))] rfl ?_
  intro p e s m args below meth c Q A H0 C hK hNW hlk hrt hnm hQ hH0 hAA hA
  refine x_iload_n C dX5_of_0 rfl 0 rfl ?_
  refine xn_if_eq C 8 (by omega) dX5_of_1 (by decide) (fun h_1 => ?_) (fun h_1 => ?_)
  ·
    refine x_iconst C (nI 1) dX5_of_8 (by decide +kernel) ?_
    refine x_iret C hK hlk hrt hQ hH0 hAA () ?_ [] (by decide) rfl (by first | decide | omega) (by first | decide | omega) dX5_of_9
    first | rfl | (exact ⟨rfl, rfl⟩) | trivial | assumption | omega
  ·
    exact absurd h_1 (by first | decide | omega)
abbrev rm_m_has : Room := { frames := 0, cells := 0, slots := 0, locals := 0 }
set_option maxRecDepth 100000 in
set_option maxHeartbeats 4000000 in
theorem c_m_has (l : Launch) (D : va_G) (tys : List (ClassId × FieldType)) (cI cJ cA : ClassId) (hI : tys[0]? = some (cI, .int)) (hJ : tys[1]? = some (cJ, .long)) (hR : tys[2]? = some (cA, .array .int)) (v : Int64) (y0 : Int32)  : MI l yX5_has wsX5_has rm_m_has D tys [.long v, .int y0] [] Unit (fun r (_ : Unit) => r = bI (hbit v y0)) (fun (_ : Unit) => []) 0 0 := by
  intro sz
  refine x_met (cc := cX5_has) (maxL := 3) (ret := (some .boolean)) (by decide +kernel) rfl (by show _ ≤ _; simp [lg_sl, Value.category]) [(0, .long v), (2, .int y0)] rfl ?_
  intro p e s m args below meth c Q A H0 C hK hNW hlk hrt hnm hQ hH0 hAA hA
  refine x_lload_n C dX5_has_0 rfl 0 rfl ?_
  refine x_iload_n C dX5_has_1 rfl 1 rfl ?_
  refine x_lshr C _ dX5_has_2 rfl ?_
  refine x_lconst C (1 : Int64) dX5_has_3 rfl ?_
  refine x_land C _ dX5_has_4 rfl ?_
  refine x_lconst C (1 : Int64) dX5_has_5 rfl ?_
  refine x_lcmp C dX5_has_6 ?_
  refine x_if_ne C 14 dX5_has_7 (by decide) (fun h_1 => ?_) (fun h_1 => ?_)
  ·
    refine x_iconst C (nI 0) dX5_has_14 (by decide +kernel) ?_
    refine x_zret C hK hlk hrt hQ hH0 hAA () (by first | (left; rfl) | (right; rfl) | assumption | (simp; done)) ?_ [] (by decide) rfl (by first | decide | omega) (by first | decide | omega) dX5_has_15
    unfold hbit
    first | (rw [decide_eq_true ((lg_cmp_eq _ _).mp (by assumption))]; rfl) | (rw [decide_eq_false (fun q => absurd ((lg_cmp_eq _ _).mpr q) (by assumption))]; rfl)
  ·
    refine x_iconst C (nI 1) dX5_has_10 (by decide +kernel) ?_
    refine x_goto C 15 dX5_has_11 (by decide) ?_
    refine x_zret C hK hlk hrt hQ hH0 hAA () (by first | (left; rfl) | (right; rfl) | assumption | (simp; done)) ?_ [] (by decide) rfl (by first | decide | omega) (by first | decide | omega) dX5_has_15
    unfold hbit
    first | (rw [decide_eq_true ((lg_cmp_eq _ _).mp (by assumption))]; rfl) | (rw [decide_eq_false (fun q => absurd ((lg_cmp_eq _ _).mpr q) (by assumption))]; rfl)
abbrev rm_m_thrown : Room := { frames := 0, cells := 0, slots := 0, locals := 0 }
set_option maxRecDepth 100000 in
set_option maxHeartbeats 4000000 in
theorem c_m_thrown (l : Launch) (D : va_G) (tys : List (ClassId × FieldType)) (cI cJ cA : ClassId) (hI : tys[0]? = some (cI, .int)) (hJ : tys[1]? = some (cJ, .long)) (hR : tys[2]? = some (cA, .array .int)) (yo : Nat) (thr : Int32) (ri : Int32) (yt : Nat) (ys : Nat) (yf : Nat) (yc : Nat) (co : Nat) (dn : Nat) (yd : Nat)  : MI l yX5_thrown wsX5_thrown rm_m_thrown D tys [.ref yo] [(yo, OB 5 [.int thr, .int ri, .ref yt, .ref ys, .ref yf, .ref yc, .int (nI co), .int (nI dn), .ref yd])] Unit (fun r (_ : Unit) => r = thr) (fun (_ : Unit) => [(yo, OB 5 [.int thr, .int ri, .ref yt, .ref ys, .ref yf, .ref yc, .int (nI co), .int (nI dn), .ref yd])]) 0 0 := by
  intro sz
  refine x_met (cc := cX5_thrown) (maxL := 1) (ret := (some .int)) (by decide +kernel) rfl (by show _ ≤ _; simp [lg_sl, Value.category]) [(0, .ref yo)] rfl ?_
  intro p e s m args below meth c Q A H0 C hK hNW hlk hrt hnm hQ hH0 hAA hA
  refine x_aload_n C dX5_thrown_0 rfl 0 rfl ?_
  refine x_get C hK in_X5_thrown_X5 0 rfl rfl 0 (by decide) (by decide +kernel) rfl rfl dX5_thrown_1 ?_
  refine x_iret C hK hlk hrt hQ hH0 hAA () ?_ [0] (by decide) rfl (by first | decide | omega) (by first | decide | omega) dX5_thrown_4
  first | rfl | (exact ⟨rfl, rfl⟩) | trivial | assumption | omega
abbrev rm_m_fail : Room := { frames := 0, cells := 0, slots := 0, locals := 0 }
set_option maxRecDepth 100000 in
set_option maxHeartbeats 4000000 in
theorem c_m_fail (l : Launch) (D : va_G) (tys : List (ClassId × FieldType)) (cI cJ cA : ClassId) (hI : tys[0]? = some (cI, .int)) (hJ : tys[1]? = some (cJ, .long)) (hR : tys[2]? = some (cA, .array .int)) (yo : Nat) (thr : Int32) (ri : Int32) (yt : Nat) (ys : Nat) (yf : Nat) (yc : Nat) (co : Nat) (dn : Nat) (yd : Nat) (nf : Nat)  : MI l yX5_fail wsX5_fail rm_m_fail D tys [.ref yo, .int (nI nf)] [(yo, OB 5 [.int thr, .int ri, .ref yt, .ref ys, .ref yf, .ref yc, .int (nI co), .int (nI dn), .ref yd])] Unit (fun r (_ : Unit) => r = nI 0) (fun (_ : Unit) => [(yo, OB 5 [.int (nI nf), .int ri, .ref yt, .ref ys, .ref yf, .ref yc, .int (nI co), .int (nI dn), .ref yd])]) 0 0 := by
  intro sz
  refine x_met (cc := cX5_fail) (maxL := 2) (ret := (some .int)) (by decide +kernel) rfl (by show _ ≤ _; simp [lg_sl, Value.category]) [(0, .ref yo), (1, .int (nI nf))] rfl ?_
  intro p e s m args below meth c Q A H0 C hK hNW hlk hrt hnm hQ hH0 hAA hA
  refine x_aload_n C dX5_fail_0 rfl 0 rfl ?_
  refine x_iload_n C dX5_fail_1 rfl 1 rfl ?_
  refine x_put C hK in_X5_fail_X5 tyX5 tyX5_ok nmX5 0 rfl rfl 0 (by decide) (by decide +kernel) rfl rfl (tyX5_ok 0 (by decide)) rfl rfl (Nat.le_of_ble_eq_true rfl) [(yo, OB 5 [.int (nI nf), .int ri, .ref yt, .ref ys, .ref yf, .ref yc, .int (nI co), .int (nI dn), .ref yd])] rfl dX5_fail_2 ?_
  refine x_iconst C (nI 0) dX5_fail_5 (by decide +kernel) ?_
  refine x_iret C hK hlk hrt hQ hH0 hAA () ?_ [0] (by decide) rfl (by first | decide | omega) (by first | decide | omega) dX5_fail_6
  first | rfl | (exact ⟨rfl, rfl⟩) | trivial | assumption | omega
abbrev rm_m_add0 : Room := { frames := 0, cells := 0, slots := 0, locals := 0 }
set_option maxRecDepth 100000 in
set_option maxHeartbeats 4000000 in
theorem c_m_add0 (l : Launch) (D : va_G) (tys : List (ClassId × FieldType)) (cI cJ cA : ClassId) (hI : tys[0]? = some (cI, .int)) (hJ : tys[1]? = some (cJ, .long)) (hR : tys[2]? = some (cA, .array .int)) (yo : Nat) (thr : Int32) (ri : Int32) (yt : Nat) (ys : Nat) (yf : Nat) (yc : Nat) (co : Nat) (dn : Nat) (yd : Nat) (nw : Nat) (np : Nat) (g0 : Nat) (g1 : Nat) (bw : Nat → Int32) (bp : Nat → Int32) (k0 : Nat) (k1 : Nat) (cw : Nat → Int32) (cp : Nat → Int32) (f0 : Int32) (c0 : Int32) (hnw : nw < 40) : MI l yX5_add wsX5_add rm_m_add0 D tys [.ref yo, .int (nI 0), .int f0, .int c0] [(yo, OB 5 [.int thr, .int ri, .ref yt, .ref ys, .ref yf, .ref yc, .int (nI co), .int (nI dn), .ref yd]), (ys, AI cI 2 (sz2 nw np)), (yf, AR cA 2 (gr2 g0 g1)), (g0, AI cI 40 bw), (g1, AI cI 40 bp), (yc, AR cA 2 (gr2 k0 k1)), (k0, AI cI 40 cw), (k1, AI cI 40 cp)] Unit (fun r (_ : Unit) => r = nI nw) (fun (_ : Unit) => [(yo, OB 5 [.int thr, .int ri, .ref yt, .ref ys, .ref yf, .ref yc, .int (nI co), .int (nI dn), .ref yd]), (ys, AI cI 2 (sz2 (nw + 1) np)), (yf, AR cA 2 (gr2 g0 g1)), (g0, AI cI 40 (upd bw nw f0)), (g1, AI cI 40 bp), (yc, AR cA 2 (gr2 k0 k1)), (k0, AI cI 40 (upd cw nw c0)), (k1, AI cI 40 cp)]) 0 0 := by
  intro sz
  refine x_met (cc := cX5_add) (maxL := 4) (ret := (some .int)) (by decide +kernel) rfl (by show _ ≤ _; simp [lg_sl, Value.category]) [(0, .ref yo), (1, .int (nI 0)), (2, .int f0), (3, .int c0)] rfl ?_
  intro p e s m args below meth c Q A H0 C hK hNW hlk hrt hnm hQ hH0 hAA hA
  refine x_aload_n C dX5_add_0 rfl 0 rfl ?_
  refine x_get C hK in_X5_add_X5 0 rfl rfl 4 (by decide) (by decide +kernel) rfl rfl dX5_add_1 ?_
  refine x_iload_n C dX5_add_4 rfl 1 rfl ?_
  refine x_aald C hK (r := g0) 2 2 rfl hR rfl (by omega) (by omega) (by rfl) dX5_add_5 ?_
  refine x_aload_n C dX5_add_6 rfl 0 rfl ?_
  refine x_get C hK in_X5_add_X5 0 rfl rfl 3 (by decide) (by decide +kernel) rfl rfl dX5_add_7 ?_
  refine x_iload_n C dX5_add_10 rfl 1 rfl ?_
  refine x_iald C hK 1 0 rfl hI (by omega) (by omega) dX5_add_11 ?_
  refine x_topi (nI nw) rfl ?_
  refine x_iload_n C dX5_add_12 rfl 2 rfl ?_
  refine x_iast C hK 3 0 rfl hI (by omega) (by omega) [(yo, OB 5 [.int thr, .int ri, .ref yt, .ref ys, .ref yf, .ref yc, .int (nI co), .int (nI dn), .ref yd]), (ys, AI cI 2 (sz2 nw np)), (yf, AR cA 2 (gr2 g0 g1)), (g0, AI cI 40 (upd bw nw f0)), (g1, AI cI 40 bp), (yc, AR cA 2 (gr2 k0 k1)), (k0, AI cI 40 cw), (k1, AI cI 40 cp)] rfl dX5_add_13 ?_
  refine x_aload_n C dX5_add_14 rfl 0 rfl ?_
  refine x_get C hK in_X5_add_X5 0 rfl rfl 5 (by decide) (by decide +kernel) rfl rfl dX5_add_15 ?_
  refine x_iload_n C dX5_add_18 rfl 1 rfl ?_
  refine x_aald C hK (r := k0) 5 2 rfl hR rfl (by omega) (by omega) (by rfl) dX5_add_19 ?_
  refine x_aload_n C dX5_add_20 rfl 0 rfl ?_
  refine x_get C hK in_X5_add_X5 0 rfl rfl 3 (by decide) (by decide +kernel) rfl rfl dX5_add_21 ?_
  refine x_iload_n C dX5_add_24 rfl 1 rfl ?_
  refine x_iald C hK 1 0 rfl hI (by omega) (by omega) dX5_add_25 ?_
  refine x_topi (nI nw) rfl ?_
  refine x_iload_n C dX5_add_26 rfl 3 rfl ?_
  refine x_iast C hK 6 0 rfl hI (by omega) (by omega) [(yo, OB 5 [.int thr, .int ri, .ref yt, .ref ys, .ref yf, .ref yc, .int (nI co), .int (nI dn), .ref yd]), (ys, AI cI 2 (sz2 nw np)), (yf, AR cA 2 (gr2 g0 g1)), (g0, AI cI 40 (upd bw nw f0)), (g1, AI cI 40 bp), (yc, AR cA 2 (gr2 k0 k1)), (k0, AI cI 40 (upd cw nw c0)), (k1, AI cI 40 cp)] rfl dX5_add_27 ?_
  refine x_aload_n C dX5_add_28 rfl 0 rfl ?_
  refine x_get C hK in_X5_add_X5 0 rfl rfl 3 (by decide) (by decide +kernel) rfl rfl dX5_add_29 ?_
  refine x_iload_n C dX5_add_32 rfl 1 rfl ?_
  refine x_dup2 C dX5_add_33 rfl rfl ?_
  refine x_iald C hK 1 0 rfl hI (by omega) (by omega) dX5_add_34 ?_
  refine x_topi (nI nw) rfl ?_
  refine x_iconst C (nI 1) dX5_add_35 (by decide +kernel) ?_
  refine xn_iadd C dX5_add_36 ?_
  refine x_iast C hK 1 0 rfl hI (by omega) (by omega) [(yo, OB 5 [.int thr, .int ri, .ref yt, .ref ys, .ref yf, .ref yc, .int (nI co), .int (nI dn), .ref yd]), (ys, AI cI 2 (upd (sz2 nw np) 0 (nI (nw + 1)))), (yf, AR cA 2 (gr2 g0 g1)), (g0, AI cI 40 (upd bw nw f0)), (g1, AI cI 40 bp), (yc, AR cA 2 (gr2 k0 k1)), (k0, AI cI 40 (upd cw nw c0)), (k1, AI cI 40 cp)] rfl dX5_add_37 ?_
  refine x_ws [(yo, OB 5 [.int thr, .int ri, .ref yt, .ref ys, .ref yf, .ref yc, .int (nI co), .int (nI dn), .ref yd]), (ys, AI cI 2 (sz2 (nw + 1) np)), (yf, AR cA 2 (gr2 g0 g1)), (g0, AI cI 40 (upd bw nw f0)), (g1, AI cI 40 bp), (yc, AR cA 2 (gr2 k0 k1)), (k0, AI cI 40 (upd cw nw c0)), (k1, AI cI 40 cp)] (by rw [sz2_u0]) ?_
  refine x_aload_n C dX5_add_38 rfl 0 rfl ?_
  refine x_get C hK in_X5_add_X5 0 rfl rfl 3 (by decide) (by decide +kernel) rfl rfl dX5_add_39 ?_
  refine x_iload_n C dX5_add_42 rfl 1 rfl ?_
  refine x_iald C hK 1 0 rfl hI (by omega) (by omega) dX5_add_43 ?_
  refine x_topi (nI (nw + 1)) rfl ?_
  refine x_iconst C (nI 1) dX5_add_44 (by decide +kernel) ?_
  refine xn_isub C (by omega) dX5_add_45 ?_
  refine x_topi (nI nw) (by rfl) ?_
  refine x_iret C hK hlk hrt hQ hH0 hAA () ?_ [0, 1, 2, 3, 4, 5, 6, 7] (by decide) rfl (by first | decide | omega) (by first | decide | omega) dX5_add_46
  first | rfl | (exact ⟨rfl, rfl⟩) | trivial | assumption | omega
abbrev rm_m_add1 : Room := { frames := 0, cells := 0, slots := 0, locals := 0 }
set_option maxRecDepth 100000 in
set_option maxHeartbeats 4000000 in
theorem c_m_add1 (l : Launch) (D : va_G) (tys : List (ClassId × FieldType)) (cI cJ cA : ClassId) (hI : tys[0]? = some (cI, .int)) (hJ : tys[1]? = some (cJ, .long)) (hR : tys[2]? = some (cA, .array .int)) (yo : Nat) (thr : Int32) (ri : Int32) (yt : Nat) (ys : Nat) (yf : Nat) (yc : Nat) (co : Nat) (dn : Nat) (yd : Nat) (nw : Nat) (np : Nat) (g0 : Nat) (g1 : Nat) (bw : Nat → Int32) (bp : Nat → Int32) (k0 : Nat) (k1 : Nat) (cw : Nat → Int32) (cp : Nat → Int32) (f0 : Int32) (c0 : Int32) (hnp : np < 40) : MI l yX5_add wsX5_add rm_m_add1 D tys [.ref yo, .int (nI 1), .int f0, .int c0] [(yo, OB 5 [.int thr, .int ri, .ref yt, .ref ys, .ref yf, .ref yc, .int (nI co), .int (nI dn), .ref yd]), (ys, AI cI 2 (sz2 nw np)), (yf, AR cA 2 (gr2 g0 g1)), (g0, AI cI 40 bw), (g1, AI cI 40 bp), (yc, AR cA 2 (gr2 k0 k1)), (k0, AI cI 40 cw), (k1, AI cI 40 cp)] Unit (fun r (_ : Unit) => r = nI np) (fun (_ : Unit) => [(yo, OB 5 [.int thr, .int ri, .ref yt, .ref ys, .ref yf, .ref yc, .int (nI co), .int (nI dn), .ref yd]), (ys, AI cI 2 (sz2 nw (np + 1))), (yf, AR cA 2 (gr2 g0 g1)), (g0, AI cI 40 bw), (g1, AI cI 40 (upd bp np f0)), (yc, AR cA 2 (gr2 k0 k1)), (k0, AI cI 40 cw), (k1, AI cI 40 (upd cp np c0))]) 0 0 := by
  intro sz
  refine x_met (cc := cX5_add) (maxL := 4) (ret := (some .int)) (by decide +kernel) rfl (by show _ ≤ _; simp [lg_sl, Value.category]) [(0, .ref yo), (1, .int (nI 1)), (2, .int f0), (3, .int c0)] rfl ?_
  intro p e s m args below meth c Q A H0 C hK hNW hlk hrt hnm hQ hH0 hAA hA
  refine x_aload_n C dX5_add_0 rfl 0 rfl ?_
  refine x_get C hK in_X5_add_X5 0 rfl rfl 4 (by decide) (by decide +kernel) rfl rfl dX5_add_1 ?_
  refine x_iload_n C dX5_add_4 rfl 1 rfl ?_
  refine x_aald C hK (r := g1) 2 2 rfl hR rfl (by omega) (by omega) (by rfl) dX5_add_5 ?_
  refine x_aload_n C dX5_add_6 rfl 0 rfl ?_
  refine x_get C hK in_X5_add_X5 0 rfl rfl 3 (by decide) (by decide +kernel) rfl rfl dX5_add_7 ?_
  refine x_iload_n C dX5_add_10 rfl 1 rfl ?_
  refine x_iald C hK 1 0 rfl hI (by omega) (by omega) dX5_add_11 ?_
  refine x_topi (nI np) rfl ?_
  refine x_iload_n C dX5_add_12 rfl 2 rfl ?_
  refine x_iast C hK 4 0 rfl hI (by omega) (by omega) [(yo, OB 5 [.int thr, .int ri, .ref yt, .ref ys, .ref yf, .ref yc, .int (nI co), .int (nI dn), .ref yd]), (ys, AI cI 2 (sz2 nw np)), (yf, AR cA 2 (gr2 g0 g1)), (g0, AI cI 40 bw), (g1, AI cI 40 (upd bp np f0)), (yc, AR cA 2 (gr2 k0 k1)), (k0, AI cI 40 cw), (k1, AI cI 40 cp)] rfl dX5_add_13 ?_
  refine x_aload_n C dX5_add_14 rfl 0 rfl ?_
  refine x_get C hK in_X5_add_X5 0 rfl rfl 5 (by decide) (by decide +kernel) rfl rfl dX5_add_15 ?_
  refine x_iload_n C dX5_add_18 rfl 1 rfl ?_
  refine x_aald C hK (r := k1) 5 2 rfl hR rfl (by omega) (by omega) (by rfl) dX5_add_19 ?_
  refine x_aload_n C dX5_add_20 rfl 0 rfl ?_
  refine x_get C hK in_X5_add_X5 0 rfl rfl 3 (by decide) (by decide +kernel) rfl rfl dX5_add_21 ?_
  refine x_iload_n C dX5_add_24 rfl 1 rfl ?_
  refine x_iald C hK 1 0 rfl hI (by omega) (by omega) dX5_add_25 ?_
  refine x_topi (nI np) rfl ?_
  refine x_iload_n C dX5_add_26 rfl 3 rfl ?_
  refine x_iast C hK 7 0 rfl hI (by omega) (by omega) [(yo, OB 5 [.int thr, .int ri, .ref yt, .ref ys, .ref yf, .ref yc, .int (nI co), .int (nI dn), .ref yd]), (ys, AI cI 2 (sz2 nw np)), (yf, AR cA 2 (gr2 g0 g1)), (g0, AI cI 40 bw), (g1, AI cI 40 (upd bp np f0)), (yc, AR cA 2 (gr2 k0 k1)), (k0, AI cI 40 cw), (k1, AI cI 40 (upd cp np c0))] rfl dX5_add_27 ?_
  refine x_aload_n C dX5_add_28 rfl 0 rfl ?_
  refine x_get C hK in_X5_add_X5 0 rfl rfl 3 (by decide) (by decide +kernel) rfl rfl dX5_add_29 ?_
  refine x_iload_n C dX5_add_32 rfl 1 rfl ?_
  refine x_dup2 C dX5_add_33 rfl rfl ?_
  refine x_iald C hK 1 0 rfl hI (by omega) (by omega) dX5_add_34 ?_
  refine x_topi (nI np) rfl ?_
  refine x_iconst C (nI 1) dX5_add_35 (by decide +kernel) ?_
  refine xn_iadd C dX5_add_36 ?_
  refine x_iast C hK 1 0 rfl hI (by omega) (by omega) [(yo, OB 5 [.int thr, .int ri, .ref yt, .ref ys, .ref yf, .ref yc, .int (nI co), .int (nI dn), .ref yd]), (ys, AI cI 2 (upd (sz2 nw np) 1 (nI (np + 1)))), (yf, AR cA 2 (gr2 g0 g1)), (g0, AI cI 40 bw), (g1, AI cI 40 (upd bp np f0)), (yc, AR cA 2 (gr2 k0 k1)), (k0, AI cI 40 cw), (k1, AI cI 40 (upd cp np c0))] rfl dX5_add_37 ?_
  refine x_ws [(yo, OB 5 [.int thr, .int ri, .ref yt, .ref ys, .ref yf, .ref yc, .int (nI co), .int (nI dn), .ref yd]), (ys, AI cI 2 (sz2 nw (np + 1))), (yf, AR cA 2 (gr2 g0 g1)), (g0, AI cI 40 bw), (g1, AI cI 40 (upd bp np f0)), (yc, AR cA 2 (gr2 k0 k1)), (k0, AI cI 40 cw), (k1, AI cI 40 (upd cp np c0))] (by rw [sz2_u1]) ?_
  refine x_aload_n C dX5_add_38 rfl 0 rfl ?_
  refine x_get C hK in_X5_add_X5 0 rfl rfl 3 (by decide) (by decide +kernel) rfl rfl dX5_add_39 ?_
  refine x_iload_n C dX5_add_42 rfl 1 rfl ?_
  refine x_iald C hK 1 0 rfl hI (by omega) (by omega) dX5_add_43 ?_
  refine x_topi (nI (np + 1)) rfl ?_
  refine x_iconst C (nI 1) dX5_add_44 (by decide +kernel) ?_
  refine xn_isub C (by omega) dX5_add_45 ?_
  refine x_topi (nI np) (by rfl) ?_
  refine x_iret C hK hlk hrt hQ hH0 hAA () ?_ [0, 1, 2, 3, 4, 5, 6, 7] (by decide) rfl (by first | decide | omega) (by first | decide | omega) dX5_add_46
  first | rfl | (exact ⟨rfl, rfl⟩) | trivial | assumption | omega
abbrev rm_m_thread : Room := { frames := 1, cells := 0, slots := 0, locals := 23 }
set_option maxRecDepth 100000 in
set_option maxHeartbeats 4000000 in
theorem c_m_thread (l : Launch) (D : va_G) (tys : List (ClassId × FieldType)) (cI cJ cA : ClassId) (hI : tys[0]? = some (cI, .int)) (hJ : tys[1]? = some (cJ, .long)) (hR : tys[2]? = some (cA, .array .int)) (yo : Nat) (thr : Int32) (ri : Int32) (yt : Nat) (ys : Nat) (yf : Nat) (yc : Nat) (co : Nat) (dn : Nat) (yd : Nat) (nw : Nat) (np : Nat) (g0 : Nat) (g1 : Nat) (bw : Nat → Int32) (bp : Nat → Int32) (k0 : Nat) (k1 : Nat) (cw : Nat → Int32) (cp : Nat → Int32) (sh : Nat) (cl : Nat) (hnw : nw < 40) (hsh : sh < 8) (hcl : cl < 8) : MI l yX5_thread wsX5_thread rm_m_thread D tys [.ref yo, .int (nI sh), .int (nI cl)] [(yo, OB 5 [.int thr, .int ri, .ref yt, .ref ys, .ref yf, .ref yc, .int (nI co), .int (nI dn), .ref yd]), (ys, AI cI 2 (sz2 nw np)), (yf, AR cA 2 (gr2 g0 g1)), (g0, AI cI 40 bw), (g1, AI cI 40 bp), (yc, AR cA 2 (gr2 k0 k1)), (k0, AI cI 40 cw), (k1, AI cI 40 cp)] Unit (fun r (_ : Unit) => r = nI nw) (fun (_ : Unit) => [(yo, OB 5 [.int (nI 0), .int ri, .ref yt, .ref ys, .ref yf, .ref yc, .int (nI co), .int (nI dn), .ref yd]), (ys, AI cI 2 (sz2 (nw + 1) np)), (yf, AR cA 2 (gr2 g0 g1)), (g0, AI cI 40 (upd bw nw (nI sh))), (g1, AI cI 40 bp), (yc, AR cA 2 (gr2 k0 k1)), (k0, AI cI 40 (upd cw nw (nI cl))), (k1, AI cI 40 cp)]) 0 0 := by
  intro sz
  refine x_met (cc := cX5_thread) (maxL := 3) (ret := (some .int)) (by decide +kernel) rfl (by show _ ≤ _; simp [lg_sl, Value.category]) [(0, .ref yo), (1, .int (nI sh)), (2, .int (nI cl))] rfl ?_
  intro p e s m args below meth c Q A H0 C hK hNW hlk hrt hnm hQ hH0 hAA hA
  refine x_aload_n C dX5_thread_0 rfl 0 rfl ?_
  refine x_iconst C (nI 0) dX5_thread_1 (by decide +kernel) ?_
  refine x_put C hK in_X5_thread_X5 tyX5 tyX5_ok nmX5 0 rfl rfl 0 (by decide) (by decide +kernel) rfl rfl (tyX5_ok 0 (by decide)) rfl rfl (Nat.le_of_ble_eq_true rfl) [(yo, OB 5 [.int (nI 0), .int ri, .ref yt, .ref ys, .ref yf, .ref yc, .int (nI co), .int (nI dn), .ref yd]), (ys, AI cI 2 (sz2 nw np)), (yf, AR cA 2 (gr2 g0 g1)), (g0, AI cI 40 bw), (g1, AI cI 40 bp), (yc, AR cA 2 (gr2 k0 k1)), (k0, AI cI 40 cw), (k1, AI cI 40 cp)] rfl dX5_thread_2 ?_
  refine x_iload_n C dX5_thread_5 rfl 1 rfl ?_
  refine x_iconst C (nI 0) dX5_thread_6 (by decide +kernel) ?_
  refine x_bipush C (nI 7) dX5_thread_7 (by decide +kernel) ?_
  refine x_calli (x_runS C hK hNW (c_m_isIn0 l D tys cI cJ cA hI hJ hR (nI sh) 7 (by first | omega | assumption)) (va_cwS 3 C.2.2.2.2 gX5_thread_X5_isIn rfl rfl rfl (by decide +kernel) ⟨by decide, by decide⟩) [] rfl (by decide) (st := []) rfl rfl (Nat.le_of_ble_eq_true rfl) dX5_thread_9 ⟨by first | decide | omega, by first | decide | omega⟩) hA [] rfl [0, 1, 2, 3, 4, 5, 6, 7] [(yo, OB 5 [.int (nI 0), .int ri, .ref yt, .ref ys, .ref yf, .ref yc, .int (nI co), .int (nI dn), .ref yd]), (ys, AI cI 2 (sz2 nw np)), (yf, AR cA 2 (gr2 g0 g1)), (g0, AI cI 40 bw), (g1, AI cI 40 bp), (yc, AR cA 2 (gr2 k0 k1)), (k0, AI cI 40 cw), (k1, AI cI 40 cp)] rfl (by decide) (by decide) [0, 1, 2, 3, 4, 5, 6, 7] (by decide) (wf := (fun (u : Unit) => [(yo, OB 5 [.int (nI 0), .int ri, .ref yt, .ref ys, .ref yf, .ref yc, .int (nI co), .int (nI dn), .ref yd]), (ys, AI cI 2 (sz2 nw np)), (yf, AR cA 2 (gr2 g0 g1)), (g0, AI cI 40 bw), (g1, AI cI 40 bp), (yc, AR cA 2 (gr2 k0 k1)), (k0, AI cI 40 cw), (k1, AI cI 40 cp)])) (fun _ => rfl) (fun r_1 u h_2 => ?_)
  subst h_2
  refine x_if_eq C 25 dX5_thread_12 (by decide) (fun h_3 => ?_) (fun h_3 => ?_)
  ·
    exact absurd ((bI_eq0 h_3).symm.trans ((below_n (j := sh) (b := 7 + 1) (by omega)).trans (decide_eq_true (by omega)))) (by decide)
  ·
    refine x_iload_n C dX5_thread_15 rfl 2 rfl ?_
    refine x_iconst C (nI 0) dX5_thread_16 (by decide +kernel) ?_
    refine x_bipush C (nI 7) dX5_thread_17 (by decide +kernel) ?_
    refine x_calli (x_runS C hK hNW (c_m_isIn0 l D tys cI cJ cA hI hJ hR (nI cl) 7 (by first | omega | assumption)) (va_cwS 3 C.2.2.2.2 gX5_thread_X5_isIn rfl rfl rfl (by decide +kernel) ⟨by decide, by decide⟩) [] rfl (by decide) (st := []) rfl rfl (Nat.le_of_ble_eq_true rfl) dX5_thread_19 ⟨by first | decide | omega, by first | decide | omega⟩) hA [] rfl [0, 1, 2, 3, 4, 5, 6, 7] [(yo, OB 5 [.int (nI 0), .int ri, .ref yt, .ref ys, .ref yf, .ref yc, .int (nI co), .int (nI dn), .ref yd]), (ys, AI cI 2 (sz2 nw np)), (yf, AR cA 2 (gr2 g0 g1)), (g0, AI cI 40 bw), (g1, AI cI 40 bp), (yc, AR cA 2 (gr2 k0 k1)), (k0, AI cI 40 cw), (k1, AI cI 40 cp)] rfl (by decide) (by decide) [0, 1, 2, 3, 4, 5, 6, 7] (by decide) (wf := (fun (u : Unit) => [(yo, OB 5 [.int (nI 0), .int ri, .ref yt, .ref ys, .ref yf, .ref yc, .int (nI co), .int (nI dn), .ref yd]), (ys, AI cI 2 (sz2 nw np)), (yf, AR cA 2 (gr2 g0 g1)), (g0, AI cI 40 bw), (g1, AI cI 40 bp), (yc, AR cA 2 (gr2 k0 k1)), (k0, AI cI 40 cw), (k1, AI cI 40 cp)])) (fun _ => rfl) (fun r_4 u h_5 => ?_)
    subst h_5
    refine x_if_ne C 31 dX5_thread_22 (by decide) (fun h_6 => ?_) (fun h_6 => ?_)
    ·
      refine x_aload_n C dX5_thread_31 rfl 0 rfl ?_
      refine x_get C hK in_X5_thread_X5 0 rfl rfl 3 (by decide) (by decide +kernel) rfl rfl dX5_thread_32 ?_
      refine x_iconst C (nI 0) dX5_thread_35 (by decide +kernel) ?_
      refine x_iald C hK 1 0 rfl hI (by omega) (by omega) dX5_thread_36 ?_
      refine x_topi (nI nw) rfl ?_
      refine x_bipush C (nI 40) dX5_thread_37 (by decide +kernel) ?_
      refine xn_icmp_ne C 50 (by omega) (by omega) dX5_thread_39 (by decide) (fun h_7 => ?_) (fun h_7 => ?_)
      ·
        refine x_aload_n C dX5_thread_50 rfl 0 rfl ?_
        refine x_iconst C (nI 0) dX5_thread_51 (by decide +kernel) ?_
        refine x_iload_n C dX5_thread_52 rfl 1 rfl ?_
        refine x_iload_n C dX5_thread_53 rfl 2 rfl ?_
        refine x_calli (x_runV C hK hNW (c_m_add0 l D tys cI cJ cA hI hJ hR yo (nI 0) ri yt ys yf yc co dn yd nw np g0 g1 bw bp k0 k1 cw cp (nI sh) (nI cl) (by first | omega | assumption)) (cwV 3 C.2.2.2.2 gX5_thread_X5_add rfl rfl rfl (by decide +kernel) ⟨by decide, by decide⟩) [0, 1, 2, 3, 4, 5, 6, 7] rfl (by decide) 0 5 rfl rfl rfl (st := []) rfl rfl (Nat.le_of_ble_eq_true rfl) dX5_thread_54 ⟨by first | decide | omega, by first | decide | omega⟩) hA [0, 1, 2, 3, 4, 5, 6, 7] rfl [] [] rfl (by decide) (by decide) [0, 1, 2, 3, 4, 5, 6, 7] (by decide) (wf := (fun (u : Unit) => [(yo, OB 5 [.int (nI 0), .int ri, .ref yt, .ref ys, .ref yf, .ref yc, .int (nI co), .int (nI dn), .ref yd]), (ys, AI cI 2 (sz2 (nw + 1) np)), (yf, AR cA 2 (gr2 g0 g1)), (g0, AI cI 40 (upd bw nw (nI sh))), (g1, AI cI 40 bp), (yc, AR cA 2 (gr2 k0 k1)), (k0, AI cI 40 (upd cw nw (nI cl))), (k1, AI cI 40 cp)])) (fun _ => rfl) (fun r_8 u h_9 => ?_)
        subst h_9
        refine x_iret C hK hlk hrt hQ hH0 hAA () ?_ [0, 1, 2, 3, 4, 5, 6, 7] (by decide) rfl (by first | decide | omega) (by first | decide | omega) dX5_thread_57
        first | rfl | (exact ⟨rfl, rfl⟩) | trivial | assumption | omega
      ·
        exact False.elim (by omega)
    ·
      exact absurd ((bI_eq0 h_6).symm.trans ((below_n (j := cl) (b := 7 + 1) (by omega)).trans (decide_eq_true (by omega)))) (by decide)
abbrev rm_m_threadX1 : Room := { frames := 1, cells := 0, slots := 0, locals := 22 }
set_option maxRecDepth 100000 in
set_option maxHeartbeats 4000000 in
theorem c_m_threadX1 (l : Launch) (D : va_G) (tys : List (ClassId × FieldType)) (cI cJ cA : ClassId) (hI : tys[0]? = some (cI, .int)) (hJ : tys[1]? = some (cJ, .long)) (hR : tys[2]? = some (cA, .array .int)) (yo : Nat) (thr : Int32) (ri : Int32) (yt : Nat) (ys : Nat) (yf : Nat) (yc : Nat) (co : Nat) (dn : Nat) (yd : Nat) (sh : Int32) (cl : Int32) (hx : ¬ (below sh 8 = true ∧ below cl 8 = true)) : MI l yX5_thread wsX5_thread rm_m_threadX1 D tys [.ref yo, .int sh, .int cl] [(yo, OB 5 [.int thr, .int ri, .ref yt, .ref ys, .ref yf, .ref yc, .int (nI co), .int (nI dn), .ref yd])] Unit (fun r (_ : Unit) => r = nI 0) (fun (_ : Unit) => [(yo, OB 5 [.int (nI 1), .int ri, .ref yt, .ref ys, .ref yf, .ref yc, .int (nI co), .int (nI dn), .ref yd])]) 0 0 := by
  intro sz
  refine x_met (cc := cX5_thread) (maxL := 3) (ret := (some .int)) (by decide +kernel) rfl (by show _ ≤ _; simp [lg_sl, Value.category]) [(0, .ref yo), (1, .int sh), (2, .int cl)] rfl ?_
  intro p e s m args below meth c Q A H0 C hK hNW hlk hrt hnm hQ hH0 hAA hA
  refine x_aload_n C dX5_thread_0 rfl 0 rfl ?_
  refine x_iconst C (nI 0) dX5_thread_1 (by decide +kernel) ?_
  refine x_put C hK in_X5_thread_X5 tyX5 tyX5_ok nmX5 0 rfl rfl 0 (by decide) (by decide +kernel) rfl rfl (tyX5_ok 0 (by decide)) rfl rfl (Nat.le_of_ble_eq_true rfl) [(yo, OB 5 [.int (nI 0), .int ri, .ref yt, .ref ys, .ref yf, .ref yc, .int (nI co), .int (nI dn), .ref yd])] rfl dX5_thread_2 ?_
  refine x_iload_n C dX5_thread_5 rfl 1 rfl ?_
  refine x_iconst C (nI 0) dX5_thread_6 (by decide +kernel) ?_
  refine x_bipush C (nI 7) dX5_thread_7 (by decide +kernel) ?_
  refine x_calli (x_runS C hK hNW (c_m_isIn0 l D tys cI cJ cA hI hJ hR sh 7 (by first | omega | assumption)) (va_cwS 3 C.2.2.2.2 gX5_thread_X5_isIn rfl rfl rfl (by decide +kernel) ⟨by decide, by decide⟩) [] rfl (by decide) (st := []) rfl rfl (Nat.le_of_ble_eq_true rfl) dX5_thread_9 ⟨by first | decide | omega, by first | decide | omega⟩) hA [] rfl [0] [(yo, OB 5 [.int (nI 0), .int ri, .ref yt, .ref ys, .ref yf, .ref yc, .int (nI co), .int (nI dn), .ref yd])] rfl (by decide) (by decide) [0] (by decide) (wf := (fun (u : Unit) => [(yo, OB 5 [.int (nI 0), .int ri, .ref yt, .ref ys, .ref yf, .ref yc, .int (nI co), .int (nI dn), .ref yd])])) (fun _ => rfl) (fun r_1 u h_2 => ?_)
  subst h_2
  refine x_if_eq C 25 dX5_thread_12 (by decide) (fun h_3 => ?_) (fun h_3 => ?_)
  ·
    refine x_aload_n C dX5_thread_25 rfl 0 rfl ?_
    refine x_iconst C (nI 1) dX5_thread_26 (by decide +kernel) ?_
    refine x_calli (x_runV C hK hNW (c_m_fail l D tys cI cJ cA hI hJ hR yo (nI 0) ri yt ys yf yc co dn yd 1 ) (cwV 1 C.2.2.2.2 gX5_thread_X5_fail rfl rfl rfl (by decide +kernel) ⟨by decide, by decide⟩) [0] rfl (by decide) 0 5 rfl rfl rfl (st := []) rfl rfl (Nat.le_of_ble_eq_true rfl) dX5_thread_27 ⟨by first | decide | omega, by first | decide | omega⟩) hA [0] rfl [] [] rfl (by decide) (by decide) [0] (by decide) (wf := (fun (u : Unit) => [(yo, OB 5 [.int (nI 1), .int ri, .ref yt, .ref ys, .ref yf, .ref yc, .int (nI co), .int (nI dn), .ref yd])])) (fun _ => rfl) (fun r_4 u h_5 => ?_)
    subst h_5
    refine x_iret C hK hlk hrt hQ hH0 hAA () ?_ [0] (by decide) rfl (by first | decide | omega) (by first | decide | omega) dX5_thread_30
    first | rfl | (exact ⟨rfl, rfl⟩) | trivial | assumption | omega
  ·
    refine x_iload_n C dX5_thread_15 rfl 2 rfl ?_
    refine x_iconst C (nI 0) dX5_thread_16 (by decide +kernel) ?_
    refine x_bipush C (nI 7) dX5_thread_17 (by decide +kernel) ?_
    refine x_calli (x_runS C hK hNW (c_m_isIn0 l D tys cI cJ cA hI hJ hR cl 7 (by first | omega | assumption)) (va_cwS 3 C.2.2.2.2 gX5_thread_X5_isIn rfl rfl rfl (by decide +kernel) ⟨by decide, by decide⟩) [] rfl (by decide) (st := []) rfl rfl (Nat.le_of_ble_eq_true rfl) dX5_thread_19 ⟨by first | decide | omega, by first | decide | omega⟩) hA [] rfl [0] [(yo, OB 5 [.int (nI 0), .int ri, .ref yt, .ref ys, .ref yf, .ref yc, .int (nI co), .int (nI dn), .ref yd])] rfl (by decide) (by decide) [0] (by decide) (wf := (fun (u : Unit) => [(yo, OB 5 [.int (nI 0), .int ri, .ref yt, .ref ys, .ref yf, .ref yc, .int (nI co), .int (nI dn), .ref yd])])) (fun _ => rfl) (fun r_6 u h_7 => ?_)
    subst h_7
    refine x_if_ne C 31 dX5_thread_22 (by decide) (fun h_8 => ?_) (fun h_8 => ?_)
    ·
      exact absurd ⟨bI_ne0 (by assumption), bI_ne0 h_8⟩ hx
    ·
      refine x_aload_n C dX5_thread_25 rfl 0 rfl ?_
      refine x_iconst C (nI 1) dX5_thread_26 (by decide +kernel) ?_
      refine x_calli (x_runV C hK hNW (c_m_fail l D tys cI cJ cA hI hJ hR yo (nI 0) ri yt ys yf yc co dn yd 1 ) (cwV 1 C.2.2.2.2 gX5_thread_X5_fail rfl rfl rfl (by decide +kernel) ⟨by decide, by decide⟩) [0] rfl (by decide) 0 5 rfl rfl rfl (st := []) rfl rfl (Nat.le_of_ble_eq_true rfl) dX5_thread_27 ⟨by first | decide | omega, by first | decide | omega⟩) hA [0] rfl [] [] rfl (by decide) (by decide) [0] (by decide) (wf := (fun (u : Unit) => [(yo, OB 5 [.int (nI 1), .int ri, .ref yt, .ref ys, .ref yf, .ref yc, .int (nI co), .int (nI dn), .ref yd])])) (fun _ => rfl) (fun r_9 u h_10 => ?_)
      subst h_10
      refine x_iret C hK hlk hrt hQ hH0 hAA () ?_ [0] (by decide) rfl (by first | decide | omega) (by first | decide | omega) dX5_thread_30
      first | rfl | (exact ⟨rfl, rfl⟩) | trivial | assumption | omega
abbrev rm_m_threadX2 : Room := { frames := 1, cells := 0, slots := 0, locals := 22 }
set_option maxRecDepth 100000 in
set_option maxHeartbeats 4000000 in
theorem c_m_threadX2 (l : Launch) (D : va_G) (tys : List (ClassId × FieldType)) (cI cJ cA : ClassId) (hI : tys[0]? = some (cI, .int)) (hJ : tys[1]? = some (cJ, .long)) (hR : tys[2]? = some (cA, .array .int)) (yo : Nat) (thr : Int32) (ri : Int32) (yt : Nat) (ys : Nat) (yf : Nat) (yc : Nat) (co : Nat) (dn : Nat) (yd : Nat) (np : Nat) (sh : Int32) (cl : Int32) (h1 : below sh 8 = true) (h2 : below cl 8 = true) : MI l yX5_thread wsX5_thread rm_m_threadX2 D tys [.ref yo, .int sh, .int cl] [(yo, OB 5 [.int thr, .int ri, .ref yt, .ref ys, .ref yf, .ref yc, .int (nI co), .int (nI dn), .ref yd]), (ys, AI cI 2 (sz2 40 np))] Unit (fun r (_ : Unit) => r = nI 0) (fun (_ : Unit) => [(yo, OB 5 [.int (nI 2), .int ri, .ref yt, .ref ys, .ref yf, .ref yc, .int (nI co), .int (nI dn), .ref yd]), (ys, AI cI 2 (sz2 40 np))]) 0 0 := by
  intro sz
  refine x_met (cc := cX5_thread) (maxL := 3) (ret := (some .int)) (by decide +kernel) rfl (by show _ ≤ _; simp [lg_sl, Value.category]) [(0, .ref yo), (1, .int sh), (2, .int cl)] rfl ?_
  intro p e s m args below meth c Q A H0 C hK hNW hlk hrt hnm hQ hH0 hAA hA
  refine x_aload_n C dX5_thread_0 rfl 0 rfl ?_
  refine x_iconst C (nI 0) dX5_thread_1 (by decide +kernel) ?_
  refine x_put C hK in_X5_thread_X5 tyX5 tyX5_ok nmX5 0 rfl rfl 0 (by decide) (by decide +kernel) rfl rfl (tyX5_ok 0 (by decide)) rfl rfl (Nat.le_of_ble_eq_true rfl) [(yo, OB 5 [.int (nI 0), .int ri, .ref yt, .ref ys, .ref yf, .ref yc, .int (nI co), .int (nI dn), .ref yd]), (ys, AI cI 2 (sz2 40 np))] rfl dX5_thread_2 ?_
  refine x_iload_n C dX5_thread_5 rfl 1 rfl ?_
  refine x_iconst C (nI 0) dX5_thread_6 (by decide +kernel) ?_
  refine x_bipush C (nI 7) dX5_thread_7 (by decide +kernel) ?_
  refine x_calli (x_runS C hK hNW (c_m_isIn0 l D tys cI cJ cA hI hJ hR sh 7 (by first | omega | assumption)) (va_cwS 3 C.2.2.2.2 gX5_thread_X5_isIn rfl rfl rfl (by decide +kernel) ⟨by decide, by decide⟩) [] rfl (by decide) (st := []) rfl rfl (Nat.le_of_ble_eq_true rfl) dX5_thread_9 ⟨by first | decide | omega, by first | decide | omega⟩) hA [] rfl [0, 1] [(yo, OB 5 [.int (nI 0), .int ri, .ref yt, .ref ys, .ref yf, .ref yc, .int (nI co), .int (nI dn), .ref yd]), (ys, AI cI 2 (sz2 40 np))] rfl (by decide) (by decide) [0, 1] (by decide) (wf := (fun (u : Unit) => [(yo, OB 5 [.int (nI 0), .int ri, .ref yt, .ref ys, .ref yf, .ref yc, .int (nI co), .int (nI dn), .ref yd]), (ys, AI cI 2 (sz2 40 np))])) (fun _ => rfl) (fun r_1 u h_2 => ?_)
  subst h_2
  refine x_if_eq C 25 dX5_thread_12 (by decide) (fun h_3 => ?_) (fun h_3 => ?_)
  ·
    exact absurd ((bI_eq0 h_3).symm.trans h1) (by decide)
  ·
    refine x_iload_n C dX5_thread_15 rfl 2 rfl ?_
    refine x_iconst C (nI 0) dX5_thread_16 (by decide +kernel) ?_
    refine x_bipush C (nI 7) dX5_thread_17 (by decide +kernel) ?_
    refine x_calli (x_runS C hK hNW (c_m_isIn0 l D tys cI cJ cA hI hJ hR cl 7 (by first | omega | assumption)) (va_cwS 3 C.2.2.2.2 gX5_thread_X5_isIn rfl rfl rfl (by decide +kernel) ⟨by decide, by decide⟩) [] rfl (by decide) (st := []) rfl rfl (Nat.le_of_ble_eq_true rfl) dX5_thread_19 ⟨by first | decide | omega, by first | decide | omega⟩) hA [] rfl [0, 1] [(yo, OB 5 [.int (nI 0), .int ri, .ref yt, .ref ys, .ref yf, .ref yc, .int (nI co), .int (nI dn), .ref yd]), (ys, AI cI 2 (sz2 40 np))] rfl (by decide) (by decide) [0, 1] (by decide) (wf := (fun (u : Unit) => [(yo, OB 5 [.int (nI 0), .int ri, .ref yt, .ref ys, .ref yf, .ref yc, .int (nI co), .int (nI dn), .ref yd]), (ys, AI cI 2 (sz2 40 np))])) (fun _ => rfl) (fun r_4 u h_5 => ?_)
    subst h_5
    refine x_if_ne C 31 dX5_thread_22 (by decide) (fun h_6 => ?_) (fun h_6 => ?_)
    ·
      refine x_aload_n C dX5_thread_31 rfl 0 rfl ?_
      refine x_get C hK in_X5_thread_X5 0 rfl rfl 3 (by decide) (by decide +kernel) rfl rfl dX5_thread_32 ?_
      refine x_iconst C (nI 0) dX5_thread_35 (by decide +kernel) ?_
      refine x_iald C hK 1 0 rfl hI (by omega) (by omega) dX5_thread_36 ?_
      refine x_topi (nI 40) rfl ?_
      refine x_bipush C (nI 40) dX5_thread_37 (by decide +kernel) ?_
      refine xn_icmp_ne C 50 (by omega) (by omega) dX5_thread_39 (by decide) (fun h_7 => ?_) (fun h_7 => ?_)
      ·
        exact absurd h_7 (by first | decide | omega)
      ·
        refine x_aload_n C dX5_thread_42 rfl 0 rfl ?_
        refine x_iconst C (nI 2) dX5_thread_43 (by decide +kernel) ?_
        refine x_calli (x_runV C hK hNW (c_m_fail l D tys cI cJ cA hI hJ hR yo (nI 0) ri yt ys yf yc co dn yd 2 ) (cwV 1 C.2.2.2.2 gX5_thread_X5_fail rfl rfl rfl (by decide +kernel) ⟨by decide, by decide⟩) [0] rfl (by decide) 0 5 rfl rfl rfl (st := []) rfl rfl (Nat.le_of_ble_eq_true rfl) dX5_thread_44 ⟨by first | decide | omega, by first | decide | omega⟩) hA [0] rfl [1] [(ys, AI cI 2 (sz2 40 np))] rfl (by decide) (by decide) [1, 0] (by decide) (wf := (fun (u : Unit) => [(yo, OB 5 [.int (nI 2), .int ri, .ref yt, .ref ys, .ref yf, .ref yc, .int (nI co), .int (nI dn), .ref yd]), (ys, AI cI 2 (sz2 40 np))])) (fun _ => rfl) (fun r_8 u h_9 => ?_)
        subst h_9
        refine x_goto C 57 dX5_thread_47 (by decide) ?_
        refine x_iret C hK hlk hrt hQ hH0 hAA () ?_ [0, 1] (by decide) rfl (by first | decide | omega) (by first | decide | omega) dX5_thread_57
        first | rfl | (exact ⟨rfl, rfl⟩) | trivial | assumption | omega
    ·
      exact absurd ((bI_eq0 h_6).symm.trans h2) (by decide)
abbrev rm_m_tread : Room := { frames := 1, cells := 0, slots := 0, locals := 23 }
set_option maxRecDepth 100000 in
set_option maxHeartbeats 4000000 in
theorem c_m_tread (l : Launch) (D : va_G) (tys : List (ClassId × FieldType)) (cI cJ cA : ClassId) (hI : tys[0]? = some (cI, .int)) (hJ : tys[1]? = some (cJ, .long)) (hR : tys[2]? = some (cA, .array .int)) (yo : Nat) (thr : Int32) (ri : Int32) (yt : Nat) (ys : Nat) (yf : Nat) (yc : Nat) (co : Nat) (dn : Nat) (yd : Nat) (nw : Nat) (np : Nat) (g0 : Nat) (g1 : Nat) (bw : Nat → Int32) (bp : Nat → Int32) (k0 : Nat) (k1 : Nat) (cw : Nat → Int32) (cp : Nat → Int32) (tr : Nat) (cl : Nat) (hnp : np < 40) (htr : tr < 1024) (hcl : cl < 8) : MI l yX5_tread wsX5_tread rm_m_tread D tys [.ref yo, .int (nI tr), .int (nI cl)] [(yo, OB 5 [.int thr, .int ri, .ref yt, .ref ys, .ref yf, .ref yc, .int (nI co), .int (nI dn), .ref yd]), (ys, AI cI 2 (sz2 nw np)), (yf, AR cA 2 (gr2 g0 g1)), (g0, AI cI 40 bw), (g1, AI cI 40 bp), (yc, AR cA 2 (gr2 k0 k1)), (k0, AI cI 40 cw), (k1, AI cI 40 cp)] Unit (fun r (_ : Unit) => r = nI np) (fun (_ : Unit) => [(yo, OB 5 [.int (nI 0), .int ri, .ref yt, .ref ys, .ref yf, .ref yc, .int (nI co), .int (nI dn), .ref yd]), (ys, AI cI 2 (sz2 nw (np + 1))), (yf, AR cA 2 (gr2 g0 g1)), (g0, AI cI 40 bw), (g1, AI cI 40 (upd bp np (nI tr))), (yc, AR cA 2 (gr2 k0 k1)), (k0, AI cI 40 cw), (k1, AI cI 40 (upd cp np (nI cl)))]) 0 0 := by
  intro sz
  refine x_met (cc := cX5_tread) (maxL := 3) (ret := (some .int)) (by decide +kernel) rfl (by show _ ≤ _; simp [lg_sl, Value.category]) [(0, .ref yo), (1, .int (nI tr)), (2, .int (nI cl))] rfl ?_
  intro p e s m args below meth c Q A H0 C hK hNW hlk hrt hnm hQ hH0 hAA hA
  refine x_aload_n C dX5_tread_0 rfl 0 rfl ?_
  refine x_iconst C (nI 0) dX5_tread_1 (by decide +kernel) ?_
  refine x_put C hK in_X5_tread_X5 tyX5 tyX5_ok nmX5 0 rfl rfl 0 (by decide) (by decide +kernel) rfl rfl (tyX5_ok 0 (by decide)) rfl rfl (Nat.le_of_ble_eq_true rfl) [(yo, OB 5 [.int (nI 0), .int ri, .ref yt, .ref ys, .ref yf, .ref yc, .int (nI co), .int (nI dn), .ref yd]), (ys, AI cI 2 (sz2 nw np)), (yf, AR cA 2 (gr2 g0 g1)), (g0, AI cI 40 bw), (g1, AI cI 40 bp), (yc, AR cA 2 (gr2 k0 k1)), (k0, AI cI 40 cw), (k1, AI cI 40 cp)] rfl dX5_tread_2 ?_
  refine x_iload_n C dX5_tread_5 rfl 1 rfl ?_
  refine x_iconst C (nI 0) dX5_tread_6 (by decide +kernel) ?_
  refine x_sipush C (nI 1023) dX5_tread_7 (by decide +kernel) ?_
  refine x_calli (x_runS C hK hNW (c_m_isIn0 l D tys cI cJ cA hI hJ hR (nI tr) 1023 (by first | omega | assumption)) (va_cwS 3 C.2.2.2.2 gX5_tread_X5_isIn rfl rfl rfl (by decide +kernel) ⟨by decide, by decide⟩) [] rfl (by decide) (st := []) rfl rfl (Nat.le_of_ble_eq_true rfl) dX5_tread_10 ⟨by first | decide | omega, by first | decide | omega⟩) hA [] rfl [0, 1, 2, 3, 4, 5, 6, 7] [(yo, OB 5 [.int (nI 0), .int ri, .ref yt, .ref ys, .ref yf, .ref yc, .int (nI co), .int (nI dn), .ref yd]), (ys, AI cI 2 (sz2 nw np)), (yf, AR cA 2 (gr2 g0 g1)), (g0, AI cI 40 bw), (g1, AI cI 40 bp), (yc, AR cA 2 (gr2 k0 k1)), (k0, AI cI 40 cw), (k1, AI cI 40 cp)] rfl (by decide) (by decide) [0, 1, 2, 3, 4, 5, 6, 7] (by decide) (wf := (fun (u : Unit) => [(yo, OB 5 [.int (nI 0), .int ri, .ref yt, .ref ys, .ref yf, .ref yc, .int (nI co), .int (nI dn), .ref yd]), (ys, AI cI 2 (sz2 nw np)), (yf, AR cA 2 (gr2 g0 g1)), (g0, AI cI 40 bw), (g1, AI cI 40 bp), (yc, AR cA 2 (gr2 k0 k1)), (k0, AI cI 40 cw), (k1, AI cI 40 cp)])) (fun _ => rfl) (fun r_1 u h_2 => ?_)
  subst h_2
  refine x_if_eq C 26 dX5_tread_13 (by decide) (fun h_3 => ?_) (fun h_3 => ?_)
  ·
    exact absurd ((bI_eq0 h_3).symm.trans ((below_n (j := tr) (b := 1023 + 1) (by omega)).trans (decide_eq_true (by omega)))) (by decide)
  ·
    refine x_iload_n C dX5_tread_16 rfl 2 rfl ?_
    refine x_iconst C (nI 0) dX5_tread_17 (by decide +kernel) ?_
    refine x_bipush C (nI 7) dX5_tread_18 (by decide +kernel) ?_
    refine x_calli (x_runS C hK hNW (c_m_isIn0 l D tys cI cJ cA hI hJ hR (nI cl) 7 (by first | omega | assumption)) (va_cwS 3 C.2.2.2.2 gX5_tread_X5_isIn rfl rfl rfl (by decide +kernel) ⟨by decide, by decide⟩) [] rfl (by decide) (st := []) rfl rfl (Nat.le_of_ble_eq_true rfl) dX5_tread_20 ⟨by first | decide | omega, by first | decide | omega⟩) hA [] rfl [0, 1, 2, 3, 4, 5, 6, 7] [(yo, OB 5 [.int (nI 0), .int ri, .ref yt, .ref ys, .ref yf, .ref yc, .int (nI co), .int (nI dn), .ref yd]), (ys, AI cI 2 (sz2 nw np)), (yf, AR cA 2 (gr2 g0 g1)), (g0, AI cI 40 bw), (g1, AI cI 40 bp), (yc, AR cA 2 (gr2 k0 k1)), (k0, AI cI 40 cw), (k1, AI cI 40 cp)] rfl (by decide) (by decide) [0, 1, 2, 3, 4, 5, 6, 7] (by decide) (wf := (fun (u : Unit) => [(yo, OB 5 [.int (nI 0), .int ri, .ref yt, .ref ys, .ref yf, .ref yc, .int (nI co), .int (nI dn), .ref yd]), (ys, AI cI 2 (sz2 nw np)), (yf, AR cA 2 (gr2 g0 g1)), (g0, AI cI 40 bw), (g1, AI cI 40 bp), (yc, AR cA 2 (gr2 k0 k1)), (k0, AI cI 40 cw), (k1, AI cI 40 cp)])) (fun _ => rfl) (fun r_4 u h_5 => ?_)
    subst h_5
    refine x_if_ne C 32 dX5_tread_23 (by decide) (fun h_6 => ?_) (fun h_6 => ?_)
    ·
      refine x_aload_n C dX5_tread_32 rfl 0 rfl ?_
      refine x_get C hK in_X5_tread_X5 0 rfl rfl 3 (by decide) (by decide +kernel) rfl rfl dX5_tread_33 ?_
      refine x_iconst C (nI 1) dX5_tread_36 (by decide +kernel) ?_
      refine x_iald C hK 1 0 rfl hI (by omega) (by omega) dX5_tread_37 ?_
      refine x_topi (nI np) rfl ?_
      refine x_bipush C (nI 40) dX5_tread_38 (by decide +kernel) ?_
      refine xn_icmp_ne C 51 (by omega) (by omega) dX5_tread_40 (by decide) (fun h_7 => ?_) (fun h_7 => ?_)
      ·
        refine x_aload_n C dX5_tread_51 rfl 0 rfl ?_
        refine x_iconst C (nI 1) dX5_tread_52 (by decide +kernel) ?_
        refine x_iload_n C dX5_tread_53 rfl 1 rfl ?_
        refine x_iload_n C dX5_tread_54 rfl 2 rfl ?_
        refine x_calli (x_runV C hK hNW (c_m_add1 l D tys cI cJ cA hI hJ hR yo (nI 0) ri yt ys yf yc co dn yd nw np g0 g1 bw bp k0 k1 cw cp (nI tr) (nI cl) (by first | omega | assumption)) (cwV 3 C.2.2.2.2 gX5_tread_X5_add rfl rfl rfl (by decide +kernel) ⟨by decide, by decide⟩) [0, 1, 2, 3, 4, 5, 6, 7] rfl (by decide) 0 5 rfl rfl rfl (st := []) rfl rfl (Nat.le_of_ble_eq_true rfl) dX5_tread_55 ⟨by first | decide | omega, by first | decide | omega⟩) hA [0, 1, 2, 3, 4, 5, 6, 7] rfl [] [] rfl (by decide) (by decide) [0, 1, 2, 3, 4, 5, 6, 7] (by decide) (wf := (fun (u : Unit) => [(yo, OB 5 [.int (nI 0), .int ri, .ref yt, .ref ys, .ref yf, .ref yc, .int (nI co), .int (nI dn), .ref yd]), (ys, AI cI 2 (sz2 nw (np + 1))), (yf, AR cA 2 (gr2 g0 g1)), (g0, AI cI 40 bw), (g1, AI cI 40 (upd bp np (nI tr))), (yc, AR cA 2 (gr2 k0 k1)), (k0, AI cI 40 cw), (k1, AI cI 40 (upd cp np (nI cl)))])) (fun _ => rfl) (fun r_8 u h_9 => ?_)
        subst h_9
        refine x_iret C hK hlk hrt hQ hH0 hAA () ?_ [0, 1, 2, 3, 4, 5, 6, 7] (by decide) rfl (by first | decide | omega) (by first | decide | omega) dX5_tread_58
        first | rfl | (exact ⟨rfl, rfl⟩) | trivial | assumption | omega
      ·
        exact False.elim (by omega)
    ·
      exact absurd ((bI_eq0 h_6).symm.trans ((below_n (j := cl) (b := 7 + 1) (by omega)).trans (decide_eq_true (by omega)))) (by decide)
abbrev rm_m_treadX1 : Room := { frames := 1, cells := 0, slots := 0, locals := 22 }
set_option maxRecDepth 100000 in
set_option maxHeartbeats 4000000 in
theorem c_m_treadX1 (l : Launch) (D : va_G) (tys : List (ClassId × FieldType)) (cI cJ cA : ClassId) (hI : tys[0]? = some (cI, .int)) (hJ : tys[1]? = some (cJ, .long)) (hR : tys[2]? = some (cA, .array .int)) (yo : Nat) (thr : Int32) (ri : Int32) (yt : Nat) (ys : Nat) (yf : Nat) (yc : Nat) (co : Nat) (dn : Nat) (yd : Nat) (tr : Int32) (cl : Int32) (hx : ¬ (below tr (2 ^ 10) = true ∧ below cl 8 = true)) : MI l yX5_tread wsX5_tread rm_m_treadX1 D tys [.ref yo, .int tr, .int cl] [(yo, OB 5 [.int thr, .int ri, .ref yt, .ref ys, .ref yf, .ref yc, .int (nI co), .int (nI dn), .ref yd])] Unit (fun r (_ : Unit) => r = nI 0) (fun (_ : Unit) => [(yo, OB 5 [.int (nI 1), .int ri, .ref yt, .ref ys, .ref yf, .ref yc, .int (nI co), .int (nI dn), .ref yd])]) 0 0 := by
  intro sz
  refine x_met (cc := cX5_tread) (maxL := 3) (ret := (some .int)) (by decide +kernel) rfl (by show _ ≤ _; simp [lg_sl, Value.category]) [(0, .ref yo), (1, .int tr), (2, .int cl)] rfl ?_
  intro p e s m args below meth c Q A H0 C hK hNW hlk hrt hnm hQ hH0 hAA hA
  refine x_aload_n C dX5_tread_0 rfl 0 rfl ?_
  refine x_iconst C (nI 0) dX5_tread_1 (by decide +kernel) ?_
  refine x_put C hK in_X5_tread_X5 tyX5 tyX5_ok nmX5 0 rfl rfl 0 (by decide) (by decide +kernel) rfl rfl (tyX5_ok 0 (by decide)) rfl rfl (Nat.le_of_ble_eq_true rfl) [(yo, OB 5 [.int (nI 0), .int ri, .ref yt, .ref ys, .ref yf, .ref yc, .int (nI co), .int (nI dn), .ref yd])] rfl dX5_tread_2 ?_
  refine x_iload_n C dX5_tread_5 rfl 1 rfl ?_
  refine x_iconst C (nI 0) dX5_tread_6 (by decide +kernel) ?_
  refine x_sipush C (nI 1023) dX5_tread_7 (by decide +kernel) ?_
  refine x_calli (x_runS C hK hNW (c_m_isIn0 l D tys cI cJ cA hI hJ hR tr 1023 (by first | omega | assumption)) (va_cwS 3 C.2.2.2.2 gX5_tread_X5_isIn rfl rfl rfl (by decide +kernel) ⟨by decide, by decide⟩) [] rfl (by decide) (st := []) rfl rfl (Nat.le_of_ble_eq_true rfl) dX5_tread_10 ⟨by first | decide | omega, by first | decide | omega⟩) hA [] rfl [0] [(yo, OB 5 [.int (nI 0), .int ri, .ref yt, .ref ys, .ref yf, .ref yc, .int (nI co), .int (nI dn), .ref yd])] rfl (by decide) (by decide) [0] (by decide) (wf := (fun (u : Unit) => [(yo, OB 5 [.int (nI 0), .int ri, .ref yt, .ref ys, .ref yf, .ref yc, .int (nI co), .int (nI dn), .ref yd])])) (fun _ => rfl) (fun r_1 u h_2 => ?_)
  subst h_2
  refine x_if_eq C 26 dX5_tread_13 (by decide) (fun h_3 => ?_) (fun h_3 => ?_)
  ·
    refine x_aload_n C dX5_tread_26 rfl 0 rfl ?_
    refine x_iconst C (nI 1) dX5_tread_27 (by decide +kernel) ?_
    refine x_calli (x_runV C hK hNW (c_m_fail l D tys cI cJ cA hI hJ hR yo (nI 0) ri yt ys yf yc co dn yd 1 ) (cwV 1 C.2.2.2.2 gX5_tread_X5_fail rfl rfl rfl (by decide +kernel) ⟨by decide, by decide⟩) [0] rfl (by decide) 0 5 rfl rfl rfl (st := []) rfl rfl (Nat.le_of_ble_eq_true rfl) dX5_tread_28 ⟨by first | decide | omega, by first | decide | omega⟩) hA [0] rfl [] [] rfl (by decide) (by decide) [0] (by decide) (wf := (fun (u : Unit) => [(yo, OB 5 [.int (nI 1), .int ri, .ref yt, .ref ys, .ref yf, .ref yc, .int (nI co), .int (nI dn), .ref yd])])) (fun _ => rfl) (fun r_4 u h_5 => ?_)
    subst h_5
    refine x_iret C hK hlk hrt hQ hH0 hAA () ?_ [0] (by decide) rfl (by first | decide | omega) (by first | decide | omega) dX5_tread_31
    first | rfl | (exact ⟨rfl, rfl⟩) | trivial | assumption | omega
  ·
    refine x_iload_n C dX5_tread_16 rfl 2 rfl ?_
    refine x_iconst C (nI 0) dX5_tread_17 (by decide +kernel) ?_
    refine x_bipush C (nI 7) dX5_tread_18 (by decide +kernel) ?_
    refine x_calli (x_runS C hK hNW (c_m_isIn0 l D tys cI cJ cA hI hJ hR cl 7 (by first | omega | assumption)) (va_cwS 3 C.2.2.2.2 gX5_tread_X5_isIn rfl rfl rfl (by decide +kernel) ⟨by decide, by decide⟩) [] rfl (by decide) (st := []) rfl rfl (Nat.le_of_ble_eq_true rfl) dX5_tread_20 ⟨by first | decide | omega, by first | decide | omega⟩) hA [] rfl [0] [(yo, OB 5 [.int (nI 0), .int ri, .ref yt, .ref ys, .ref yf, .ref yc, .int (nI co), .int (nI dn), .ref yd])] rfl (by decide) (by decide) [0] (by decide) (wf := (fun (u : Unit) => [(yo, OB 5 [.int (nI 0), .int ri, .ref yt, .ref ys, .ref yf, .ref yc, .int (nI co), .int (nI dn), .ref yd])])) (fun _ => rfl) (fun r_6 u h_7 => ?_)
    subst h_7
    refine x_if_ne C 32 dX5_tread_23 (by decide) (fun h_8 => ?_) (fun h_8 => ?_)
    ·
      exact absurd ⟨bI_ne0 (by assumption), bI_ne0 h_8⟩ hx
    ·
      refine x_aload_n C dX5_tread_26 rfl 0 rfl ?_
      refine x_iconst C (nI 1) dX5_tread_27 (by decide +kernel) ?_
      refine x_calli (x_runV C hK hNW (c_m_fail l D tys cI cJ cA hI hJ hR yo (nI 0) ri yt ys yf yc co dn yd 1 ) (cwV 1 C.2.2.2.2 gX5_tread_X5_fail rfl rfl rfl (by decide +kernel) ⟨by decide, by decide⟩) [0] rfl (by decide) 0 5 rfl rfl rfl (st := []) rfl rfl (Nat.le_of_ble_eq_true rfl) dX5_tread_28 ⟨by first | decide | omega, by first | decide | omega⟩) hA [0] rfl [] [] rfl (by decide) (by decide) [0] (by decide) (wf := (fun (u : Unit) => [(yo, OB 5 [.int (nI 1), .int ri, .ref yt, .ref ys, .ref yf, .ref yc, .int (nI co), .int (nI dn), .ref yd])])) (fun _ => rfl) (fun r_9 u h_10 => ?_)
      subst h_10
      refine x_iret C hK hlk hrt hQ hH0 hAA () ?_ [0] (by decide) rfl (by first | decide | omega) (by first | decide | omega) dX5_tread_31
      first | rfl | (exact ⟨rfl, rfl⟩) | trivial | assumption | omega
abbrev rm_m_treadX2 : Room := { frames := 1, cells := 0, slots := 0, locals := 22 }
set_option maxRecDepth 100000 in
set_option maxHeartbeats 4000000 in
theorem c_m_treadX2 (l : Launch) (D : va_G) (tys : List (ClassId × FieldType)) (cI cJ cA : ClassId) (hI : tys[0]? = some (cI, .int)) (hJ : tys[1]? = some (cJ, .long)) (hR : tys[2]? = some (cA, .array .int)) (yo : Nat) (thr : Int32) (ri : Int32) (yt : Nat) (ys : Nat) (yf : Nat) (yc : Nat) (co : Nat) (dn : Nat) (yd : Nat) (nw : Nat) (tr : Int32) (cl : Int32) (h1 : below tr (2 ^ 10) = true) (h2 : below cl 8 = true) : MI l yX5_tread wsX5_tread rm_m_treadX2 D tys [.ref yo, .int tr, .int cl] [(yo, OB 5 [.int thr, .int ri, .ref yt, .ref ys, .ref yf, .ref yc, .int (nI co), .int (nI dn), .ref yd]), (ys, AI cI 2 (sz2 nw 40))] Unit (fun r (_ : Unit) => r = nI 0) (fun (_ : Unit) => [(yo, OB 5 [.int (nI 2), .int ri, .ref yt, .ref ys, .ref yf, .ref yc, .int (nI co), .int (nI dn), .ref yd]), (ys, AI cI 2 (sz2 nw 40))]) 0 0 := by
  intro sz
  refine x_met (cc := cX5_tread) (maxL := 3) (ret := (some .int)) (by decide +kernel) rfl (by show _ ≤ _; simp [lg_sl, Value.category]) [(0, .ref yo), (1, .int tr), (2, .int cl)] rfl ?_
  intro p e s m args below meth c Q A H0 C hK hNW hlk hrt hnm hQ hH0 hAA hA
  refine x_aload_n C dX5_tread_0 rfl 0 rfl ?_
  refine x_iconst C (nI 0) dX5_tread_1 (by decide +kernel) ?_
  refine x_put C hK in_X5_tread_X5 tyX5 tyX5_ok nmX5 0 rfl rfl 0 (by decide) (by decide +kernel) rfl rfl (tyX5_ok 0 (by decide)) rfl rfl (Nat.le_of_ble_eq_true rfl) [(yo, OB 5 [.int (nI 0), .int ri, .ref yt, .ref ys, .ref yf, .ref yc, .int (nI co), .int (nI dn), .ref yd]), (ys, AI cI 2 (sz2 nw 40))] rfl dX5_tread_2 ?_
  refine x_iload_n C dX5_tread_5 rfl 1 rfl ?_
  refine x_iconst C (nI 0) dX5_tread_6 (by decide +kernel) ?_
  refine x_sipush C (nI 1023) dX5_tread_7 (by decide +kernel) ?_
  refine x_calli (x_runS C hK hNW (c_m_isIn0 l D tys cI cJ cA hI hJ hR tr 1023 (by first | omega | assumption)) (va_cwS 3 C.2.2.2.2 gX5_tread_X5_isIn rfl rfl rfl (by decide +kernel) ⟨by decide, by decide⟩) [] rfl (by decide) (st := []) rfl rfl (Nat.le_of_ble_eq_true rfl) dX5_tread_10 ⟨by first | decide | omega, by first | decide | omega⟩) hA [] rfl [0, 1] [(yo, OB 5 [.int (nI 0), .int ri, .ref yt, .ref ys, .ref yf, .ref yc, .int (nI co), .int (nI dn), .ref yd]), (ys, AI cI 2 (sz2 nw 40))] rfl (by decide) (by decide) [0, 1] (by decide) (wf := (fun (u : Unit) => [(yo, OB 5 [.int (nI 0), .int ri, .ref yt, .ref ys, .ref yf, .ref yc, .int (nI co), .int (nI dn), .ref yd]), (ys, AI cI 2 (sz2 nw 40))])) (fun _ => rfl) (fun r_1 u h_2 => ?_)
  subst h_2
  refine x_if_eq C 26 dX5_tread_13 (by decide) (fun h_3 => ?_) (fun h_3 => ?_)
  ·
    exact absurd ((bI_eq0 h_3).symm.trans h1) (by decide)
  ·
    refine x_iload_n C dX5_tread_16 rfl 2 rfl ?_
    refine x_iconst C (nI 0) dX5_tread_17 (by decide +kernel) ?_
    refine x_bipush C (nI 7) dX5_tread_18 (by decide +kernel) ?_
    refine x_calli (x_runS C hK hNW (c_m_isIn0 l D tys cI cJ cA hI hJ hR cl 7 (by first | omega | assumption)) (va_cwS 3 C.2.2.2.2 gX5_tread_X5_isIn rfl rfl rfl (by decide +kernel) ⟨by decide, by decide⟩) [] rfl (by decide) (st := []) rfl rfl (Nat.le_of_ble_eq_true rfl) dX5_tread_20 ⟨by first | decide | omega, by first | decide | omega⟩) hA [] rfl [0, 1] [(yo, OB 5 [.int (nI 0), .int ri, .ref yt, .ref ys, .ref yf, .ref yc, .int (nI co), .int (nI dn), .ref yd]), (ys, AI cI 2 (sz2 nw 40))] rfl (by decide) (by decide) [0, 1] (by decide) (wf := (fun (u : Unit) => [(yo, OB 5 [.int (nI 0), .int ri, .ref yt, .ref ys, .ref yf, .ref yc, .int (nI co), .int (nI dn), .ref yd]), (ys, AI cI 2 (sz2 nw 40))])) (fun _ => rfl) (fun r_4 u h_5 => ?_)
    subst h_5
    refine x_if_ne C 32 dX5_tread_23 (by decide) (fun h_6 => ?_) (fun h_6 => ?_)
    ·
      refine x_aload_n C dX5_tread_32 rfl 0 rfl ?_
      refine x_get C hK in_X5_tread_X5 0 rfl rfl 3 (by decide) (by decide +kernel) rfl rfl dX5_tread_33 ?_
      refine x_iconst C (nI 1) dX5_tread_36 (by decide +kernel) ?_
      refine x_iald C hK 1 0 rfl hI (by omega) (by omega) dX5_tread_37 ?_
      refine x_topi (nI 40) rfl ?_
      refine x_bipush C (nI 40) dX5_tread_38 (by decide +kernel) ?_
      refine xn_icmp_ne C 51 (by omega) (by omega) dX5_tread_40 (by decide) (fun h_7 => ?_) (fun h_7 => ?_)
      ·
        exact absurd h_7 (by first | decide | omega)
      ·
        refine x_aload_n C dX5_tread_43 rfl 0 rfl ?_
        refine x_iconst C (nI 2) dX5_tread_44 (by decide +kernel) ?_
        refine x_calli (x_runV C hK hNW (c_m_fail l D tys cI cJ cA hI hJ hR yo (nI 0) ri yt ys yf yc co dn yd 2 ) (cwV 1 C.2.2.2.2 gX5_tread_X5_fail rfl rfl rfl (by decide +kernel) ⟨by decide, by decide⟩) [0] rfl (by decide) 0 5 rfl rfl rfl (st := []) rfl rfl (Nat.le_of_ble_eq_true rfl) dX5_tread_45 ⟨by first | decide | omega, by first | decide | omega⟩) hA [0] rfl [1] [(ys, AI cI 2 (sz2 nw 40))] rfl (by decide) (by decide) [1, 0] (by decide) (wf := (fun (u : Unit) => [(yo, OB 5 [.int (nI 2), .int ri, .ref yt, .ref ys, .ref yf, .ref yc, .int (nI co), .int (nI dn), .ref yd]), (ys, AI cI 2 (sz2 nw 40))])) (fun _ => rfl) (fun r_8 u h_9 => ?_)
        subst h_9
        refine x_goto C 58 dX5_tread_48 (by decide) ?_
        refine x_iret C hK hlk hrt hQ hH0 hAA () ?_ [0, 1] (by decide) rfl (by first | decide | omega) (by first | decide | omega) dX5_tread_58
        first | rfl | (exact ⟨rfl, rfl⟩) | trivial | assumption | omega
    ·
      exact absurd ((bI_eq0 h_6).symm.trans h2) (by decide)
abbrev rm_m_tie : Room := { frames := 1, cells := 0, slots := 0, locals := 22 }
set_option maxRecDepth 100000 in
set_option maxHeartbeats 4000000 in
theorem c_m_tie (l : Launch) (D : va_G) (tys : List (ClassId × FieldType)) (cI cJ cA : ClassId) (hI : tys[0]? = some (cI, .int)) (hJ : tys[1]? = some (cJ, .long)) (hR : tys[2]? = some (cA, .array .int)) (yo : Nat) (thr : Int32) (ri : Int32) (yt : Nat) (ys : Nat) (yf : Nat) (yc : Nat) (co : Nat) (dn : Nat) (yd : Nat) (ti : Nat → Int32) (tr : Nat) (sh : Nat) (htr : tr < 10) (hsh : sh < 256) : MI l yX5_tie wsX5_tie rm_m_tie D tys [.ref yo, .int (nI tr), .int (nI sh)] [(yo, OB 5 [.int thr, .int ri, .ref yt, .ref ys, .ref yf, .ref yc, .int (nI co), .int (nI dn), .ref yd]), (yt, AI cI 10 ti)] Unit (fun r (_ : Unit) => r = ti tr) (fun (_ : Unit) => [(yo, OB 5 [.int (nI 0), .int ri, .ref yt, .ref ys, .ref yf, .ref yc, .int (nI co), .int (nI dn), .ref yd]), (yt, AI cI 10 (upd ti tr (nI sh)))]) 0 0 := by
  intro sz
  refine x_met (cc := cX5_tie) (maxL := 4) (ret := (some .int)) (by decide +kernel) rfl (by show _ ≤ _; simp [lg_sl, Value.category]) [(0, .ref yo), (1, .int (nI tr)), (2, .int (nI sh))] rfl ?_
  intro p e s m args below meth c Q A H0 C hK hNW hlk hrt hnm hQ hH0 hAA hA
  refine x_aload_n C dX5_tie_0 rfl 0 rfl ?_
  refine x_iconst C (nI 0) dX5_tie_1 (by decide +kernel) ?_
  refine x_put C hK in_X5_tie_X5 tyX5 tyX5_ok nmX5 0 rfl rfl 0 (by decide) (by decide +kernel) rfl rfl (tyX5_ok 0 (by decide)) rfl rfl (Nat.le_of_ble_eq_true rfl) [(yo, OB 5 [.int (nI 0), .int ri, .ref yt, .ref ys, .ref yf, .ref yc, .int (nI co), .int (nI dn), .ref yd]), (yt, AI cI 10 ti)] rfl dX5_tie_2 ?_
  refine x_iload_n C dX5_tie_5 rfl 1 rfl ?_
  refine x_iconst C (nI 0) dX5_tie_6 (by decide +kernel) ?_
  refine x_bipush C (nI 9) dX5_tie_7 (by decide +kernel) ?_
  refine x_calli (x_runS C hK hNW (c_m_isIn0 l D tys cI cJ cA hI hJ hR (nI tr) 9 (by first | omega | assumption)) (va_cwS 3 C.2.2.2.2 gX5_tie_X5_isIn rfl rfl rfl (by decide +kernel) ⟨by decide, by decide⟩) [] rfl (by decide) (st := []) rfl rfl (Nat.le_of_ble_eq_true rfl) dX5_tie_9 ⟨by first | decide | omega, by first | decide | omega⟩) hA [] rfl [0, 1] [(yo, OB 5 [.int (nI 0), .int ri, .ref yt, .ref ys, .ref yf, .ref yc, .int (nI co), .int (nI dn), .ref yd]), (yt, AI cI 10 ti)] rfl (by decide) (by decide) [0, 1] (by decide) (wf := (fun (u : Unit) => [(yo, OB 5 [.int (nI 0), .int ri, .ref yt, .ref ys, .ref yf, .ref yc, .int (nI co), .int (nI dn), .ref yd]), (yt, AI cI 10 ti)])) (fun _ => rfl) (fun r_1 u h_2 => ?_)
  subst h_2
  refine x_if_ne C 21 dX5_tie_12 (by decide) (fun h_3 => ?_) (fun h_3 => ?_)
  ·
    refine x_iload_n C dX5_tie_21 rfl 2 rfl ?_
    refine x_iconst C (nI 0) dX5_tie_22 (by decide +kernel) ?_
    refine x_sipush C (nI 255) dX5_tie_23 (by decide +kernel) ?_
    refine x_calli (x_runS C hK hNW (c_m_isIn0 l D tys cI cJ cA hI hJ hR (nI sh) 255 (by first | omega | assumption)) (va_cwS 3 C.2.2.2.2 gX5_tie_X5_isIn rfl rfl rfl (by decide +kernel) ⟨by decide, by decide⟩) [] rfl (by decide) (st := []) rfl rfl (Nat.le_of_ble_eq_true rfl) dX5_tie_26 ⟨by first | decide | omega, by first | decide | omega⟩) hA [] rfl [0, 1] [(yo, OB 5 [.int (nI 0), .int ri, .ref yt, .ref ys, .ref yf, .ref yc, .int (nI co), .int (nI dn), .ref yd]), (yt, AI cI 10 ti)] rfl (by decide) (by decide) [0, 1] (by decide) (wf := (fun (u : Unit) => [(yo, OB 5 [.int (nI 0), .int ri, .ref yt, .ref ys, .ref yf, .ref yc, .int (nI co), .int (nI dn), .ref yd]), (yt, AI cI 10 ti)])) (fun _ => rfl) (fun r_4 u h_5 => ?_)
    subst h_5
    refine x_if_ne C 38 dX5_tie_29 (by decide) (fun h_6 => ?_) (fun h_6 => ?_)
    ·
      refine x_aload_n C dX5_tie_38 rfl 0 rfl ?_
      refine x_get C hK in_X5_tie_X5 0 rfl rfl 2 (by decide) (by decide +kernel) rfl rfl dX5_tie_39 ?_
      refine x_iload_n C dX5_tie_42 rfl 1 rfl ?_
      refine x_iald C hK 1 0 rfl hI (by omega) (by omega) dX5_tie_43 ?_
      refine x_istore_n C [(3, .int (ti tr)), (0, .ref yo), (1, .int (nI tr)), (2, .int (nI sh))] dX5_tie_44 rfl (by decide) rfl ?_
      refine x_aload_n C dX5_tie_45 rfl 1 rfl ?_
      refine x_get C hK in_X5_tie_X5 0 rfl rfl 2 (by decide) (by decide +kernel) rfl rfl dX5_tie_46 ?_
      refine x_iload_n C dX5_tie_49 rfl 2 rfl ?_
      refine x_iload_n C dX5_tie_50 rfl 3 rfl ?_
      refine x_iast C hK 1 0 rfl hI (by omega) (by omega) [(yo, OB 5 [.int (nI 0), .int ri, .ref yt, .ref ys, .ref yf, .ref yc, .int (nI co), .int (nI dn), .ref yd]), (yt, AI cI 10 (upd ti tr (nI sh)))] rfl dX5_tie_51 ?_
      refine x_iload_n C dX5_tie_52 rfl 0 rfl ?_
      refine x_iret C hK hlk hrt hQ hH0 hAA () ?_ [0, 1] (by decide) rfl (by first | decide | omega) (by first | decide | omega) dX5_tie_53
      first | rfl | (exact ⟨rfl, rfl⟩) | trivial | assumption | omega
    ·
      exact absurd ((bI_eq0 h_6).symm.trans ((below_n (j := sh) (b := 255 + 1) (by omega)).trans (decide_eq_true (by omega)))) (by decide)
  ·
    exact absurd ((bI_eq0 h_3).symm.trans ((below_n (j := tr) (b := 9 + 1) (by omega)).trans (decide_eq_true (by omega)))) (by decide)
abbrev rm_m_tieX1 : Room := { frames := 1, cells := 0, slots := 0, locals := 22 }
set_option maxRecDepth 100000 in
set_option maxHeartbeats 4000000 in
theorem c_m_tieX1 (l : Launch) (D : va_G) (tys : List (ClassId × FieldType)) (cI cJ cA : ClassId) (hI : tys[0]? = some (cI, .int)) (hJ : tys[1]? = some (cJ, .long)) (hR : tys[2]? = some (cA, .array .int)) (yo : Nat) (thr : Int32) (ri : Int32) (yt : Nat) (ys : Nat) (yf : Nat) (yc : Nat) (co : Nat) (dn : Nat) (yd : Nat) (tr : Int32) (sh : Int32) (hx : below tr 10 = false) : MI l yX5_tie wsX5_tie rm_m_tieX1 D tys [.ref yo, .int tr, .int sh] [(yo, OB 5 [.int thr, .int ri, .ref yt, .ref ys, .ref yf, .ref yc, .int (nI co), .int (nI dn), .ref yd])] Unit (fun r (_ : Unit) => r = nI 0) (fun (_ : Unit) => [(yo, OB 5 [.int (nI 1), .int ri, .ref yt, .ref ys, .ref yf, .ref yc, .int (nI co), .int (nI dn), .ref yd])]) 0 0 := by
  intro sz
  refine x_met (cc := cX5_tie) (maxL := 4) (ret := (some .int)) (by decide +kernel) rfl (by show _ ≤ _; simp [lg_sl, Value.category]) [(0, .ref yo), (1, .int tr), (2, .int sh)] rfl ?_
  intro p e s m args below meth c Q A H0 C hK hNW hlk hrt hnm hQ hH0 hAA hA
  refine x_aload_n C dX5_tie_0 rfl 0 rfl ?_
  refine x_iconst C (nI 0) dX5_tie_1 (by decide +kernel) ?_
  refine x_put C hK in_X5_tie_X5 tyX5 tyX5_ok nmX5 0 rfl rfl 0 (by decide) (by decide +kernel) rfl rfl (tyX5_ok 0 (by decide)) rfl rfl (Nat.le_of_ble_eq_true rfl) [(yo, OB 5 [.int (nI 0), .int ri, .ref yt, .ref ys, .ref yf, .ref yc, .int (nI co), .int (nI dn), .ref yd])] rfl dX5_tie_2 ?_
  refine x_iload_n C dX5_tie_5 rfl 1 rfl ?_
  refine x_iconst C (nI 0) dX5_tie_6 (by decide +kernel) ?_
  refine x_bipush C (nI 9) dX5_tie_7 (by decide +kernel) ?_
  refine x_calli (x_runS C hK hNW (c_m_isIn0 l D tys cI cJ cA hI hJ hR tr 9 (by first | omega | assumption)) (va_cwS 3 C.2.2.2.2 gX5_tie_X5_isIn rfl rfl rfl (by decide +kernel) ⟨by decide, by decide⟩) [] rfl (by decide) (st := []) rfl rfl (Nat.le_of_ble_eq_true rfl) dX5_tie_9 ⟨by first | decide | omega, by first | decide | omega⟩) hA [] rfl [0] [(yo, OB 5 [.int (nI 0), .int ri, .ref yt, .ref ys, .ref yf, .ref yc, .int (nI co), .int (nI dn), .ref yd])] rfl (by decide) (by decide) [0] (by decide) (wf := (fun (u : Unit) => [(yo, OB 5 [.int (nI 0), .int ri, .ref yt, .ref ys, .ref yf, .ref yc, .int (nI co), .int (nI dn), .ref yd])])) (fun _ => rfl) (fun r_1 u h_2 => ?_)
  subst h_2
  refine x_if_ne C 21 dX5_tie_12 (by decide) (fun h_3 => ?_) (fun h_3 => ?_)
  ·
    exact absurd ((bI_ne0 h_3).symm.trans hx) (by decide)
  ·
    refine x_aload_n C dX5_tie_15 rfl 0 rfl ?_
    refine x_iconst C (nI 1) dX5_tie_16 (by decide +kernel) ?_
    refine x_calli (x_runV C hK hNW (c_m_fail l D tys cI cJ cA hI hJ hR yo (nI 0) ri yt ys yf yc co dn yd 1 ) (cwV 1 C.2.2.2.2 gX5_tie_X5_fail rfl rfl rfl (by decide +kernel) ⟨by decide, by decide⟩) [0] rfl (by decide) 0 5 rfl rfl rfl (st := []) rfl rfl (Nat.le_of_ble_eq_true rfl) dX5_tie_17 ⟨by first | decide | omega, by first | decide | omega⟩) hA [0] rfl [] [] rfl (by decide) (by decide) [0] (by decide) (wf := (fun (u : Unit) => [(yo, OB 5 [.int (nI 1), .int ri, .ref yt, .ref ys, .ref yf, .ref yc, .int (nI co), .int (nI dn), .ref yd])])) (fun _ => rfl) (fun r_4 u h_5 => ?_)
    subst h_5
    refine x_iret C hK hlk hrt hQ hH0 hAA () ?_ [0] (by decide) rfl (by first | decide | omega) (by first | decide | omega) dX5_tie_20
    first | rfl | (exact ⟨rfl, rfl⟩) | trivial | assumption | omega
abbrev rm_m_tieX2 : Room := { frames := 1, cells := 0, slots := 0, locals := 22 }
set_option maxRecDepth 100000 in
set_option maxHeartbeats 4000000 in
theorem c_m_tieX2 (l : Launch) (D : va_G) (tys : List (ClassId × FieldType)) (cI cJ cA : ClassId) (hI : tys[0]? = some (cI, .int)) (hJ : tys[1]? = some (cJ, .long)) (hR : tys[2]? = some (cA, .array .int)) (yo : Nat) (thr : Int32) (ri : Int32) (yt : Nat) (ys : Nat) (yf : Nat) (yc : Nat) (co : Nat) (dn : Nat) (yd : Nat) (tr : Int32) (sh : Int32) (h1 : below tr 10 = true) (hx : below sh (2 ^ 8) = false) : MI l yX5_tie wsX5_tie rm_m_tieX2 D tys [.ref yo, .int tr, .int sh] [(yo, OB 5 [.int thr, .int ri, .ref yt, .ref ys, .ref yf, .ref yc, .int (nI co), .int (nI dn), .ref yd])] Unit (fun r (_ : Unit) => r = nI 0) (fun (_ : Unit) => [(yo, OB 5 [.int (nI 2), .int ri, .ref yt, .ref ys, .ref yf, .ref yc, .int (nI co), .int (nI dn), .ref yd])]) 0 0 := by
  intro sz
  refine x_met (cc := cX5_tie) (maxL := 4) (ret := (some .int)) (by decide +kernel) rfl (by show _ ≤ _; simp [lg_sl, Value.category]) [(0, .ref yo), (1, .int tr), (2, .int sh)] rfl ?_
  intro p e s m args below meth c Q A H0 C hK hNW hlk hrt hnm hQ hH0 hAA hA
  refine x_aload_n C dX5_tie_0 rfl 0 rfl ?_
  refine x_iconst C (nI 0) dX5_tie_1 (by decide +kernel) ?_
  refine x_put C hK in_X5_tie_X5 tyX5 tyX5_ok nmX5 0 rfl rfl 0 (by decide) (by decide +kernel) rfl rfl (tyX5_ok 0 (by decide)) rfl rfl (Nat.le_of_ble_eq_true rfl) [(yo, OB 5 [.int (nI 0), .int ri, .ref yt, .ref ys, .ref yf, .ref yc, .int (nI co), .int (nI dn), .ref yd])] rfl dX5_tie_2 ?_
  refine x_iload_n C dX5_tie_5 rfl 1 rfl ?_
  refine x_iconst C (nI 0) dX5_tie_6 (by decide +kernel) ?_
  refine x_bipush C (nI 9) dX5_tie_7 (by decide +kernel) ?_
  refine x_calli (x_runS C hK hNW (c_m_isIn0 l D tys cI cJ cA hI hJ hR tr 9 (by first | omega | assumption)) (va_cwS 3 C.2.2.2.2 gX5_tie_X5_isIn rfl rfl rfl (by decide +kernel) ⟨by decide, by decide⟩) [] rfl (by decide) (st := []) rfl rfl (Nat.le_of_ble_eq_true rfl) dX5_tie_9 ⟨by first | decide | omega, by first | decide | omega⟩) hA [] rfl [0] [(yo, OB 5 [.int (nI 0), .int ri, .ref yt, .ref ys, .ref yf, .ref yc, .int (nI co), .int (nI dn), .ref yd])] rfl (by decide) (by decide) [0] (by decide) (wf := (fun (u : Unit) => [(yo, OB 5 [.int (nI 0), .int ri, .ref yt, .ref ys, .ref yf, .ref yc, .int (nI co), .int (nI dn), .ref yd])])) (fun _ => rfl) (fun r_1 u h_2 => ?_)
  subst h_2
  refine x_if_ne C 21 dX5_tie_12 (by decide) (fun h_3 => ?_) (fun h_3 => ?_)
  ·
    refine x_iload_n C dX5_tie_21 rfl 2 rfl ?_
    refine x_iconst C (nI 0) dX5_tie_22 (by decide +kernel) ?_
    refine x_sipush C (nI 255) dX5_tie_23 (by decide +kernel) ?_
    refine x_calli (x_runS C hK hNW (c_m_isIn0 l D tys cI cJ cA hI hJ hR sh 255 (by first | omega | assumption)) (va_cwS 3 C.2.2.2.2 gX5_tie_X5_isIn rfl rfl rfl (by decide +kernel) ⟨by decide, by decide⟩) [] rfl (by decide) (st := []) rfl rfl (Nat.le_of_ble_eq_true rfl) dX5_tie_26 ⟨by first | decide | omega, by first | decide | omega⟩) hA [] rfl [0] [(yo, OB 5 [.int (nI 0), .int ri, .ref yt, .ref ys, .ref yf, .ref yc, .int (nI co), .int (nI dn), .ref yd])] rfl (by decide) (by decide) [0] (by decide) (wf := (fun (u : Unit) => [(yo, OB 5 [.int (nI 0), .int ri, .ref yt, .ref ys, .ref yf, .ref yc, .int (nI co), .int (nI dn), .ref yd])])) (fun _ => rfl) (fun r_4 u h_5 => ?_)
    subst h_5
    refine x_if_ne C 38 dX5_tie_29 (by decide) (fun h_6 => ?_) (fun h_6 => ?_)
    ·
      exact absurd ((bI_ne0 h_6).symm.trans hx) (by decide)
    ·
      refine x_aload_n C dX5_tie_32 rfl 0 rfl ?_
      refine x_iconst C (nI 2) dX5_tie_33 (by decide +kernel) ?_
      refine x_calli (x_runV C hK hNW (c_m_fail l D tys cI cJ cA hI hJ hR yo (nI 0) ri yt ys yf yc co dn yd 2 ) (cwV 1 C.2.2.2.2 gX5_tie_X5_fail rfl rfl rfl (by decide +kernel) ⟨by decide, by decide⟩) [0] rfl (by decide) 0 5 rfl rfl rfl (st := []) rfl rfl (Nat.le_of_ble_eq_true rfl) dX5_tie_34 ⟨by first | decide | omega, by first | decide | omega⟩) hA [0] rfl [] [] rfl (by decide) (by decide) [0] (by decide) (wf := (fun (u : Unit) => [(yo, OB 5 [.int (nI 2), .int ri, .ref yt, .ref ys, .ref yf, .ref yc, .int (nI co), .int (nI dn), .ref yd])])) (fun _ => rfl) (fun r_7 u h_8 => ?_)
      subst h_8
      refine x_iret C hK hlk hrt hQ hH0 hAA () ?_ [0] (by decide) rfl (by first | decide | omega) (by first | decide | omega) dX5_tie_37
      first | rfl | (exact ⟨rfl, rfl⟩) | trivial | assumption | omega
  ·
    exact absurd ((bI_eq0 h_3).symm.trans h1) (by decide)
abbrev rm_m_setRising : Room := { frames := 0, cells := 0, slots := 0, locals := 0 }
set_option maxRecDepth 100000 in
set_option maxHeartbeats 4000000 in
theorem c_m_setRising (l : Launch) (D : va_G) (tys : List (ClassId × FieldType)) (cI cJ cA : ClassId) (hI : tys[0]? = some (cI, .int)) (hJ : tys[1]? = some (cJ, .long)) (hR : tys[2]? = some (cA, .array .int)) (yo : Nat) (thr : Int32) (ri : Int32) (yt : Nat) (ys : Nat) (yf : Nat) (yc : Nat) (co : Nat) (dn : Nat) (yd : Nat) (v : Int32) (hv : v = 0 ∨ v = 1) (hri : ri = 0 ∨ ri = 1) : MI l yX5_setRising wsX5_setRising rm_m_setRising D tys [.ref yo, .int v] [(yo, OB 5 [.int thr, .int ri, .ref yt, .ref ys, .ref yf, .ref yc, .int (nI co), .int (nI dn), .ref yd])] Unit (fun r (_ : Unit) => r = ri) (fun (_ : Unit) => [(yo, OB 5 [.int (nI 0), .int v, .ref yt, .ref ys, .ref yf, .ref yc, .int (nI co), .int (nI dn), .ref yd])]) 0 0 := by
  intro sz
  refine x_met (cc := cX5_setRising) (maxL := 3) (ret := (some .boolean)) (by decide +kernel) rfl (by show _ ≤ _; simp [lg_sl, Value.category]) [(0, .ref yo), (1, .int v)] rfl ?_
  intro p e s m args below meth c Q A H0 C hK hNW hlk hrt hnm hQ hH0 hAA hA
  refine x_aload_n C dX5_setRising_0 rfl 0 rfl ?_
  refine x_iconst C (nI 0) dX5_setRising_1 (by decide +kernel) ?_
  refine x_put C hK in_X5_setRising_X5 tyX5 tyX5_ok nmX5 0 rfl rfl 0 (by decide) (by decide +kernel) rfl rfl (tyX5_ok 0 (by decide)) rfl rfl (Nat.le_of_ble_eq_true rfl) [(yo, OB 5 [.int (nI 0), .int ri, .ref yt, .ref ys, .ref yf, .ref yc, .int (nI co), .int (nI dn), .ref yd])] rfl dX5_setRising_2 ?_
  refine x_aload_n C dX5_setRising_5 rfl 0 rfl ?_
  refine x_get C hK in_X5_setRising_X5 0 rfl rfl 1 (by decide) (by decide +kernel) rfl rfl dX5_setRising_6 ?_
  refine x_istore_n C [(2, .int ri), (0, .ref yo), (1, .int v)] dX5_setRising_9 rfl (by decide) rfl ?_
  refine x_aload_n C dX5_setRising_10 rfl 1 rfl ?_
  refine x_iload_n C dX5_setRising_11 rfl 2 rfl ?_
  refine x_put C hK in_X5_setRising_X5 tyX5 tyX5_ok nmX5 0 rfl rfl 1 (by decide) (by decide +kernel) rfl rfl (tyX5_ok 1 (by decide)) (gx_nz hv) (gx_fz hv) (Nat.le_of_ble_eq_true rfl) [(yo, OB 5 [.int (nI 0), .int v, .ref yt, .ref ys, .ref yf, .ref yc, .int (nI co), .int (nI dn), .ref yd])] rfl dX5_setRising_12 ?_
  refine x_iload_n C dX5_setRising_15 rfl 0 rfl ?_
  refine x_zret C hK hlk hrt hQ hH0 hAA () (by exact hri) ?_ [0] (by decide) rfl (by first | decide | omega) (by first | decide | omega) dX5_setRising_16
  first | rfl | (exact ⟨rfl, rfl⟩) | trivial | assumption | omega
abbrev rm_m_count1 : Room := { frames := 1, cells := 0, slots := 0, locals := 20 }
set_option maxRecDepth 100000 in
set_option maxHeartbeats 4000000 in
theorem c_m_count1 (l : Launch) (D : va_G) (tys : List (ClassId × FieldType)) (cI cJ cA : ClassId) (hI : tys[0]? = some (cI, .int)) (hJ : tys[1]? = some (cJ, .long)) (hR : tys[2]? = some (cA, .array .int)) (yo : Nat) (thr : Int32) (ri : Int32) (yt : Nat) (ys : Nat) (yf : Nat) (yc : Nat) (co : Nat) (dn : Nat) (yd : Nat) (nw : Nat) (np : Nat)  : MI l yX5_count wsX5_count rm_m_count1 D tys [.ref yo, .int (nI 1)] [(yo, OB 5 [.int thr, .int ri, .ref yt, .ref ys, .ref yf, .ref yc, .int (nI co), .int (nI dn), .ref yd]), (ys, AI cI 2 (sz2 nw np))] Unit (fun r (_ : Unit) => r = nI nw) (fun (_ : Unit) => [(yo, OB 5 [.int (nI 0), .int ri, .ref yt, .ref ys, .ref yf, .ref yc, .int (nI co), .int (nI dn), .ref yd]), (ys, AI cI 2 (sz2 nw np))]) 0 0 := by
  intro sz
  refine x_met (cc := cX5_count) (maxL := 2) (ret := (some .int)) (by decide +kernel) rfl (by show _ ≤ _; simp [lg_sl, Value.category]) [(0, .ref yo), (1, .int (nI 1))] rfl ?_
  intro p e s m args below meth c Q A H0 C hK hNW hlk hrt hnm hQ hH0 hAA hA
  refine x_aload_n C dX5_count_0 rfl 0 rfl ?_
  refine x_iconst C (nI 0) dX5_count_1 (by decide +kernel) ?_
  refine x_put C hK in_X5_count_X5 tyX5 tyX5_ok nmX5 0 rfl rfl 0 (by decide) (by decide +kernel) rfl rfl (tyX5_ok 0 (by decide)) rfl rfl (Nat.le_of_ble_eq_true rfl) [(yo, OB 5 [.int (nI 0), .int ri, .ref yt, .ref ys, .ref yf, .ref yc, .int (nI co), .int (nI dn), .ref yd]), (ys, AI cI 2 (sz2 nw np))] rfl dX5_count_2 ?_
  refine x_aload_n C dX5_count_5 rfl 0 rfl ?_
  refine x_get C hK in_X5_count_X5 0 rfl rfl 3 (by decide) (by decide +kernel) rfl rfl dX5_count_6 ?_
  refine x_iload_n C dX5_count_9 rfl 1 rfl ?_
  refine x_calli (x_runS C hK hNW (c_m_of1 l D tys cI cJ cA hI hJ hR  ) (va_cwS 1 C.2.2.2.2 gX5_count_X5_of rfl rfl rfl (by decide +kernel) ⟨by decide, by decide⟩) [] rfl (by decide) (st := [.ref ys]) rfl rfl (Nat.le_of_ble_eq_true rfl) dX5_count_10 ⟨by first | decide | omega, by first | decide | omega⟩) hA [] rfl [0, 1] [(yo, OB 5 [.int (nI 0), .int ri, .ref yt, .ref ys, .ref yf, .ref yc, .int (nI co), .int (nI dn), .ref yd]), (ys, AI cI 2 (sz2 nw np))] rfl (by decide) (by decide) [0, 1] (by decide) (wf := (fun (u : Unit) => [(yo, OB 5 [.int (nI 0), .int ri, .ref yt, .ref ys, .ref yf, .ref yc, .int (nI co), .int (nI dn), .ref yd]), (ys, AI cI 2 (sz2 nw np))])) (fun _ => rfl) (fun r_1 u h_2 => ?_)
  subst h_2
  refine x_iald C hK 1 0 rfl hI (by omega) (by omega) dX5_count_13 ?_
  refine x_topi (nI nw) rfl ?_
  refine x_iret C hK hlk hrt hQ hH0 hAA () ?_ [0, 1] (by decide) rfl (by first | decide | omega) (by first | decide | omega) dX5_count_14
  first | rfl | (exact ⟨rfl, rfl⟩) | trivial | assumption | omega
abbrev rm_m_count0 : Room := { frames := 1, cells := 0, slots := 0, locals := 20 }
set_option maxRecDepth 100000 in
set_option maxHeartbeats 4000000 in
theorem c_m_count0 (l : Launch) (D : va_G) (tys : List (ClassId × FieldType)) (cI cJ cA : ClassId) (hI : tys[0]? = some (cI, .int)) (hJ : tys[1]? = some (cJ, .long)) (hR : tys[2]? = some (cA, .array .int)) (yo : Nat) (thr : Int32) (ri : Int32) (yt : Nat) (ys : Nat) (yf : Nat) (yc : Nat) (co : Nat) (dn : Nat) (yd : Nat) (nw : Nat) (np : Nat)  : MI l yX5_count wsX5_count rm_m_count0 D tys [.ref yo, .int (nI 0)] [(yo, OB 5 [.int thr, .int ri, .ref yt, .ref ys, .ref yf, .ref yc, .int (nI co), .int (nI dn), .ref yd]), (ys, AI cI 2 (sz2 nw np))] Unit (fun r (_ : Unit) => r = nI np) (fun (_ : Unit) => [(yo, OB 5 [.int (nI 0), .int ri, .ref yt, .ref ys, .ref yf, .ref yc, .int (nI co), .int (nI dn), .ref yd]), (ys, AI cI 2 (sz2 nw np))]) 0 0 := by
  intro sz
  refine x_met (cc := cX5_count) (maxL := 2) (ret := (some .int)) (by decide +kernel) rfl (by show _ ≤ _; simp [lg_sl, Value.category]) [(0, .ref yo), (1, .int (nI 0))] rfl ?_
  intro p e s m args below meth c Q A H0 C hK hNW hlk hrt hnm hQ hH0 hAA hA
  refine x_aload_n C dX5_count_0 rfl 0 rfl ?_
  refine x_iconst C (nI 0) dX5_count_1 (by decide +kernel) ?_
  refine x_put C hK in_X5_count_X5 tyX5 tyX5_ok nmX5 0 rfl rfl 0 (by decide) (by decide +kernel) rfl rfl (tyX5_ok 0 (by decide)) rfl rfl (Nat.le_of_ble_eq_true rfl) [(yo, OB 5 [.int (nI 0), .int ri, .ref yt, .ref ys, .ref yf, .ref yc, .int (nI co), .int (nI dn), .ref yd]), (ys, AI cI 2 (sz2 nw np))] rfl dX5_count_2 ?_
  refine x_aload_n C dX5_count_5 rfl 0 rfl ?_
  refine x_get C hK in_X5_count_X5 0 rfl rfl 3 (by decide) (by decide +kernel) rfl rfl dX5_count_6 ?_
  refine x_iload_n C dX5_count_9 rfl 1 rfl ?_
  refine x_calli (x_runS C hK hNW (c_m_of0 l D tys cI cJ cA hI hJ hR  ) (va_cwS 1 C.2.2.2.2 gX5_count_X5_of rfl rfl rfl (by decide +kernel) ⟨by decide, by decide⟩) [] rfl (by decide) (st := [.ref ys]) rfl rfl (Nat.le_of_ble_eq_true rfl) dX5_count_10 ⟨by first | decide | omega, by first | decide | omega⟩) hA [] rfl [0, 1] [(yo, OB 5 [.int (nI 0), .int ri, .ref yt, .ref ys, .ref yf, .ref yc, .int (nI co), .int (nI dn), .ref yd]), (ys, AI cI 2 (sz2 nw np))] rfl (by decide) (by decide) [0, 1] (by decide) (wf := (fun (u : Unit) => [(yo, OB 5 [.int (nI 0), .int ri, .ref yt, .ref ys, .ref yf, .ref yc, .int (nI co), .int (nI dn), .ref yd]), (ys, AI cI 2 (sz2 nw np))])) (fun _ => rfl) (fun r_1 u h_2 => ?_)
  subst h_2
  refine x_iald C hK 1 0 rfl hI (by omega) (by omega) dX5_count_13 ?_
  refine x_topi (nI np) rfl ?_
  refine x_iret C hK hlk hrt hQ hH0 hAA () ?_ [0, 1] (by decide) rfl (by first | decide | omega) (by first | decide | omega) dX5_count_14
  first | rfl | (exact ⟨rfl, rfl⟩) | trivial | assumption | omega
abbrev rm_m_endS : Room := { frames := 1, cells := 0, slots := 0, locals := 22 }
set_option maxRecDepth 100000 in
set_option maxHeartbeats 4000000 in
theorem c_m_endS (l : Launch) (D : va_G) (tys : List (ClassId × FieldType)) (cI cJ cA : ClassId) (hI : tys[0]? = some (cI, .int)) (hJ : tys[1]? = some (cJ, .long)) (hR : tys[2]? = some (cA, .array .int)) (yo : Nat) (thr : Int32) (ri : Int32) (yt : Nat) (ys : Nat) (yf : Nat) (yc : Nat) (co : Nat) (dn : Nat) (yd : Nat) (nw : Nat) (np : Nat) (g0 : Nat) (g1 : Nat) (bw : Nat → Int32) (bp : Nat → Int32) (en : Nat) (hnw : nw ≤ 40) (hen : en < nw) : MI l yX5_end wsX5_end rm_m_endS D tys [.ref yo, .int (nI en), .int (nI 0)] [(yo, OB 5 [.int thr, .int ri, .ref yt, .ref ys, .ref yf, .ref yc, .int (nI co), .int (nI dn), .ref yd]), (ys, AI cI 2 (sz2 nw np)), (yf, AR cA 2 (gr2 g0 g1)), (g0, AI cI 40 bw), (g1, AI cI 40 bp)] Unit (fun r (_ : Unit) => r = bw en) (fun (_ : Unit) => [(yo, OB 5 [.int (nI 0), .int ri, .ref yt, .ref ys, .ref yf, .ref yc, .int (nI co), .int (nI dn), .ref yd]), (ys, AI cI 2 (sz2 nw np)), (yf, AR cA 2 (gr2 g0 g1)), (g0, AI cI 40 bw), (g1, AI cI 40 bp)]) 0 0 := by
  intro sz
  refine x_met (cc := cX5_end) (maxL := 3) (ret := (some .int)) (by decide +kernel) rfl (by show _ ≤ _; simp [lg_sl, Value.category]) [(0, .ref yo), (1, .int (nI en)), (2, .int (nI 0))] rfl ?_
  intro p e s m args below meth c Q A H0 C hK hNW hlk hrt hnm hQ hH0 hAA hA
  refine x_aload_n C dX5_end_0 rfl 0 rfl ?_
  refine x_iconst C (nI 0) dX5_end_1 (by decide +kernel) ?_
  refine x_put C hK in_X5_end_X5 tyX5 tyX5_ok nmX5 0 rfl rfl 0 (by decide) (by decide +kernel) rfl rfl (tyX5_ok 0 (by decide)) rfl rfl (Nat.le_of_ble_eq_true rfl) [(yo, OB 5 [.int (nI 0), .int ri, .ref yt, .ref ys, .ref yf, .ref yc, .int (nI co), .int (nI dn), .ref yd]), (ys, AI cI 2 (sz2 nw np)), (yf, AR cA 2 (gr2 g0 g1)), (g0, AI cI 40 bw), (g1, AI cI 40 bp)] rfl dX5_end_2 ?_
  refine x_iload_n C dX5_end_5 rfl 1 rfl ?_
  refine x_iconst C (nI 0) dX5_end_6 (by decide +kernel) ?_
  refine x_aload_n C dX5_end_7 rfl 0 rfl ?_
  refine x_get C hK in_X5_end_X5 0 rfl rfl 3 (by decide) (by decide +kernel) rfl rfl dX5_end_8 ?_
  refine x_iconst C (nI 0) dX5_end_11 (by decide +kernel) ?_
  refine x_iald C hK 1 0 rfl hI (by omega) (by omega) dX5_end_12 ?_
  refine x_topi (nI nw) rfl ?_
  refine x_iconst C (nI 1) dX5_end_13 (by decide +kernel) ?_
  refine x_isub C _ dX5_end_14 rfl ?_
  refine x_calli (x_runS C hK hNW (c_m_isInS l D tys cI cJ cA hI hJ hR (nI en) nw (by first | omega | assumption)) (va_cwS 3 C.2.2.2.2 gX5_end_X5_isIn rfl rfl rfl (by decide +kernel) ⟨by decide, by decide⟩) [] rfl (by decide) (st := []) rfl rfl (Nat.le_of_ble_eq_true rfl) dX5_end_15 ⟨by first | decide | omega, by first | decide | omega⟩) hA [] rfl [0, 1, 2, 3, 4] [(yo, OB 5 [.int (nI 0), .int ri, .ref yt, .ref ys, .ref yf, .ref yc, .int (nI co), .int (nI dn), .ref yd]), (ys, AI cI 2 (sz2 nw np)), (yf, AR cA 2 (gr2 g0 g1)), (g0, AI cI 40 bw), (g1, AI cI 40 bp)] rfl (by decide) (by decide) [0, 1, 2, 3, 4] (by decide) (wf := (fun (u : Unit) => [(yo, OB 5 [.int (nI 0), .int ri, .ref yt, .ref ys, .ref yf, .ref yc, .int (nI co), .int (nI dn), .ref yd]), (ys, AI cI 2 (sz2 nw np)), (yf, AR cA 2 (gr2 g0 g1)), (g0, AI cI 40 bw), (g1, AI cI 40 bp)])) (fun _ => rfl) (fun r_1 u h_2 => ?_)
  subst h_2
  refine x_if_eq C 30 dX5_end_18 (by decide) (fun h_3 => ?_) (fun h_3 => ?_)
  ·
    exact absurd ((bI_eq0 h_3).symm.trans ((below_n (j := en) (b := nw) (by omega)).trans (decide_eq_true (by omega)))) (by decide)
  ·
    refine x_iload_n C dX5_end_21 rfl 2 rfl ?_
    refine x_iconst C (nI 0) dX5_end_22 (by decide +kernel) ?_
    refine x_iconst C (nI 1) dX5_end_23 (by decide +kernel) ?_
    refine x_calli (x_runS C hK hNW (c_m_isIn0 l D tys cI cJ cA hI hJ hR (nI 0) 1 (by first | omega | assumption)) (va_cwS 3 C.2.2.2.2 gX5_end_X5_isIn rfl rfl rfl (by decide +kernel) ⟨by decide, by decide⟩) [] rfl (by decide) (st := []) rfl rfl (Nat.le_of_ble_eq_true rfl) dX5_end_24 ⟨by first | decide | omega, by first | decide | omega⟩) hA [] rfl [0, 1, 2, 3, 4] [(yo, OB 5 [.int (nI 0), .int ri, .ref yt, .ref ys, .ref yf, .ref yc, .int (nI co), .int (nI dn), .ref yd]), (ys, AI cI 2 (sz2 nw np)), (yf, AR cA 2 (gr2 g0 g1)), (g0, AI cI 40 bw), (g1, AI cI 40 bp)] rfl (by decide) (by decide) [0, 1, 2, 3, 4] (by decide) (wf := (fun (u : Unit) => [(yo, OB 5 [.int (nI 0), .int ri, .ref yt, .ref ys, .ref yf, .ref yc, .int (nI co), .int (nI dn), .ref yd]), (ys, AI cI 2 (sz2 nw np)), (yf, AR cA 2 (gr2 g0 g1)), (g0, AI cI 40 bw), (g1, AI cI 40 bp)])) (fun _ => rfl) (fun r_4 u h_5 => ?_)
    subst h_5
    refine x_if_ne C 36 dX5_end_27 (by decide) (fun h_6 => ?_) (fun h_6 => ?_)
    ·
      refine x_iload_n C dX5_end_36 rfl 2 rfl ?_
      refine xn_if_ne C 51 (by omega) dX5_end_37 (by decide) (fun h_7 => ?_) (fun h_7 => ?_)
      ·
        exact absurd h_7 (by first | decide | omega)
      ·
        refine x_aload_n C dX5_end_40 rfl 0 rfl ?_
        refine x_get C hK in_X5_end_X5 0 rfl rfl 4 (by decide) (by decide +kernel) rfl rfl dX5_end_41 ?_
        refine x_iconst C (nI 0) dX5_end_44 (by decide +kernel) ?_
        refine x_aald C hK (r := g0) 2 2 rfl hR rfl (by omega) (by omega) (by rfl) dX5_end_45 ?_
        refine x_iload_n C dX5_end_46 rfl 1 rfl ?_
        refine x_iald C hK 3 0 rfl hI (by omega) (by omega) dX5_end_47 ?_
        refine x_goto C 59 dX5_end_48 (by decide) ?_
        refine x_iret C hK hlk hrt hQ hH0 hAA () ?_ [0, 1, 2, 3, 4] (by decide) rfl (by first | decide | omega) (by first | decide | omega) dX5_end_59
        first | rfl | (exact ⟨rfl, rfl⟩) | trivial | assumption | omega
    ·
      exact absurd ((bI_eq0 h_6).symm.trans ((below_n (j := 0) (b := 1 + 1) (by omega)).trans (decide_eq_true (by omega)))) (by decide)
abbrev rm_m_endC : Room := { frames := 1, cells := 0, slots := 0, locals := 22 }
set_option maxRecDepth 100000 in
set_option maxHeartbeats 4000000 in
theorem c_m_endC (l : Launch) (D : va_G) (tys : List (ClassId × FieldType)) (cI cJ cA : ClassId) (hI : tys[0]? = some (cI, .int)) (hJ : tys[1]? = some (cJ, .long)) (hR : tys[2]? = some (cA, .array .int)) (yo : Nat) (thr : Int32) (ri : Int32) (yt : Nat) (ys : Nat) (yf : Nat) (yc : Nat) (co : Nat) (dn : Nat) (yd : Nat) (nw : Nat) (np : Nat) (k0 : Nat) (k1 : Nat) (cw : Nat → Int32) (cp : Nat → Int32) (en : Nat) (hnw : nw ≤ 40) (hen : en < nw) : MI l yX5_end wsX5_end rm_m_endC D tys [.ref yo, .int (nI en), .int (nI 1)] [(yo, OB 5 [.int thr, .int ri, .ref yt, .ref ys, .ref yf, .ref yc, .int (nI co), .int (nI dn), .ref yd]), (ys, AI cI 2 (sz2 nw np)), (yc, AR cA 2 (gr2 k0 k1)), (k0, AI cI 40 cw), (k1, AI cI 40 cp)] Unit (fun r (_ : Unit) => r = cw en) (fun (_ : Unit) => [(yo, OB 5 [.int (nI 0), .int ri, .ref yt, .ref ys, .ref yf, .ref yc, .int (nI co), .int (nI dn), .ref yd]), (ys, AI cI 2 (sz2 nw np)), (yc, AR cA 2 (gr2 k0 k1)), (k0, AI cI 40 cw), (k1, AI cI 40 cp)]) 0 0 := by
  intro sz
  refine x_met (cc := cX5_end) (maxL := 3) (ret := (some .int)) (by decide +kernel) rfl (by show _ ≤ _; simp [lg_sl, Value.category]) [(0, .ref yo), (1, .int (nI en)), (2, .int (nI 1))] rfl ?_
  intro p e s m args below meth c Q A H0 C hK hNW hlk hrt hnm hQ hH0 hAA hA
  refine x_aload_n C dX5_end_0 rfl 0 rfl ?_
  refine x_iconst C (nI 0) dX5_end_1 (by decide +kernel) ?_
  refine x_put C hK in_X5_end_X5 tyX5 tyX5_ok nmX5 0 rfl rfl 0 (by decide) (by decide +kernel) rfl rfl (tyX5_ok 0 (by decide)) rfl rfl (Nat.le_of_ble_eq_true rfl) [(yo, OB 5 [.int (nI 0), .int ri, .ref yt, .ref ys, .ref yf, .ref yc, .int (nI co), .int (nI dn), .ref yd]), (ys, AI cI 2 (sz2 nw np)), (yc, AR cA 2 (gr2 k0 k1)), (k0, AI cI 40 cw), (k1, AI cI 40 cp)] rfl dX5_end_2 ?_
  refine x_iload_n C dX5_end_5 rfl 1 rfl ?_
  refine x_iconst C (nI 0) dX5_end_6 (by decide +kernel) ?_
  refine x_aload_n C dX5_end_7 rfl 0 rfl ?_
  refine x_get C hK in_X5_end_X5 0 rfl rfl 3 (by decide) (by decide +kernel) rfl rfl dX5_end_8 ?_
  refine x_iconst C (nI 0) dX5_end_11 (by decide +kernel) ?_
  refine x_iald C hK 1 0 rfl hI (by omega) (by omega) dX5_end_12 ?_
  refine x_topi (nI nw) rfl ?_
  refine x_iconst C (nI 1) dX5_end_13 (by decide +kernel) ?_
  refine x_isub C _ dX5_end_14 rfl ?_
  refine x_calli (x_runS C hK hNW (c_m_isInS l D tys cI cJ cA hI hJ hR (nI en) nw (by first | omega | assumption)) (va_cwS 3 C.2.2.2.2 gX5_end_X5_isIn rfl rfl rfl (by decide +kernel) ⟨by decide, by decide⟩) [] rfl (by decide) (st := []) rfl rfl (Nat.le_of_ble_eq_true rfl) dX5_end_15 ⟨by first | decide | omega, by first | decide | omega⟩) hA [] rfl [0, 1, 2, 3, 4] [(yo, OB 5 [.int (nI 0), .int ri, .ref yt, .ref ys, .ref yf, .ref yc, .int (nI co), .int (nI dn), .ref yd]), (ys, AI cI 2 (sz2 nw np)), (yc, AR cA 2 (gr2 k0 k1)), (k0, AI cI 40 cw), (k1, AI cI 40 cp)] rfl (by decide) (by decide) [0, 1, 2, 3, 4] (by decide) (wf := (fun (u : Unit) => [(yo, OB 5 [.int (nI 0), .int ri, .ref yt, .ref ys, .ref yf, .ref yc, .int (nI co), .int (nI dn), .ref yd]), (ys, AI cI 2 (sz2 nw np)), (yc, AR cA 2 (gr2 k0 k1)), (k0, AI cI 40 cw), (k1, AI cI 40 cp)])) (fun _ => rfl) (fun r_1 u h_2 => ?_)
  subst h_2
  refine x_if_eq C 30 dX5_end_18 (by decide) (fun h_3 => ?_) (fun h_3 => ?_)
  ·
    exact absurd ((bI_eq0 h_3).symm.trans ((below_n (j := en) (b := nw) (by omega)).trans (decide_eq_true (by omega)))) (by decide)
  ·
    refine x_iload_n C dX5_end_21 rfl 2 rfl ?_
    refine x_iconst C (nI 0) dX5_end_22 (by decide +kernel) ?_
    refine x_iconst C (nI 1) dX5_end_23 (by decide +kernel) ?_
    refine x_calli (x_runS C hK hNW (c_m_isIn0 l D tys cI cJ cA hI hJ hR (nI 1) 1 (by first | omega | assumption)) (va_cwS 3 C.2.2.2.2 gX5_end_X5_isIn rfl rfl rfl (by decide +kernel) ⟨by decide, by decide⟩) [] rfl (by decide) (st := []) rfl rfl (Nat.le_of_ble_eq_true rfl) dX5_end_24 ⟨by first | decide | omega, by first | decide | omega⟩) hA [] rfl [0, 1, 2, 3, 4] [(yo, OB 5 [.int (nI 0), .int ri, .ref yt, .ref ys, .ref yf, .ref yc, .int (nI co), .int (nI dn), .ref yd]), (ys, AI cI 2 (sz2 nw np)), (yc, AR cA 2 (gr2 k0 k1)), (k0, AI cI 40 cw), (k1, AI cI 40 cp)] rfl (by decide) (by decide) [0, 1, 2, 3, 4] (by decide) (wf := (fun (u : Unit) => [(yo, OB 5 [.int (nI 0), .int ri, .ref yt, .ref ys, .ref yf, .ref yc, .int (nI co), .int (nI dn), .ref yd]), (ys, AI cI 2 (sz2 nw np)), (yc, AR cA 2 (gr2 k0 k1)), (k0, AI cI 40 cw), (k1, AI cI 40 cp)])) (fun _ => rfl) (fun r_4 u h_5 => ?_)
    subst h_5
    refine x_if_ne C 36 dX5_end_27 (by decide) (fun h_6 => ?_) (fun h_6 => ?_)
    ·
      refine x_iload_n C dX5_end_36 rfl 2 rfl ?_
      refine xn_if_ne C 51 (by omega) dX5_end_37 (by decide) (fun h_7 => ?_) (fun h_7 => ?_)
      ·
        refine x_aload_n C dX5_end_51 rfl 0 rfl ?_
        refine x_get C hK in_X5_end_X5 0 rfl rfl 5 (by decide) (by decide +kernel) rfl rfl dX5_end_52 ?_
        refine x_iconst C (nI 0) dX5_end_55 (by decide +kernel) ?_
        refine x_aald C hK (r := k0) 2 2 rfl hR rfl (by omega) (by omega) (by rfl) dX5_end_56 ?_
        refine x_iload_n C dX5_end_57 rfl 1 rfl ?_
        refine x_iald C hK 3 0 rfl hI (by omega) (by omega) dX5_end_58 ?_
        refine x_iret C hK hlk hrt hQ hH0 hAA () ?_ [0, 1, 2, 3, 4] (by decide) rfl (by first | decide | omega) (by first | decide | omega) dX5_end_59
        first | rfl | (exact ⟨rfl, rfl⟩) | trivial | assumption | omega
      ·
        exact absurd h_7 (by first | decide | omega)
    ·
      exact absurd ((bI_eq0 h_6).symm.trans ((below_n (j := 1) (b := 1 + 1) (by omega)).trans (decide_eq_true (by omega)))) (by decide)
abbrev rm_m_endX : Room := { frames := 1, cells := 0, slots := 0, locals := 22 }
set_option maxRecDepth 100000 in
set_option maxHeartbeats 4000000 in
theorem c_m_endX (l : Launch) (D : va_G) (tys : List (ClassId × FieldType)) (cI cJ cA : ClassId) (hI : tys[0]? = some (cI, .int)) (hJ : tys[1]? = some (cJ, .long)) (hR : tys[2]? = some (cA, .array .int)) (yo : Nat) (thr : Int32) (ri : Int32) (yt : Nat) (ys : Nat) (yf : Nat) (yc : Nat) (co : Nat) (dn : Nat) (yd : Nat) (nw : Nat) (np : Nat) (en : Int32) (wt : Int32) (hnw : nw ≤ 40) (hx : ¬ (below en nw = true ∧ below wt 2 = true)) : MI l yX5_end wsX5_end rm_m_endX D tys [.ref yo, .int en, .int wt] [(yo, OB 5 [.int thr, .int ri, .ref yt, .ref ys, .ref yf, .ref yc, .int (nI co), .int (nI dn), .ref yd]), (ys, AI cI 2 (sz2 nw np))] Unit (fun r (_ : Unit) => r = nI 0) (fun (_ : Unit) => [(yo, OB 5 [.int (nI 1), .int ri, .ref yt, .ref ys, .ref yf, .ref yc, .int (nI co), .int (nI dn), .ref yd]), (ys, AI cI 2 (sz2 nw np))]) 0 0 := by
  intro sz
  refine x_met (cc := cX5_end) (maxL := 3) (ret := (some .int)) (by decide +kernel) rfl (by show _ ≤ _; simp [lg_sl, Value.category]) [(0, .ref yo), (1, .int en), (2, .int wt)] rfl ?_
  intro p e s m args below meth c Q A H0 C hK hNW hlk hrt hnm hQ hH0 hAA hA
  refine x_aload_n C dX5_end_0 rfl 0 rfl ?_
  refine x_iconst C (nI 0) dX5_end_1 (by decide +kernel) ?_
  refine x_put C hK in_X5_end_X5 tyX5 tyX5_ok nmX5 0 rfl rfl 0 (by decide) (by decide +kernel) rfl rfl (tyX5_ok 0 (by decide)) rfl rfl (Nat.le_of_ble_eq_true rfl) [(yo, OB 5 [.int (nI 0), .int ri, .ref yt, .ref ys, .ref yf, .ref yc, .int (nI co), .int (nI dn), .ref yd]), (ys, AI cI 2 (sz2 nw np))] rfl dX5_end_2 ?_
  refine x_iload_n C dX5_end_5 rfl 1 rfl ?_
  refine x_iconst C (nI 0) dX5_end_6 (by decide +kernel) ?_
  refine x_aload_n C dX5_end_7 rfl 0 rfl ?_
  refine x_get C hK in_X5_end_X5 0 rfl rfl 3 (by decide) (by decide +kernel) rfl rfl dX5_end_8 ?_
  refine x_iconst C (nI 0) dX5_end_11 (by decide +kernel) ?_
  refine x_iald C hK 1 0 rfl hI (by omega) (by omega) dX5_end_12 ?_
  refine x_topi (nI nw) rfl ?_
  refine x_iconst C (nI 1) dX5_end_13 (by decide +kernel) ?_
  refine x_isub C _ dX5_end_14 rfl ?_
  refine x_calli (x_runS C hK hNW (c_m_isInS l D tys cI cJ cA hI hJ hR en nw (by first | omega | assumption)) (va_cwS 3 C.2.2.2.2 gX5_end_X5_isIn rfl rfl rfl (by decide +kernel) ⟨by decide, by decide⟩) [] rfl (by decide) (st := []) rfl rfl (Nat.le_of_ble_eq_true rfl) dX5_end_15 ⟨by first | decide | omega, by first | decide | omega⟩) hA [] rfl [0, 1] [(yo, OB 5 [.int (nI 0), .int ri, .ref yt, .ref ys, .ref yf, .ref yc, .int (nI co), .int (nI dn), .ref yd]), (ys, AI cI 2 (sz2 nw np))] rfl (by decide) (by decide) [0, 1] (by decide) (wf := (fun (u : Unit) => [(yo, OB 5 [.int (nI 0), .int ri, .ref yt, .ref ys, .ref yf, .ref yc, .int (nI co), .int (nI dn), .ref yd]), (ys, AI cI 2 (sz2 nw np))])) (fun _ => rfl) (fun r_1 u h_2 => ?_)
  subst h_2
  refine x_if_eq C 30 dX5_end_18 (by decide) (fun h_3 => ?_) (fun h_3 => ?_)
  ·
    refine x_aload_n C dX5_end_30 rfl 0 rfl ?_
    refine x_iconst C (nI 1) dX5_end_31 (by decide +kernel) ?_
    refine x_calli (x_runV C hK hNW (c_m_fail l D tys cI cJ cA hI hJ hR yo (nI 0) ri yt ys yf yc co dn yd 1 ) (cwV 1 C.2.2.2.2 gX5_end_X5_fail rfl rfl rfl (by decide +kernel) ⟨by decide, by decide⟩) [0] rfl (by decide) 0 5 rfl rfl rfl (st := []) rfl rfl (Nat.le_of_ble_eq_true rfl) dX5_end_32 ⟨by first | decide | omega, by first | decide | omega⟩) hA [0] rfl [1] [(ys, AI cI 2 (sz2 nw np))] rfl (by decide) (by decide) [1, 0] (by decide) (wf := (fun (u : Unit) => [(yo, OB 5 [.int (nI 1), .int ri, .ref yt, .ref ys, .ref yf, .ref yc, .int (nI co), .int (nI dn), .ref yd]), (ys, AI cI 2 (sz2 nw np))])) (fun _ => rfl) (fun r_4 u h_5 => ?_)
    subst h_5
    refine x_iret C hK hlk hrt hQ hH0 hAA () ?_ [0, 1] (by decide) rfl (by first | decide | omega) (by first | decide | omega) dX5_end_35
    first | rfl | (exact ⟨rfl, rfl⟩) | trivial | assumption | omega
  ·
    refine x_iload_n C dX5_end_21 rfl 2 rfl ?_
    refine x_iconst C (nI 0) dX5_end_22 (by decide +kernel) ?_
    refine x_iconst C (nI 1) dX5_end_23 (by decide +kernel) ?_
    refine x_calli (x_runS C hK hNW (c_m_isIn0 l D tys cI cJ cA hI hJ hR wt 1 (by first | omega | assumption)) (va_cwS 3 C.2.2.2.2 gX5_end_X5_isIn rfl rfl rfl (by decide +kernel) ⟨by decide, by decide⟩) [] rfl (by decide) (st := []) rfl rfl (Nat.le_of_ble_eq_true rfl) dX5_end_24 ⟨by first | decide | omega, by first | decide | omega⟩) hA [] rfl [0, 1] [(yo, OB 5 [.int (nI 0), .int ri, .ref yt, .ref ys, .ref yf, .ref yc, .int (nI co), .int (nI dn), .ref yd]), (ys, AI cI 2 (sz2 nw np))] rfl (by decide) (by decide) [0, 1] (by decide) (wf := (fun (u : Unit) => [(yo, OB 5 [.int (nI 0), .int ri, .ref yt, .ref ys, .ref yf, .ref yc, .int (nI co), .int (nI dn), .ref yd]), (ys, AI cI 2 (sz2 nw np))])) (fun _ => rfl) (fun r_6 u h_7 => ?_)
    subst h_7
    refine x_if_ne C 36 dX5_end_27 (by decide) (fun h_8 => ?_) (fun h_8 => ?_)
    ·
      exact absurd ⟨bI_ne0 (by assumption), bI_ne0 h_8⟩ hx
    ·
      refine x_aload_n C dX5_end_30 rfl 0 rfl ?_
      refine x_iconst C (nI 1) dX5_end_31 (by decide +kernel) ?_
      refine x_calli (x_runV C hK hNW (c_m_fail l D tys cI cJ cA hI hJ hR yo (nI 0) ri yt ys yf yc co dn yd 1 ) (cwV 1 C.2.2.2.2 gX5_end_X5_fail rfl rfl rfl (by decide +kernel) ⟨by decide, by decide⟩) [0] rfl (by decide) 0 5 rfl rfl rfl (st := []) rfl rfl (Nat.le_of_ble_eq_true rfl) dX5_end_32 ⟨by first | decide | omega, by first | decide | omega⟩) hA [0] rfl [1] [(ys, AI cI 2 (sz2 nw np))] rfl (by decide) (by decide) [1, 0] (by decide) (wf := (fun (u : Unit) => [(yo, OB 5 [.int (nI 1), .int ri, .ref yt, .ref ys, .ref yf, .ref yc, .int (nI co), .int (nI dn), .ref yd]), (ys, AI cI 2 (sz2 nw np))])) (fun _ => rfl) (fun r_9 u h_10 => ?_)
      subst h_10
      refine x_iret C hK hlk hrt hQ hH0 hAA () ?_ [0, 1] (by decide) rfl (by first | decide | omega) (by first | decide | omega) dX5_end_35
      first | rfl | (exact ⟨rfl, rfl⟩) | trivial | assumption | omega
abbrev rm_m_moved : Room := { frames := 0, cells := 0, slots := 0, locals := 0 }
set_option maxRecDepth 100000 in
set_option maxHeartbeats 4000000 in
theorem c_m_moved (l : Launch) (D : va_G) (tys : List (ClassId × FieldType)) (cI cJ cA : ClassId) (hI : tys[0]? = some (cI, .int)) (hJ : tys[1]? = some (cJ, .long)) (hR : tys[2]? = some (cA, .array .int)) (yo : Nat) (thr : Int32) (ri : Int32) (yt : Nat) (ys : Nat) (yf : Nat) (yc : Nat) (co : Nat) (dn : Nat) (yd : Nat) (ti : Nat → Int32) (g0 : Nat) (g1 : Nat) (bw : Nat → Int32) (bp : Nat → Int32) (pk : Nat) (hpk : pk < 40) : MI l yX5_moved wsX5_moved rm_m_moved D tys [.ref yo, .int (nI pk)] [(yo, OB 5 [.int thr, .int ri, .ref yt, .ref ys, .ref yf, .ref yc, .int (nI co), .int (nI dn), .ref yd]), (yt, AI cI 10 ti), (yf, AR cA 2 (gr2 g0 g1)), (g0, AI cI 40 bw), (g1, AI cI 40 bp)] Unit (fun r (_ : Unit) => r = mvF (bp pk) ti 10) (fun (_ : Unit) => [(yo, OB 5 [.int thr, .int ri, .ref yt, .ref ys, .ref yf, .ref yc, .int (nI co), .int (nI dn), .ref yd]), (yt, AI cI 10 ti), (yf, AR cA 2 (gr2 g0 g1)), (g0, AI cI 40 bw), (g1, AI cI 40 bp)]) 0 0 := by
  intro sz
  refine x_met (cc := cX5_moved) (maxL := 4) (ret := (some .int)) (by decide +kernel) rfl (by show _ ≤ _; simp [lg_sl, Value.category]) [(0, .ref yo), (1, .int (nI pk))] rfl ?_
  intro p e s m args below meth c Q A H0 C hK hNW hlk hrt hnm hQ hH0 hAA hA
  refine x_iconst C (nI 0) dX5_moved_0 (by decide +kernel) ?_
  refine x_istore_n C [(2, .int (nI 0)), (0, .ref yo), (1, .int (nI pk))] dX5_moved_1 rfl (by decide) rfl ?_
  refine x_iconst C (nI 0) dX5_moved_2 (by decide +kernel) ?_
  refine x_istore_n C [(3, .int (nI 0)), (2, .int (nI 0)), (0, .ref yo), (1, .int (nI pk))] dX5_moved_3 rfl (by decide) rfl ?_
  have K_1 : ∀ (fuel : Nat) (i : Nat), (i ≤ 10) → 10 - i < fuel → X_ p l e rm_m_moved s m args below meth c Q D A H0 4 0 0 [(yo, OB 5 [.int thr, .int ri, .ref yt, .ref ys, .ref yf, .ref yc, .int (nI co), .int (nI dn), .ref yd]), (yt, AI cI 10 ti), (yf, AR cA 2 (gr2 g0 g1)), (g0, AI cI 40 bw), (g1, AI cI 40 bp)] [(0, .ref yo), (1, .int (nI pk)), (2, .int (mvF (bp pk) ti i)), (3, .int (nI i))] 4 [] := by
    intro fuel
    induction fuel with
    | zero =>
      intros
      exact absurd (by assumption) (Nat.not_lt_zero _)
    | succ fuel ih_K_1 =>
      intro i hi hm_2
      refine x_iload_n C dX5_moved_4 rfl 3 rfl ?_
      refine x_bipush C (nI 10) dX5_moved_5 (by decide +kernel) ?_
      refine xn_icmp_ge C 41 (by omega) (by omega) dX5_moved_7 (by decide) (fun h_3 => ?_) (fun h_3 => ?_)
      ·
        have heq_i : i = 10 := by omega
        subst heq_i
        refine x_iload_n C dX5_moved_41 rfl 2 rfl ?_
        refine x_iret C hK hlk hrt hQ hH0 hAA () ?_ [0, 1, 2, 3, 4] (by decide) rfl (by first | decide | omega) (by first | decide | omega) dX5_moved_42
        first | rfl | (exact ⟨rfl, rfl⟩) | trivial | assumption | omega
      ·
        refine x_aload_n C dX5_moved_10 rfl 0 rfl ?_
        refine x_get C hK in_X5_moved_X5 0 rfl rfl 4 (by decide) (by decide +kernel) rfl rfl dX5_moved_11 ?_
        refine x_iconst C (nI 1) dX5_moved_14 (by decide +kernel) ?_
        refine x_aald C hK (r := g1) 2 2 rfl hR rfl (by omega) (by omega) (by rfl) dX5_moved_15 ?_
        refine x_iload_n C dX5_moved_16 rfl 1 rfl ?_
        refine x_iald C hK 4 0 rfl hI (by omega) (by omega) dX5_moved_17 ?_
        refine x_iload_n C dX5_moved_18 rfl 3 rfl ?_
        refine x_ishr C _ dX5_moved_19 rfl ?_
        refine x_iconst C (nI 1) dX5_moved_20 (by decide +kernel) ?_
        refine x_iand C _ dX5_moved_21 rfl ?_
        refine x_iconst C (nI 1) dX5_moved_22 (by decide +kernel) ?_
        refine x_icmp_ne C 35 dX5_moved_23 (by decide) (fun h_4 => ?_) (fun h_4 => ?_)
        ·
          refine xn_iinc C (i + 1) [(3, .int (nI (i + 1))), (0, .ref yo), (1, .int (nI pk)), (2, .int (mvF (bp pk) ti i))] dX5_moved_35 3 rfl (by rw [show Int32.ofInt 1 = nI 1 from by decide +kernel]; exact nI_add _ _) (by decide) rfl ?_
          refine x_goto C 4 dX5_moved_38 (by decide) ?_
          refine x_lv [(0, .ref yo), (1, .int (nI pk)), (2, .int (mvF (bp pk) ti (i + 1))), (3, .int (nI (i + 1)))] [1, 2, 3, 0] (by rw [show mvF (bp pk) ti (i + 1) = mvF (bp pk) ti i from by first | exact mvF_y ((ibit_eq _ (by omega)).mp (by assumption)) | exact mvF_n (Bool.eq_false_iff.mpr (fun q => absurd ((ibit_eq _ (by omega)).mpr q) (by assumption)))]; rfl) ?_
          exact ih_K_1 (i + 1) (by first | assumption | omega) (by omega)
        ·
          refine x_iload_n C dX5_moved_26 rfl 2 rfl ?_
          refine x_aload_n C dX5_moved_27 rfl 0 rfl ?_
          refine x_get C hK in_X5_moved_X5 0 rfl rfl 2 (by decide) (by decide +kernel) rfl rfl dX5_moved_28 ?_
          refine x_iload_n C dX5_moved_31 rfl 3 rfl ?_
          refine x_iald C hK 1 0 rfl hI (by omega) (by omega) dX5_moved_32 ?_
          refine x_ior C _ dX5_moved_33 rfl ?_
          refine x_istore_n C [(2, .int ((mvF (bp pk) ti i) ||| (ti i))), (0, .ref yo), (1, .int (nI pk)), (3, .int (nI i))] dX5_moved_34 rfl (by decide) rfl ?_
          refine xn_iinc C (i + 1) [(3, .int (nI (i + 1))), (2, .int ((mvF (bp pk) ti i) ||| (ti i))), (0, .ref yo), (1, .int (nI pk))] dX5_moved_35 3 rfl (by rw [show Int32.ofInt 1 = nI 1 from by decide +kernel]; exact nI_add _ _) (by decide) rfl ?_
          refine x_goto C 4 dX5_moved_38 (by decide) ?_
          refine x_lv [(0, .ref yo), (1, .int (nI pk)), (2, .int (mvF (bp pk) ti (i + 1))), (3, .int (nI (i + 1)))] [2, 3, 1, 0] (by rw [show mvF (bp pk) ti (i + 1) = (mvF (bp pk) ti i) ||| (ti i) from by first | exact mvF_y ((ibit_eq _ (by omega)).mp (by assumption)) | exact mvF_n (Bool.eq_false_iff.mpr (fun q => absurd ((ibit_eq _ (by omega)).mpr q) (by assumption)))]; rfl) ?_
          exact ih_K_1 (i + 1) (by first | assumption | omega) (by omega)
  refine x_lv [(0, .ref yo), (1, .int (nI pk)), (2, .int (mvF (bp pk) ti 0)), (3, .int (nI 0))] [2, 3, 1, 0] (by rw [show mvF (bp pk) ti 0 = nI 0 from by rfl]; rfl) ?_
  exact K_1 (10 - 0 + 1) 0 (by first | assumption | omega) (Nat.lt_succ_self _)
abbrev rm_m_pickT : Room := { frames := 1, cells := 0, slots := 0, locals := 22 }
set_option maxRecDepth 100000 in
set_option maxHeartbeats 4000000 in
theorem c_m_pickT (l : Launch) (D : va_G) (tys : List (ClassId × FieldType)) (cI cJ cA : ClassId) (hI : tys[0]? = some (cI, .int)) (hJ : tys[1]? = some (cJ, .long)) (hR : tys[2]? = some (cA, .array .int)) (yo : Nat) (thr : Int32) (ri : Int32) (yt : Nat) (ys : Nat) (yf : Nat) (yc : Nat) (co : Nat) (dn : Nat) (yd : Nat) (nw : Nat) (np : Nat) (g0 : Nat) (g1 : Nat) (bw : Nat → Int32) (bp : Nat → Int32) (pk : Nat) (hnp : np ≤ 40) (hpk : pk < np) : MI l yX5_pick wsX5_pick rm_m_pickT D tys [.ref yo, .int (nI pk), .int (nI 0)] [(yo, OB 5 [.int thr, .int ri, .ref yt, .ref ys, .ref yf, .ref yc, .int (nI co), .int (nI dn), .ref yd]), (ys, AI cI 2 (sz2 nw np)), (yf, AR cA 2 (gr2 g0 g1)), (g0, AI cI 40 bw), (g1, AI cI 40 bp)] Unit (fun r (_ : Unit) => r = bp pk) (fun (_ : Unit) => [(yo, OB 5 [.int (nI 0), .int ri, .ref yt, .ref ys, .ref yf, .ref yc, .int (nI co), .int (nI dn), .ref yd]), (ys, AI cI 2 (sz2 nw np)), (yf, AR cA 2 (gr2 g0 g1)), (g0, AI cI 40 bw), (g1, AI cI 40 bp)]) 0 0 := by
  intro sz
  refine x_met (cc := cX5_pick) (maxL := 3) (ret := (some .int)) (by decide +kernel) rfl (by show _ ≤ _; simp [lg_sl, Value.category]) [(0, .ref yo), (1, .int (nI pk)), (2, .int (nI 0))] rfl ?_
  intro p e s m args below meth c Q A H0 C hK hNW hlk hrt hnm hQ hH0 hAA hA
  refine x_aload_n C dX5_pick_0 rfl 0 rfl ?_
  refine x_iconst C (nI 0) dX5_pick_1 (by decide +kernel) ?_
  refine x_put C hK in_X5_pick_X5 tyX5 tyX5_ok nmX5 0 rfl rfl 0 (by decide) (by decide +kernel) rfl rfl (tyX5_ok 0 (by decide)) rfl rfl (Nat.le_of_ble_eq_true rfl) [(yo, OB 5 [.int (nI 0), .int ri, .ref yt, .ref ys, .ref yf, .ref yc, .int (nI co), .int (nI dn), .ref yd]), (ys, AI cI 2 (sz2 nw np)), (yf, AR cA 2 (gr2 g0 g1)), (g0, AI cI 40 bw), (g1, AI cI 40 bp)] rfl dX5_pick_2 ?_
  refine x_iload_n C dX5_pick_5 rfl 1 rfl ?_
  refine x_iconst C (nI 0) dX5_pick_6 (by decide +kernel) ?_
  refine x_aload_n C dX5_pick_7 rfl 0 rfl ?_
  refine x_get C hK in_X5_pick_X5 0 rfl rfl 3 (by decide) (by decide +kernel) rfl rfl dX5_pick_8 ?_
  refine x_iconst C (nI 1) dX5_pick_11 (by decide +kernel) ?_
  refine x_iald C hK 1 0 rfl hI (by omega) (by omega) dX5_pick_12 ?_
  refine x_topi (nI np) rfl ?_
  refine x_iconst C (nI 1) dX5_pick_13 (by decide +kernel) ?_
  refine x_isub C _ dX5_pick_14 rfl ?_
  refine x_calli (x_runS C hK hNW (c_m_isInS l D tys cI cJ cA hI hJ hR (nI pk) np (by first | omega | assumption)) (va_cwS 3 C.2.2.2.2 gX5_pick_X5_isIn rfl rfl rfl (by decide +kernel) ⟨by decide, by decide⟩) [] rfl (by decide) (st := []) rfl rfl (Nat.le_of_ble_eq_true rfl) dX5_pick_15 ⟨by first | decide | omega, by first | decide | omega⟩) hA [] rfl [0, 1, 2, 3, 4] [(yo, OB 5 [.int (nI 0), .int ri, .ref yt, .ref ys, .ref yf, .ref yc, .int (nI co), .int (nI dn), .ref yd]), (ys, AI cI 2 (sz2 nw np)), (yf, AR cA 2 (gr2 g0 g1)), (g0, AI cI 40 bw), (g1, AI cI 40 bp)] rfl (by decide) (by decide) [0, 1, 2, 3, 4] (by decide) (wf := (fun (u : Unit) => [(yo, OB 5 [.int (nI 0), .int ri, .ref yt, .ref ys, .ref yf, .ref yc, .int (nI co), .int (nI dn), .ref yd]), (ys, AI cI 2 (sz2 nw np)), (yf, AR cA 2 (gr2 g0 g1)), (g0, AI cI 40 bw), (g1, AI cI 40 bp)])) (fun _ => rfl) (fun r_1 u h_2 => ?_)
  subst h_2
  refine x_if_eq C 30 dX5_pick_18 (by decide) (fun h_3 => ?_) (fun h_3 => ?_)
  ·
    exact absurd ((bI_eq0 h_3).symm.trans ((below_n (j := pk) (b := np) (by omega)).trans (decide_eq_true (by omega)))) (by decide)
  ·
    refine x_iload_n C dX5_pick_21 rfl 2 rfl ?_
    refine x_iconst C (nI 0) dX5_pick_22 (by decide +kernel) ?_
    refine x_iconst C (nI 2) dX5_pick_23 (by decide +kernel) ?_
    refine x_calli (x_runS C hK hNW (c_m_isIn0 l D tys cI cJ cA hI hJ hR (nI 0) 2 (by first | omega | assumption)) (va_cwS 3 C.2.2.2.2 gX5_pick_X5_isIn rfl rfl rfl (by decide +kernel) ⟨by decide, by decide⟩) [] rfl (by decide) (st := []) rfl rfl (Nat.le_of_ble_eq_true rfl) dX5_pick_24 ⟨by first | decide | omega, by first | decide | omega⟩) hA [] rfl [0, 1, 2, 3, 4] [(yo, OB 5 [.int (nI 0), .int ri, .ref yt, .ref ys, .ref yf, .ref yc, .int (nI co), .int (nI dn), .ref yd]), (ys, AI cI 2 (sz2 nw np)), (yf, AR cA 2 (gr2 g0 g1)), (g0, AI cI 40 bw), (g1, AI cI 40 bp)] rfl (by decide) (by decide) [0, 1, 2, 3, 4] (by decide) (wf := (fun (u : Unit) => [(yo, OB 5 [.int (nI 0), .int ri, .ref yt, .ref ys, .ref yf, .ref yc, .int (nI co), .int (nI dn), .ref yd]), (ys, AI cI 2 (sz2 nw np)), (yf, AR cA 2 (gr2 g0 g1)), (g0, AI cI 40 bw), (g1, AI cI 40 bp)])) (fun _ => rfl) (fun r_4 u h_5 => ?_)
    subst h_5
    refine x_if_ne C 36 dX5_pick_27 (by decide) (fun h_6 => ?_) (fun h_6 => ?_)
    ·
      refine x_iload_n C dX5_pick_36 rfl 2 rfl ?_
      refine xn_if_ne C 51 (by omega) dX5_pick_37 (by decide) (fun h_7 => ?_) (fun h_7 => ?_)
      ·
        exact absurd h_7 (by first | decide | omega)
      ·
        refine x_aload_n C dX5_pick_40 rfl 0 rfl ?_
        refine x_get C hK in_X5_pick_X5 0 rfl rfl 4 (by decide) (by decide +kernel) rfl rfl dX5_pick_41 ?_
        refine x_iconst C (nI 1) dX5_pick_44 (by decide +kernel) ?_
        refine x_aald C hK (r := g1) 2 2 rfl hR rfl (by omega) (by omega) (by rfl) dX5_pick_45 ?_
        refine x_iload_n C dX5_pick_46 rfl 1 rfl ?_
        refine x_iald C hK 4 0 rfl hI (by omega) (by omega) dX5_pick_47 ?_
        refine x_goto C 72 dX5_pick_48 (by decide) ?_
        refine x_iret C hK hlk hrt hQ hH0 hAA () ?_ [0, 1, 2, 3, 4] (by decide) rfl (by first | decide | omega) (by first | decide | omega) dX5_pick_72
        first | rfl | (exact ⟨rfl, rfl⟩) | trivial | assumption | omega
    ·
      exact absurd ((bI_eq0 h_6).symm.trans ((below_n (j := 0) (b := 2 + 1) (by omega)).trans (decide_eq_true (by omega)))) (by decide)
abbrev rm_m_pickC : Room := { frames := 1, cells := 0, slots := 0, locals := 22 }
set_option maxRecDepth 100000 in
set_option maxHeartbeats 4000000 in
theorem c_m_pickC (l : Launch) (D : va_G) (tys : List (ClassId × FieldType)) (cI cJ cA : ClassId) (hI : tys[0]? = some (cI, .int)) (hJ : tys[1]? = some (cJ, .long)) (hR : tys[2]? = some (cA, .array .int)) (yo : Nat) (thr : Int32) (ri : Int32) (yt : Nat) (ys : Nat) (yf : Nat) (yc : Nat) (co : Nat) (dn : Nat) (yd : Nat) (nw : Nat) (np : Nat) (k0 : Nat) (k1 : Nat) (cw : Nat → Int32) (cp : Nat → Int32) (pk : Nat) (hnp : np ≤ 40) (hpk : pk < np) : MI l yX5_pick wsX5_pick rm_m_pickC D tys [.ref yo, .int (nI pk), .int (nI 1)] [(yo, OB 5 [.int thr, .int ri, .ref yt, .ref ys, .ref yf, .ref yc, .int (nI co), .int (nI dn), .ref yd]), (ys, AI cI 2 (sz2 nw np)), (yc, AR cA 2 (gr2 k0 k1)), (k0, AI cI 40 cw), (k1, AI cI 40 cp)] Unit (fun r (_ : Unit) => r = cp pk) (fun (_ : Unit) => [(yo, OB 5 [.int (nI 0), .int ri, .ref yt, .ref ys, .ref yf, .ref yc, .int (nI co), .int (nI dn), .ref yd]), (ys, AI cI 2 (sz2 nw np)), (yc, AR cA 2 (gr2 k0 k1)), (k0, AI cI 40 cw), (k1, AI cI 40 cp)]) 0 0 := by
  intro sz
  refine x_met (cc := cX5_pick) (maxL := 3) (ret := (some .int)) (by decide +kernel) rfl (by show _ ≤ _; simp [lg_sl, Value.category]) [(0, .ref yo), (1, .int (nI pk)), (2, .int (nI 1))] rfl ?_
  intro p e s m args below meth c Q A H0 C hK hNW hlk hrt hnm hQ hH0 hAA hA
  refine x_aload_n C dX5_pick_0 rfl 0 rfl ?_
  refine x_iconst C (nI 0) dX5_pick_1 (by decide +kernel) ?_
  refine x_put C hK in_X5_pick_X5 tyX5 tyX5_ok nmX5 0 rfl rfl 0 (by decide) (by decide +kernel) rfl rfl (tyX5_ok 0 (by decide)) rfl rfl (Nat.le_of_ble_eq_true rfl) [(yo, OB 5 [.int (nI 0), .int ri, .ref yt, .ref ys, .ref yf, .ref yc, .int (nI co), .int (nI dn), .ref yd]), (ys, AI cI 2 (sz2 nw np)), (yc, AR cA 2 (gr2 k0 k1)), (k0, AI cI 40 cw), (k1, AI cI 40 cp)] rfl dX5_pick_2 ?_
  refine x_iload_n C dX5_pick_5 rfl 1 rfl ?_
  refine x_iconst C (nI 0) dX5_pick_6 (by decide +kernel) ?_
  refine x_aload_n C dX5_pick_7 rfl 0 rfl ?_
  refine x_get C hK in_X5_pick_X5 0 rfl rfl 3 (by decide) (by decide +kernel) rfl rfl dX5_pick_8 ?_
  refine x_iconst C (nI 1) dX5_pick_11 (by decide +kernel) ?_
  refine x_iald C hK 1 0 rfl hI (by omega) (by omega) dX5_pick_12 ?_
  refine x_topi (nI np) rfl ?_
  refine x_iconst C (nI 1) dX5_pick_13 (by decide +kernel) ?_
  refine x_isub C _ dX5_pick_14 rfl ?_
  refine x_calli (x_runS C hK hNW (c_m_isInS l D tys cI cJ cA hI hJ hR (nI pk) np (by first | omega | assumption)) (va_cwS 3 C.2.2.2.2 gX5_pick_X5_isIn rfl rfl rfl (by decide +kernel) ⟨by decide, by decide⟩) [] rfl (by decide) (st := []) rfl rfl (Nat.le_of_ble_eq_true rfl) dX5_pick_15 ⟨by first | decide | omega, by first | decide | omega⟩) hA [] rfl [0, 1, 2, 3, 4] [(yo, OB 5 [.int (nI 0), .int ri, .ref yt, .ref ys, .ref yf, .ref yc, .int (nI co), .int (nI dn), .ref yd]), (ys, AI cI 2 (sz2 nw np)), (yc, AR cA 2 (gr2 k0 k1)), (k0, AI cI 40 cw), (k1, AI cI 40 cp)] rfl (by decide) (by decide) [0, 1, 2, 3, 4] (by decide) (wf := (fun (u : Unit) => [(yo, OB 5 [.int (nI 0), .int ri, .ref yt, .ref ys, .ref yf, .ref yc, .int (nI co), .int (nI dn), .ref yd]), (ys, AI cI 2 (sz2 nw np)), (yc, AR cA 2 (gr2 k0 k1)), (k0, AI cI 40 cw), (k1, AI cI 40 cp)])) (fun _ => rfl) (fun r_1 u h_2 => ?_)
  subst h_2
  refine x_if_eq C 30 dX5_pick_18 (by decide) (fun h_3 => ?_) (fun h_3 => ?_)
  ·
    exact absurd ((bI_eq0 h_3).symm.trans ((below_n (j := pk) (b := np) (by omega)).trans (decide_eq_true (by omega)))) (by decide)
  ·
    refine x_iload_n C dX5_pick_21 rfl 2 rfl ?_
    refine x_iconst C (nI 0) dX5_pick_22 (by decide +kernel) ?_
    refine x_iconst C (nI 2) dX5_pick_23 (by decide +kernel) ?_
    refine x_calli (x_runS C hK hNW (c_m_isIn0 l D tys cI cJ cA hI hJ hR (nI 1) 2 (by first | omega | assumption)) (va_cwS 3 C.2.2.2.2 gX5_pick_X5_isIn rfl rfl rfl (by decide +kernel) ⟨by decide, by decide⟩) [] rfl (by decide) (st := []) rfl rfl (Nat.le_of_ble_eq_true rfl) dX5_pick_24 ⟨by first | decide | omega, by first | decide | omega⟩) hA [] rfl [0, 1, 2, 3, 4] [(yo, OB 5 [.int (nI 0), .int ri, .ref yt, .ref ys, .ref yf, .ref yc, .int (nI co), .int (nI dn), .ref yd]), (ys, AI cI 2 (sz2 nw np)), (yc, AR cA 2 (gr2 k0 k1)), (k0, AI cI 40 cw), (k1, AI cI 40 cp)] rfl (by decide) (by decide) [0, 1, 2, 3, 4] (by decide) (wf := (fun (u : Unit) => [(yo, OB 5 [.int (nI 0), .int ri, .ref yt, .ref ys, .ref yf, .ref yc, .int (nI co), .int (nI dn), .ref yd]), (ys, AI cI 2 (sz2 nw np)), (yc, AR cA 2 (gr2 k0 k1)), (k0, AI cI 40 cw), (k1, AI cI 40 cp)])) (fun _ => rfl) (fun r_4 u h_5 => ?_)
    subst h_5
    refine x_if_ne C 36 dX5_pick_27 (by decide) (fun h_6 => ?_) (fun h_6 => ?_)
    ·
      refine x_iload_n C dX5_pick_36 rfl 2 rfl ?_
      refine xn_if_ne C 51 (by omega) dX5_pick_37 (by decide) (fun h_7 => ?_) (fun h_7 => ?_)
      ·
        refine x_iload_n C dX5_pick_51 rfl 2 rfl ?_
        refine x_iconst C (nI 1) dX5_pick_52 (by decide +kernel) ?_
        refine xn_icmp_ne C 67 (by omega) (by omega) dX5_pick_53 (by decide) (fun h_8 => ?_) (fun h_8 => ?_)
        ·
          exact absurd h_8 (by first | decide | omega)
        ·
          refine x_aload_n C dX5_pick_56 rfl 0 rfl ?_
          refine x_get C hK in_X5_pick_X5 0 rfl rfl 5 (by decide) (by decide +kernel) rfl rfl dX5_pick_57 ?_
          refine x_iconst C (nI 1) dX5_pick_60 (by decide +kernel) ?_
          refine x_aald C hK (r := k1) 2 2 rfl hR rfl (by omega) (by omega) (by rfl) dX5_pick_61 ?_
          refine x_iload_n C dX5_pick_62 rfl 1 rfl ?_
          refine x_iald C hK 4 0 rfl hI (by omega) (by omega) dX5_pick_63 ?_
          refine x_goto C 72 dX5_pick_64 (by decide) ?_
          refine x_iret C hK hlk hrt hQ hH0 hAA () ?_ [0, 1, 2, 3, 4] (by decide) rfl (by first | decide | omega) (by first | decide | omega) dX5_pick_72
          first | rfl | (exact ⟨rfl, rfl⟩) | trivial | assumption | omega
      ·
        exact absurd h_7 (by first | decide | omega)
    ·
      exact absurd ((bI_eq0 h_6).symm.trans ((below_n (j := 1) (b := 2 + 1) (by omega)).trans (decide_eq_true (by omega)))) (by decide)
abbrev rm_m_pickM : Room := { frames := 1, cells := 0, slots := 0, locals := 23 }
set_option maxRecDepth 100000 in
set_option maxHeartbeats 4000000 in
theorem c_m_pickM (l : Launch) (D : va_G) (tys : List (ClassId × FieldType)) (cI cJ cA : ClassId) (hI : tys[0]? = some (cI, .int)) (hJ : tys[1]? = some (cJ, .long)) (hR : tys[2]? = some (cA, .array .int)) (yo : Nat) (thr : Int32) (ri : Int32) (yt : Nat) (ys : Nat) (yf : Nat) (yc : Nat) (co : Nat) (dn : Nat) (yd : Nat) (nw : Nat) (np : Nat) (ti : Nat → Int32) (g0 : Nat) (g1 : Nat) (bw : Nat → Int32) (bp : Nat → Int32) (pk : Nat) (hnp : np ≤ 40) (hpk : pk < np) : MI l yX5_pick wsX5_pick rm_m_pickM D tys [.ref yo, .int (nI pk), .int (nI 2)] [(yo, OB 5 [.int thr, .int ri, .ref yt, .ref ys, .ref yf, .ref yc, .int (nI co), .int (nI dn), .ref yd]), (ys, AI cI 2 (sz2 nw np)), (yt, AI cI 10 ti), (yf, AR cA 2 (gr2 g0 g1)), (g0, AI cI 40 bw), (g1, AI cI 40 bp)] Unit (fun r (_ : Unit) => r = mvF (bp pk) ti 10) (fun (_ : Unit) => [(yo, OB 5 [.int (nI 0), .int ri, .ref yt, .ref ys, .ref yf, .ref yc, .int (nI co), .int (nI dn), .ref yd]), (ys, AI cI 2 (sz2 nw np)), (yt, AI cI 10 ti), (yf, AR cA 2 (gr2 g0 g1)), (g0, AI cI 40 bw), (g1, AI cI 40 bp)]) 0 0 := by
  intro sz
  refine x_met (cc := cX5_pick) (maxL := 3) (ret := (some .int)) (by decide +kernel) rfl (by show _ ≤ _; simp [lg_sl, Value.category]) [(0, .ref yo), (1, .int (nI pk)), (2, .int (nI 2))] rfl ?_
  intro p e s m args below meth c Q A H0 C hK hNW hlk hrt hnm hQ hH0 hAA hA
  refine x_aload_n C dX5_pick_0 rfl 0 rfl ?_
  refine x_iconst C (nI 0) dX5_pick_1 (by decide +kernel) ?_
  refine x_put C hK in_X5_pick_X5 tyX5 tyX5_ok nmX5 0 rfl rfl 0 (by decide) (by decide +kernel) rfl rfl (tyX5_ok 0 (by decide)) rfl rfl (Nat.le_of_ble_eq_true rfl) [(yo, OB 5 [.int (nI 0), .int ri, .ref yt, .ref ys, .ref yf, .ref yc, .int (nI co), .int (nI dn), .ref yd]), (ys, AI cI 2 (sz2 nw np)), (yt, AI cI 10 ti), (yf, AR cA 2 (gr2 g0 g1)), (g0, AI cI 40 bw), (g1, AI cI 40 bp)] rfl dX5_pick_2 ?_
  refine x_iload_n C dX5_pick_5 rfl 1 rfl ?_
  refine x_iconst C (nI 0) dX5_pick_6 (by decide +kernel) ?_
  refine x_aload_n C dX5_pick_7 rfl 0 rfl ?_
  refine x_get C hK in_X5_pick_X5 0 rfl rfl 3 (by decide) (by decide +kernel) rfl rfl dX5_pick_8 ?_
  refine x_iconst C (nI 1) dX5_pick_11 (by decide +kernel) ?_
  refine x_iald C hK 1 0 rfl hI (by omega) (by omega) dX5_pick_12 ?_
  refine x_topi (nI np) rfl ?_
  refine x_iconst C (nI 1) dX5_pick_13 (by decide +kernel) ?_
  refine x_isub C _ dX5_pick_14 rfl ?_
  refine x_calli (x_runS C hK hNW (c_m_isInS l D tys cI cJ cA hI hJ hR (nI pk) np (by first | omega | assumption)) (va_cwS 3 C.2.2.2.2 gX5_pick_X5_isIn rfl rfl rfl (by decide +kernel) ⟨by decide, by decide⟩) [] rfl (by decide) (st := []) rfl rfl (Nat.le_of_ble_eq_true rfl) dX5_pick_15 ⟨by first | decide | omega, by first | decide | omega⟩) hA [] rfl [0, 1, 2, 3, 4, 5] [(yo, OB 5 [.int (nI 0), .int ri, .ref yt, .ref ys, .ref yf, .ref yc, .int (nI co), .int (nI dn), .ref yd]), (ys, AI cI 2 (sz2 nw np)), (yt, AI cI 10 ti), (yf, AR cA 2 (gr2 g0 g1)), (g0, AI cI 40 bw), (g1, AI cI 40 bp)] rfl (by decide) (by decide) [0, 1, 2, 3, 4, 5] (by decide) (wf := (fun (u : Unit) => [(yo, OB 5 [.int (nI 0), .int ri, .ref yt, .ref ys, .ref yf, .ref yc, .int (nI co), .int (nI dn), .ref yd]), (ys, AI cI 2 (sz2 nw np)), (yt, AI cI 10 ti), (yf, AR cA 2 (gr2 g0 g1)), (g0, AI cI 40 bw), (g1, AI cI 40 bp)])) (fun _ => rfl) (fun r_1 u h_2 => ?_)
  subst h_2
  refine x_if_eq C 30 dX5_pick_18 (by decide) (fun h_3 => ?_) (fun h_3 => ?_)
  ·
    exact absurd ((bI_eq0 h_3).symm.trans ((below_n (j := pk) (b := np) (by omega)).trans (decide_eq_true (by omega)))) (by decide)
  ·
    refine x_iload_n C dX5_pick_21 rfl 2 rfl ?_
    refine x_iconst C (nI 0) dX5_pick_22 (by decide +kernel) ?_
    refine x_iconst C (nI 2) dX5_pick_23 (by decide +kernel) ?_
    refine x_calli (x_runS C hK hNW (c_m_isIn0 l D tys cI cJ cA hI hJ hR (nI 2) 2 (by first | omega | assumption)) (va_cwS 3 C.2.2.2.2 gX5_pick_X5_isIn rfl rfl rfl (by decide +kernel) ⟨by decide, by decide⟩) [] rfl (by decide) (st := []) rfl rfl (Nat.le_of_ble_eq_true rfl) dX5_pick_24 ⟨by first | decide | omega, by first | decide | omega⟩) hA [] rfl [0, 1, 2, 3, 4, 5] [(yo, OB 5 [.int (nI 0), .int ri, .ref yt, .ref ys, .ref yf, .ref yc, .int (nI co), .int (nI dn), .ref yd]), (ys, AI cI 2 (sz2 nw np)), (yt, AI cI 10 ti), (yf, AR cA 2 (gr2 g0 g1)), (g0, AI cI 40 bw), (g1, AI cI 40 bp)] rfl (by decide) (by decide) [0, 1, 2, 3, 4, 5] (by decide) (wf := (fun (u : Unit) => [(yo, OB 5 [.int (nI 0), .int ri, .ref yt, .ref ys, .ref yf, .ref yc, .int (nI co), .int (nI dn), .ref yd]), (ys, AI cI 2 (sz2 nw np)), (yt, AI cI 10 ti), (yf, AR cA 2 (gr2 g0 g1)), (g0, AI cI 40 bw), (g1, AI cI 40 bp)])) (fun _ => rfl) (fun r_4 u h_5 => ?_)
    subst h_5
    refine x_if_ne C 36 dX5_pick_27 (by decide) (fun h_6 => ?_) (fun h_6 => ?_)
    ·
      refine x_iload_n C dX5_pick_36 rfl 2 rfl ?_
      refine xn_if_ne C 51 (by omega) dX5_pick_37 (by decide) (fun h_7 => ?_) (fun h_7 => ?_)
      ·
        refine x_iload_n C dX5_pick_51 rfl 2 rfl ?_
        refine x_iconst C (nI 1) dX5_pick_52 (by decide +kernel) ?_
        refine xn_icmp_ne C 67 (by omega) (by omega) dX5_pick_53 (by decide) (fun h_8 => ?_) (fun h_8 => ?_)
        ·
          refine x_aload_n C dX5_pick_67 rfl 0 rfl ?_
          refine x_iload_n C dX5_pick_68 rfl 1 rfl ?_
          refine x_calli (x_runV C hK hNW (c_m_moved l D tys cI cJ cA hI hJ hR yo (nI 0) ri yt ys yf yc co dn yd ti g0 g1 bw bp pk (by first | omega | assumption)) (cwV 1 C.2.2.2.2 gX5_pick_X5_moved rfl rfl rfl (by decide +kernel) ⟨by decide, by decide⟩) [0, 2, 3, 4, 5] rfl (by decide) 0 5 rfl rfl rfl (st := []) rfl rfl (Nat.le_of_ble_eq_true rfl) dX5_pick_69 ⟨by first | decide | omega, by first | decide | omega⟩) hA [0, 2, 3, 4, 5] rfl [1] [(ys, AI cI 2 (sz2 nw np))] rfl (by decide) (by decide) [1, 0, 2, 3, 4, 5] (by decide) (wf := (fun (u : Unit) => [(yo, OB 5 [.int (nI 0), .int ri, .ref yt, .ref ys, .ref yf, .ref yc, .int (nI co), .int (nI dn), .ref yd]), (ys, AI cI 2 (sz2 nw np)), (yt, AI cI 10 ti), (yf, AR cA 2 (gr2 g0 g1)), (g0, AI cI 40 bw), (g1, AI cI 40 bp)])) (fun _ => rfl) (fun r_9 u h_10 => ?_)
          subst h_10
          refine x_iret C hK hlk hrt hQ hH0 hAA () ?_ [0, 1, 2, 3, 4, 5] (by decide) rfl (by first | decide | omega) (by first | decide | omega) dX5_pick_72
          first | rfl | (exact ⟨rfl, rfl⟩) | trivial | assumption | omega
        ·
          exact absurd h_8 (by first | decide | omega)
      ·
        exact absurd h_7 (by first | decide | omega)
    ·
      exact absurd ((bI_eq0 h_6).symm.trans ((below_n (j := 2) (b := 2 + 1) (by omega)).trans (decide_eq_true (by omega)))) (by decide)
abbrev rm_m_pickX : Room := { frames := 1, cells := 0, slots := 0, locals := 22 }
set_option maxRecDepth 100000 in
set_option maxHeartbeats 4000000 in
theorem c_m_pickX (l : Launch) (D : va_G) (tys : List (ClassId × FieldType)) (cI cJ cA : ClassId) (hI : tys[0]? = some (cI, .int)) (hJ : tys[1]? = some (cJ, .long)) (hR : tys[2]? = some (cA, .array .int)) (yo : Nat) (thr : Int32) (ri : Int32) (yt : Nat) (ys : Nat) (yf : Nat) (yc : Nat) (co : Nat) (dn : Nat) (yd : Nat) (nw : Nat) (np : Nat) (pk : Int32) (wt : Int32) (hnp : np ≤ 40) (hx : ¬ (below pk np = true ∧ below wt 3 = true)) : MI l yX5_pick wsX5_pick rm_m_pickX D tys [.ref yo, .int pk, .int wt] [(yo, OB 5 [.int thr, .int ri, .ref yt, .ref ys, .ref yf, .ref yc, .int (nI co), .int (nI dn), .ref yd]), (ys, AI cI 2 (sz2 nw np))] Unit (fun r (_ : Unit) => r = nI 0) (fun (_ : Unit) => [(yo, OB 5 [.int (nI 1), .int ri, .ref yt, .ref ys, .ref yf, .ref yc, .int (nI co), .int (nI dn), .ref yd]), (ys, AI cI 2 (sz2 nw np))]) 0 0 := by
  intro sz
  refine x_met (cc := cX5_pick) (maxL := 3) (ret := (some .int)) (by decide +kernel) rfl (by show _ ≤ _; simp [lg_sl, Value.category]) [(0, .ref yo), (1, .int pk), (2, .int wt)] rfl ?_
  intro p e s m args below meth c Q A H0 C hK hNW hlk hrt hnm hQ hH0 hAA hA
  refine x_aload_n C dX5_pick_0 rfl 0 rfl ?_
  refine x_iconst C (nI 0) dX5_pick_1 (by decide +kernel) ?_
  refine x_put C hK in_X5_pick_X5 tyX5 tyX5_ok nmX5 0 rfl rfl 0 (by decide) (by decide +kernel) rfl rfl (tyX5_ok 0 (by decide)) rfl rfl (Nat.le_of_ble_eq_true rfl) [(yo, OB 5 [.int (nI 0), .int ri, .ref yt, .ref ys, .ref yf, .ref yc, .int (nI co), .int (nI dn), .ref yd]), (ys, AI cI 2 (sz2 nw np))] rfl dX5_pick_2 ?_
  refine x_iload_n C dX5_pick_5 rfl 1 rfl ?_
  refine x_iconst C (nI 0) dX5_pick_6 (by decide +kernel) ?_
  refine x_aload_n C dX5_pick_7 rfl 0 rfl ?_
  refine x_get C hK in_X5_pick_X5 0 rfl rfl 3 (by decide) (by decide +kernel) rfl rfl dX5_pick_8 ?_
  refine x_iconst C (nI 1) dX5_pick_11 (by decide +kernel) ?_
  refine x_iald C hK 1 0 rfl hI (by omega) (by omega) dX5_pick_12 ?_
  refine x_topi (nI np) rfl ?_
  refine x_iconst C (nI 1) dX5_pick_13 (by decide +kernel) ?_
  refine x_isub C _ dX5_pick_14 rfl ?_
  refine x_calli (x_runS C hK hNW (c_m_isInS l D tys cI cJ cA hI hJ hR pk np (by first | omega | assumption)) (va_cwS 3 C.2.2.2.2 gX5_pick_X5_isIn rfl rfl rfl (by decide +kernel) ⟨by decide, by decide⟩) [] rfl (by decide) (st := []) rfl rfl (Nat.le_of_ble_eq_true rfl) dX5_pick_15 ⟨by first | decide | omega, by first | decide | omega⟩) hA [] rfl [0, 1] [(yo, OB 5 [.int (nI 0), .int ri, .ref yt, .ref ys, .ref yf, .ref yc, .int (nI co), .int (nI dn), .ref yd]), (ys, AI cI 2 (sz2 nw np))] rfl (by decide) (by decide) [0, 1] (by decide) (wf := (fun (u : Unit) => [(yo, OB 5 [.int (nI 0), .int ri, .ref yt, .ref ys, .ref yf, .ref yc, .int (nI co), .int (nI dn), .ref yd]), (ys, AI cI 2 (sz2 nw np))])) (fun _ => rfl) (fun r_1 u h_2 => ?_)
  subst h_2
  refine x_if_eq C 30 dX5_pick_18 (by decide) (fun h_3 => ?_) (fun h_3 => ?_)
  ·
    refine x_aload_n C dX5_pick_30 rfl 0 rfl ?_
    refine x_iconst C (nI 1) dX5_pick_31 (by decide +kernel) ?_
    refine x_calli (x_runV C hK hNW (c_m_fail l D tys cI cJ cA hI hJ hR yo (nI 0) ri yt ys yf yc co dn yd 1 ) (cwV 1 C.2.2.2.2 gX5_pick_X5_fail rfl rfl rfl (by decide +kernel) ⟨by decide, by decide⟩) [0] rfl (by decide) 0 5 rfl rfl rfl (st := []) rfl rfl (Nat.le_of_ble_eq_true rfl) dX5_pick_32 ⟨by first | decide | omega, by first | decide | omega⟩) hA [0] rfl [1] [(ys, AI cI 2 (sz2 nw np))] rfl (by decide) (by decide) [1, 0] (by decide) (wf := (fun (u : Unit) => [(yo, OB 5 [.int (nI 1), .int ri, .ref yt, .ref ys, .ref yf, .ref yc, .int (nI co), .int (nI dn), .ref yd]), (ys, AI cI 2 (sz2 nw np))])) (fun _ => rfl) (fun r_4 u h_5 => ?_)
    subst h_5
    refine x_iret C hK hlk hrt hQ hH0 hAA () ?_ [0, 1] (by decide) rfl (by first | decide | omega) (by first | decide | omega) dX5_pick_35
    first | rfl | (exact ⟨rfl, rfl⟩) | trivial | assumption | omega
  ·
    refine x_iload_n C dX5_pick_21 rfl 2 rfl ?_
    refine x_iconst C (nI 0) dX5_pick_22 (by decide +kernel) ?_
    refine x_iconst C (nI 2) dX5_pick_23 (by decide +kernel) ?_
    refine x_calli (x_runS C hK hNW (c_m_isIn0 l D tys cI cJ cA hI hJ hR wt 2 (by first | omega | assumption)) (va_cwS 3 C.2.2.2.2 gX5_pick_X5_isIn rfl rfl rfl (by decide +kernel) ⟨by decide, by decide⟩) [] rfl (by decide) (st := []) rfl rfl (Nat.le_of_ble_eq_true rfl) dX5_pick_24 ⟨by first | decide | omega, by first | decide | omega⟩) hA [] rfl [0, 1] [(yo, OB 5 [.int (nI 0), .int ri, .ref yt, .ref ys, .ref yf, .ref yc, .int (nI co), .int (nI dn), .ref yd]), (ys, AI cI 2 (sz2 nw np))] rfl (by decide) (by decide) [0, 1] (by decide) (wf := (fun (u : Unit) => [(yo, OB 5 [.int (nI 0), .int ri, .ref yt, .ref ys, .ref yf, .ref yc, .int (nI co), .int (nI dn), .ref yd]), (ys, AI cI 2 (sz2 nw np))])) (fun _ => rfl) (fun r_6 u h_7 => ?_)
    subst h_7
    refine x_if_ne C 36 dX5_pick_27 (by decide) (fun h_8 => ?_) (fun h_8 => ?_)
    ·
      exact absurd ⟨bI_ne0 (by assumption), bI_ne0 h_8⟩ hx
    ·
      refine x_aload_n C dX5_pick_30 rfl 0 rfl ?_
      refine x_iconst C (nI 1) dX5_pick_31 (by decide +kernel) ?_
      refine x_calli (x_runV C hK hNW (c_m_fail l D tys cI cJ cA hI hJ hR yo (nI 0) ri yt ys yf yc co dn yd 1 ) (cwV 1 C.2.2.2.2 gX5_pick_X5_fail rfl rfl rfl (by decide +kernel) ⟨by decide, by decide⟩) [0] rfl (by decide) 0 5 rfl rfl rfl (st := []) rfl rfl (Nat.le_of_ble_eq_true rfl) dX5_pick_32 ⟨by first | decide | omega, by first | decide | omega⟩) hA [0] rfl [1] [(ys, AI cI 2 (sz2 nw np))] rfl (by decide) (by decide) [1, 0] (by decide) (wf := (fun (u : Unit) => [(yo, OB 5 [.int (nI 1), .int ri, .ref yt, .ref ys, .ref yf, .ref yc, .int (nI co), .int (nI dn), .ref yd]), (ys, AI cI 2 (sz2 nw np))])) (fun _ => rfl) (fun r_9 u h_10 => ?_)
      subst h_10
      refine x_iret C hK hlk hrt hQ hH0 hAA () ?_ [0, 1] (by decide) rfl (by first | decide | omega) (by first | decide | omega) dX5_pick_35
      first | rfl | (exact ⟨rfl, rfl⟩) | trivial | assumption | omega
