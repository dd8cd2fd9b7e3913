/-! LoomDraft, second part -/
theorem in_X4_thread_X3 : ∀ w ∈ wsX30, w ∈ wsX4_thread := by decide +kernel
theorem in_X4_thread_X4 : ∀ w ∈ wsX40, w ∈ wsX4_thread := by decide +kernel
theorem in_X4_tread_X3 : ∀ w ∈ wsX30, w ∈ wsX4_tread := by decide +kernel
theorem in_X4_tread_X4 : ∀ w ∈ wsX40, w ∈ wsX4_tread := by decide +kernel
theorem in_X4_tie_X4 : ∀ w ∈ wsX40, w ∈ wsX4_tie := by decide +kernel
theorem in_X4_end_X3 : ∀ w ∈ wsX30, w ∈ wsX4_end := by decide +kernel
theorem in_X4_end_X4 : ∀ w ∈ wsX40, w ∈ wsX4_end := by decide +kernel
theorem in_X4_pick_X3 : ∀ w ∈ wsX30, w ∈ wsX4_pick := by decide +kernel
theorem in_X4_pick_X4 : ∀ w ∈ wsX40, w ∈ wsX4_pick := by decide +kernel
theorem in_X4_isWarpOnTop_X3 : ∀ w ∈ wsX30, w ∈ wsX4_isWarpOnTop := by decide +kernel
theorem in_X4_isWarpOnTop_X4 : ∀ w ∈ wsX40, w ∈ wsX4_isWarpOnTop := by decide +kernel
theorem in_X4_colour_X3 : ∀ w ∈ wsX30, w ∈ wsX4_colour := by decide +kernel
theorem in_X4_colour_X4 : ∀ w ∈ wsX40, w ∈ wsX4_colour := by decide +kernel
abbrev rm_thread : Room := { frames := 1, cells := 0, slots := 0, locals := 23 }
set_option maxRecDepth 100000 in
set_option maxHeartbeats 4000000 in
theorem c_thread (l : Launch) (D : va_G) (tys : List (ClassId × FieldType)) (cI cJ : ClassId) (hI : tys[0]? = some (cI, .int)) (hJ : tys[1]? = some (cJ, .long)) (x : Nat) (qw : Nat) (qv : Nat) (qt : Nat) (ri : Int32) (qd : Nat) (qc : Nat) (ql : Nat) (wa : Nat) (wo : Nat) (nw : Nat) (bw : Nat → Int32) (cw : Nat → Int32) (sh : Nat) (cl : Nat) (hnw : nw < 40) (hsh : sh < 8) (hcl : cl < 8) : MI l yX4_thread wsX4_thread rm_thread D tys [.ref x, .int (nI sh), .int (nI cl)] [(x, OB 4 [.ref qw, .ref qv, .ref qt, .int ri, .ref qd, .ref qc, .ref ql]), (qw, OB 3 [.ref wa, .ref wo, .int (nI nw)]), (wa, AI cI 40 bw), (wo, AI cI 40 cw)] Unit (fun r (_ : Unit) => r = nI nw) (fun (_ : Unit) => [(x, OB 4 [.ref qw, .ref qv, .ref qt, .int ri, .ref qd, .ref qc, .ref ql]), (qw, OB 3 [.ref wa, .ref wo, .int (nI (nw + 1))]), (wa, AI cI 40 (upd bw nw (nI sh))), (wo, AI cI 40 (upd cw nw (nI cl)))]) 0 0 := by
  intro sz
  refine x_met (cc := cX4_thread) (maxL := 3) (ret := (some .int)) (by decide +kernel) rfl (by show _ ≤ _; simp [lg_sl, Value.category]) [(0, .ref x), (1, .int (nI sh)), (2, .int (nI cl))] rfl ?_
  intro p e s m args below meth c Q A H0 C hK hNW hlk hrt hnm hQ hH0 hAA hA
  refine x_iload_n C dX4_thread_0 rfl 1 rfl ?_
  refine x_bipush C (nI 8) dX4_thread_1 (by decide +kernel) ?_
  refine x_calli (x_runS C hK hNW (c_isBelow l D tys cI cJ hI hJ (nI sh) 8 (by first | omega | assumption)) (va_cwS 2 C.2.2.2.2 gX4_thread_X4_isBelow rfl rfl rfl (by decide +kernel) ⟨by decide, by decide⟩) [] rfl (by decide) (st := []) rfl rfl (Nat.le_of_ble_eq_true rfl) dX4_thread_3 ⟨by first | decide | omega, by first | decide | omega⟩) hA [] rfl [0, 1, 2, 3] [(x, OB 4 [.ref qw, .ref qv, .ref qt, .int ri, .ref qd, .ref qc, .ref ql]), (qw, OB 3 [.ref wa, .ref wo, .int (nI nw)]), (wa, AI cI 40 bw), (wo, AI cI 40 cw)] rfl (by decide) (by decide) [0, 1, 2, 3] (by decide) (wf := (fun (u : Unit) => [(x, OB 4 [.ref qw, .ref qv, .ref qt, .int ri, .ref qd, .ref qc, .ref ql]), (qw, OB 3 [.ref wa, .ref wo, .int (nI nw)]), (wa, AI cI 40 bw), (wo, AI cI 40 cw)])) (fun _ => rfl) (fun r_1 u h_2 => ?_)
  subst h_2
  refine x_if_eq C 18 dX4_thread_6 (by decide) (fun h_3 => ?_) (fun h_3 => ?_)
  ·
    exact absurd ((bI_eq0 h_3).symm.trans ((below_n (j := sh) (b := 8) (by omega)).trans (decide_eq_true (by omega)))) (by decide)
  ·
    refine x_iload_n C dX4_thread_9 rfl 2 rfl ?_
    refine x_bipush C (nI 8) dX4_thread_10 (by decide +kernel) ?_
    refine x_calli (x_runS C hK hNW (c_isBelow l D tys cI cJ hI hJ (nI cl) 8 (by first | omega | assumption)) (va_cwS 2 C.2.2.2.2 gX4_thread_X4_isBelow rfl rfl rfl (by decide +kernel) ⟨by decide, by decide⟩) [] rfl (by decide) (st := []) rfl rfl (Nat.le_of_ble_eq_true rfl) dX4_thread_12 ⟨by first | decide | omega, by first | decide | omega⟩) hA [] rfl [0, 1, 2, 3] [(x, OB 4 [.ref qw, .ref qv, .ref qt, .int ri, .ref qd, .ref qc, .ref ql]), (qw, OB 3 [.ref wa, .ref wo, .int (nI nw)]), (wa, AI cI 40 bw), (wo, AI cI 40 cw)] rfl (by decide) (by decide) [0, 1, 2, 3] (by decide) (wf := (fun (u : Unit) => [(x, OB 4 [.ref qw, .ref qv, .ref qt, .int ri, .ref qd, .ref qc, .ref ql]), (qw, OB 3 [.ref wa, .ref wo, .int (nI nw)]), (wa, AI cI 40 bw), (wo, AI cI 40 cw)])) (fun _ => rfl) (fun r_4 u h_5 => ?_)
    subst h_5
    refine x_if_ne C 26 dX4_thread_15 (by decide) (fun h_6 => ?_) (fun h_6 => ?_)
    ·
      refine x_aload_n C dX4_thread_26 rfl 0 rfl ?_
      refine x_get C hK in_X4_thread_X4 0 rfl rfl 0 (by decide) (by decide +kernel) rfl rfl dX4_thread_27 ?_
      refine x_calli (x_runVN C hK hNW (c_tr_isFull l D tys cI cJ hI hJ qw wa wo nw bw cw (by first | omega | assumption)) ⟨va_cnB 0 C.2.2.2.2 gX4_thread_X3_isFull_n55 rfl rfl rfl (hNW.at 19 rfl) (C.2.2.2.2 (.initialized RX3) (by decide +kernel)) (by decide +kernel) ⟨by decide, by decide⟩, C.2.2.2.2 (.instanceMethod yX3_isFull) (by decide +kernel), C.2.2.2.2 (.selects RX3 yX3_isFull yX3_isFull) (by decide +kernel)⟩ [1, 2, 3] rfl (by decide) 1 3 rfl rfl rfl (st := []) rfl rfl (Nat.le_of_ble_eq_true rfl) dX4_thread_30 ⟨by first | decide | omega, by first | decide | omega⟩) hA [1, 2, 3] rfl [0] [(x, OB 4 [.ref qw, .ref qv, .ref qt, .int ri, .ref qd, .ref qc, .ref ql])] rfl (by decide) (by decide) [0, 1, 2, 3] (by decide) (wf := (fun (u : Unit) => [(x, OB 4 [.ref qw, .ref qv, .ref qt, .int ri, .ref qd, .ref qc, .ref ql]), (qw, OB 3 [.ref wa, .ref wo, .int (nI nw)]), (wa, AI cI 40 bw), (wo, AI cI 40 cw)])) (fun _ => rfl) (fun r_7 u h_8 => ?_)
      subst h_8
      refine x_if_eq C 44 dX4_thread_33 (by decide) (fun h_9 => ?_) (fun h_9 => ?_)
      ·
        refine x_aload_n C dX4_thread_44 rfl 0 rfl ?_
        refine x_get C hK in_X4_thread_X4 0 rfl rfl 0 (by decide) (by decide +kernel) rfl rfl dX4_thread_45 ?_
        refine x_iload_n C dX4_thread_48 rfl 1 rfl ?_
        refine x_iload_n C dX4_thread_49 rfl 2 rfl ?_
        refine x_calli (x_runVN C hK hNW (c_tr_add l D tys cI cJ hI hJ qw wa wo nw bw cw (nI sh) (nI cl) (by first | omega | assumption)) ⟨va_cnB 2 C.2.2.2.2 gX4_thread_X3_add_n62 rfl rfl rfl (hNW.at 20 rfl) (C.2.2.2.2 (.initialized RX3) (by decide +kernel)) (by decide +kernel) ⟨by decide, by decide⟩, C.2.2.2.2 (.instanceMethod yX3_add) (by decide +kernel), C.2.2.2.2 (.selects RX3 yX3_add yX3_add) (by decide +kernel)⟩ [1, 2, 3] rfl (by decide) 1 3 rfl rfl rfl (st := []) rfl rfl (Nat.le_of_ble_eq_true rfl) dX4_thread_50 ⟨by first | decide | omega, by first | decide | omega⟩) hA [1, 2, 3] rfl [0] [(x, OB 4 [.ref qw, .ref qv, .ref qt, .int ri, .ref qd, .ref qc, .ref ql])] rfl (by decide) (by decide) [0, 1, 2, 3] (by decide) (wf := (fun (u : Unit) => [(x, OB 4 [.ref qw, .ref qv, .ref qt, .int ri, .ref qd, .ref qc, .ref ql]), (qw, OB 3 [.ref wa, .ref wo, .int (nI (nw + 1))]), (wa, AI cI 40 (upd bw nw (nI sh))), (wo, AI cI 40 (upd cw nw (nI cl)))])) (fun _ => rfl) (fun r_10 u h_11 => ?_)
        subst h_11
        refine x_iret C hK hlk hrt hQ hH0 hAA () ?_ [0, 1, 2, 3] (by decide) rfl (by first | decide | omega) (by first | decide | omega) dX4_thread_53
        first | rfl | (exact ⟨rfl, rfl⟩) | trivial | assumption | omega
      ·
        exact absurd ((bI_ne0 h_9).symm.trans (decide_eq_false (by omega))) (by decide)
    ·
      exact absurd ((bI_eq0 h_6).symm.trans ((below_n (j := cl) (b := 8) (by omega)).trans (decide_eq_true (by omega)))) (by decide)
abbrev rm_threadX1 : Room := { frames := 6, cells := 1, slots := 6, locals := 81 }
set_option maxRecDepth 100000 in
set_option maxHeartbeats 4000000 in
theorem c_threadX1 (l : Launch) (hl0 : l.stackTraces = false) (D : va_G) (tys : List (ClassId × FieldType)) (cI cJ : ClassId) (hI : tys[0]? = some (cI, .int)) (hJ : tys[1]? = some (cJ, .long)) (x : Nat) (qw : Nat) (qv : Nat) (qt : Nat) (ri : Int32) (qd : Nat) (qc : Nat) (ql : Nat) (sh : Int32) (cl : Int32) (hx : ¬ (below sh 8 = true ∧ below cl 8 = true)) : XI l yX4_thread wsX4_thread rm_threadX1 D tys [.ref x, .int sh, .int cl] [(x, OB 4 [.ref qw, .ref qv, .ref qt, .int ri, .ref qd, .ref qc, .ref ql])] Unit (fun _ _ => False) (fun _ => [(x, OB 4 [.ref qw, .ref qv, .ref qt, .int ri, .ref qd, .ref qc, .ref ql])]) [(x, OB 4 [.ref qw, .ref qv, .ref qt, .int ri, .ref qd, .ref qc, .ref ql])] (fun E => E = "java/lang/IllegalArgumentException") 1 6 := by
  intro sz
  refine x_metX (cc := cX4_thread) (maxL := 3) (ret := (some .int)) (by decide +kernel) rfl (by show _ ≤ _; simp [lg_sl, Value.category]) [(0, .ref x), (1, .int sh), (2, .int cl)] rfl ?_
  intro p e s m args below meth c Q A H0 C hK hNW hlk hrt hnm hQ hH0 hAA hA hZ htab
  refine x_iload_n C dX4_thread_0 rfl 1 rfl ?_
  refine x_bipush C (nI 8) dX4_thread_1 (by decide +kernel) ?_
  refine x_calli (x_runS C hK hNW (c_isBelow l D tys cI cJ hI hJ sh 8 (by first | omega | assumption)) (va_cwS 2 C.2.2.2.2 gX4_thread_X4_isBelow rfl rfl rfl (by decide +kernel) ⟨by decide, by decide⟩) [] rfl (by decide) (st := []) rfl rfl (Nat.le_of_ble_eq_true rfl) dX4_thread_3 ⟨by first | decide | omega, by first | decide | omega⟩) hA [] rfl [0] [(x, OB 4 [.ref qw, .ref qv, .ref qt, .int ri, .ref qd, .ref qc, .ref ql])] rfl (by decide) (by decide) [0] (by decide) (wf := (fun (u : Unit) => [(x, OB 4 [.ref qw, .ref qv, .ref qt, .int ri, .ref qd, .ref qc, .ref ql])])) (fun _ => rfl) (fun r_1 u h_2 => ?_)
  subst h_2
  refine x_if_eq C 18 dX4_thread_6 (by decide) (fun h_3 => ?_) (fun h_3 => ?_)
  ·
    exact x_throw0 C hK hNW hl0 hlk htab hQ hH0 hAA hZ (cls := "java/lang/IllegalArgumentException") (names := ["java/lang/RuntimeException", "java/lang/Exception"]) (ik := 52) (ic := 54) (S := Unit) (by decide +kernel) (by decide +kernel) (by decide +kernel) (by decide +kernel) (by decide +kernel) (by decide +kernel) (by decide +kernel) dX4_thread_18 dX4_thread_21 dX4_thread_22 dX4_thread_25 (by decide) (by decide) (by decide) (by decide) rfl [0] (by decide) rfl (by decide) (by decide)
  ·
    refine x_iload_n C dX4_thread_9 rfl 2 rfl ?_
    refine x_bipush C (nI 8) dX4_thread_10 (by decide +kernel) ?_
    refine x_calli (x_runS C hK hNW (c_isBelow l D tys cI cJ hI hJ cl 8 (by first | omega | assumption)) (va_cwS 2 C.2.2.2.2 gX4_thread_X4_isBelow rfl rfl rfl (by decide +kernel) ⟨by decide, by decide⟩) [] rfl (by decide) (st := []) rfl rfl (Nat.le_of_ble_eq_true rfl) dX4_thread_12 ⟨by first | decide | omega, by first | decide | omega⟩) hA [] rfl [0] [(x, OB 4 [.ref qw, .ref qv, .ref qt, .int ri, .ref qd, .ref qc, .ref ql])] rfl (by decide) (by decide) [0] (by decide) (wf := (fun (u : Unit) => [(x, OB 4 [.ref qw, .ref qv, .ref qt, .int ri, .ref qd, .ref qc, .ref ql])])) (fun _ => rfl) (fun r_4 u h_5 => ?_)
    subst h_5
    refine x_if_ne C 26 dX4_thread_15 (by decide) (fun h_6 => ?_) (fun h_6 => ?_)
    ·
      exact absurd ⟨bI_ne0 (by assumption), bI_ne0 h_6⟩ hx
    ·
      exact x_throw0 C hK hNW hl0 hlk htab hQ hH0 hAA hZ (cls := "java/lang/IllegalArgumentException") (names := ["java/lang/RuntimeException", "java/lang/Exception"]) (ik := 52) (ic := 54) (S := Unit) (by decide +kernel) (by decide +kernel) (by decide +kernel) (by decide +kernel) (by decide +kernel) (by decide +kernel) (by decide +kernel) dX4_thread_18 dX4_thread_21 dX4_thread_22 dX4_thread_25 (by decide) (by decide) (by decide) (by decide) rfl [0] (by decide) rfl (by decide) (by decide)
abbrev rm_threadX2 : Room := { frames := 6, cells := 1, slots := 6, locals := 81 }
set_option maxRecDepth 100000 in
set_option maxHeartbeats 4000000 in
theorem c_threadX2 (l : Launch) (hl0 : l.stackTraces = false) (D : va_G) (tys : List (ClassId × FieldType)) (cI cJ : ClassId) (hI : tys[0]? = some (cI, .int)) (hJ : tys[1]? = some (cJ, .long)) (x : Nat) (qw : Nat) (qv : Nat) (qt : Nat) (ri : Int32) (qd : Nat) (qc : Nat) (ql : Nat) (wa : Nat) (wo : Nat) (bw : Nat → Int32) (cw : Nat → Int32) (sh : Int32) (cl : Int32) (h1 : below sh 8 = true) (h2 : below cl 8 = true) : XI l yX4_thread wsX4_thread rm_threadX2 D tys [.ref x, .int sh, .int cl] [(x, OB 4 [.ref qw, .ref qv, .ref qt, .int ri, .ref qd, .ref qc, .ref ql]), (qw, OB 3 [.ref wa, .ref wo, .int (nI 40)]), (wa, AI cI 40 bw), (wo, AI cI 40 cw)] Unit (fun _ _ => False) (fun _ => [(x, OB 4 [.ref qw, .ref qv, .ref qt, .int ri, .ref qd, .ref qc, .ref ql]), (qw, OB 3 [.ref wa, .ref wo, .int (nI 40)]), (wa, AI cI 40 bw), (wo, AI cI 40 cw)]) [(x, OB 4 [.ref qw, .ref qv, .ref qt, .int ri, .ref qd, .ref qc, .ref ql]), (qw, OB 3 [.ref wa, .ref wo, .int (nI 40)]), (wa, AI cI 40 bw), (wo, AI cI 40 cw)] (fun E => E = "java/lang/IllegalStateException") 1 6 := by
  intro sz
  refine x_metX (cc := cX4_thread) (maxL := 3) (ret := (some .int)) (by decide +kernel) rfl (by show _ ≤ _; simp [lg_sl, Value.category]) [(0, .ref x), (1, .int sh), (2, .int cl)] rfl ?_
  intro p e s m args below meth c Q A H0 C hK hNW hlk hrt hnm hQ hH0 hAA hA hZ htab
  refine x_iload_n C dX4_thread_0 rfl 1 rfl ?_
  refine x_bipush C (nI 8) dX4_thread_1 (by decide +kernel) ?_
  refine x_calli (x_runS C hK hNW (c_isBelow l D tys cI cJ hI hJ sh 8 (by first | omega | assumption)) (va_cwS 2 C.2.2.2.2 gX4_thread_X4_isBelow rfl rfl rfl (by decide +kernel) ⟨by decide, by decide⟩) [] rfl (by decide) (st := []) rfl rfl (Nat.le_of_ble_eq_true rfl) dX4_thread_3 ⟨by first | decide | omega, by first | decide | omega⟩) hA [] rfl [0, 1, 2, 3] [(x, OB 4 [.ref qw, .ref qv, .ref qt, .int ri, .ref qd, .ref qc, .ref ql]), (qw, OB 3 [.ref wa, .ref wo, .int (nI 40)]), (wa, AI cI 40 bw), (wo, AI cI 40 cw)] rfl (by decide) (by decide) [0, 1, 2, 3] (by decide) (wf := (fun (u : Unit) => [(x, OB 4 [.ref qw, .ref qv, .ref qt, .int ri, .ref qd, .ref qc, .ref ql]), (qw, OB 3 [.ref wa, .ref wo, .int (nI 40)]), (wa, AI cI 40 bw), (wo, AI cI 40 cw)])) (fun _ => rfl) (fun r_1 u h_2 => ?_)
  subst h_2
  refine x_if_eq C 18 dX4_thread_6 (by decide) (fun h_3 => ?_) (fun h_3 => ?_)
  ·
    exact absurd ((bI_eq0 h_3).symm.trans h1) (by decide)
  ·
    refine x_iload_n C dX4_thread_9 rfl 2 rfl ?_
    refine x_bipush C (nI 8) dX4_thread_10 (by decide +kernel) ?_
    refine x_calli (x_runS C hK hNW (c_isBelow l D tys cI cJ hI hJ cl 8 (by first | omega | assumption)) (va_cwS 2 C.2.2.2.2 gX4_thread_X4_isBelow rfl rfl rfl (by decide +kernel) ⟨by decide, by decide⟩) [] rfl (by decide) (st := []) rfl rfl (Nat.le_of_ble_eq_true rfl) dX4_thread_12 ⟨by first | decide | omega, by first | decide | omega⟩) hA [] rfl [0, 1, 2, 3] [(x, OB 4 [.ref qw, .ref qv, .ref qt, .int ri, .ref qd, .ref qc, .ref ql]), (qw, OB 3 [.ref wa, .ref wo, .int (nI 40)]), (wa, AI cI 40 bw), (wo, AI cI 40 cw)] rfl (by decide) (by decide) [0, 1, 2, 3] (by decide) (wf := (fun (u : Unit) => [(x, OB 4 [.ref qw, .ref qv, .ref qt, .int ri, .ref qd, .ref qc, .ref ql]), (qw, OB 3 [.ref wa, .ref wo, .int (nI 40)]), (wa, AI cI 40 bw), (wo, AI cI 40 cw)])) (fun _ => rfl) (fun r_4 u h_5 => ?_)
    subst h_5
    refine x_if_ne C 26 dX4_thread_15 (by decide) (fun h_6 => ?_) (fun h_6 => ?_)
    ·
      refine x_aload_n C dX4_thread_26 rfl 0 rfl ?_
      refine x_get C hK in_X4_thread_X4 0 rfl rfl 0 (by decide) (by decide +kernel) rfl rfl dX4_thread_27 ?_
      refine x_calli (x_runVN C hK hNW (c_tr_isFull l D tys cI cJ hI hJ qw wa wo 40 bw cw (by first | omega | assumption)) ⟨va_cnB 0 C.2.2.2.2 gX4_thread_X3_isFull_n55 rfl rfl rfl (hNW.at 19 rfl) (C.2.2.2.2 (.initialized RX3) (by decide +kernel)) (by decide +kernel) ⟨by decide, by decide⟩, C.2.2.2.2 (.instanceMethod yX3_isFull) (by decide +kernel), C.2.2.2.2 (.selects RX3 yX3_isFull yX3_isFull) (by decide +kernel)⟩ [1, 2, 3] rfl (by decide) 1 3 rfl rfl rfl (st := []) rfl rfl (Nat.le_of_ble_eq_true rfl) dX4_thread_30 ⟨by first | decide | omega, by first | decide | omega⟩) hA [1, 2, 3] rfl [0] [(x, OB 4 [.ref qw, .ref qv, .ref qt, .int ri, .ref qd, .ref qc, .ref ql])] rfl (by decide) (by decide) [0, 1, 2, 3] (by decide) (wf := (fun (u : Unit) => [(x, OB 4 [.ref qw, .ref qv, .ref qt, .int ri, .ref qd, .ref qc, .ref ql]), (qw, OB 3 [.ref wa, .ref wo, .int (nI 40)]), (wa, AI cI 40 bw), (wo, AI cI 40 cw)])) (fun _ => rfl) (fun r_7 u h_8 => ?_)
      subst h_8
      refine x_if_eq C 44 dX4_thread_33 (by decide) (fun h_9 => ?_) (fun h_9 => ?_)
      ·
        exact absurd ((bI_eq0 h_9).symm.trans rfl) (by decide)
      ·
        exact x_throw0 C hK hNW hl0 hlk htab hQ hH0 hAA hZ (cls := "java/lang/IllegalStateException") (names := ["java/lang/RuntimeException", "java/lang/Exception"]) (ik := 59) (ic := 61) (S := Unit) (by decide +kernel) (by decide +kernel) (by decide +kernel) (by decide +kernel) (by decide +kernel) (by decide +kernel) (by decide +kernel) dX4_thread_36 dX4_thread_39 dX4_thread_40 dX4_thread_43 (by decide) (by decide) (by decide) (by decide) rfl [0, 1, 2, 3] (by decide) rfl (by decide) (by decide)
    ·
      exact absurd ((bI_eq0 h_6).symm.trans h2) (by decide)
abbrev rm_tread : Room := { frames := 2, cells := 0, slots := 0, locals := 42 }
set_option maxRecDepth 100000 in
set_option maxHeartbeats 4000000 in
theorem c_tread (l : Launch) (D : va_G) (tys : List (ClassId × FieldType)) (cI cJ : ClassId) (hI : tys[0]? = some (cI, .int)) (hJ : tys[1]? = some (cJ, .long)) (x : Nat) (qw : Nat) (qv : Nat) (qt : Nat) (ri : Int32) (qd : Nat) (qc : Nat) (ql : Nat) (pa : Nat) (po : Nat) (np : Nat) (bp : Nat → Int32) (cp : Nat → Int32) (tr : Nat) (cl : Nat) (hnp : np < 40) (htr : tr < 1024) (hcl : cl < 8) : MI l yX4_tread wsX4_tread rm_tread D tys [.ref x, .int (nI tr), .int (nI cl)] [(x, OB 4 [.ref qw, .ref qv, .ref qt, .int ri, .ref qd, .ref qc, .ref ql]), (qv, OB 3 [.ref pa, .ref po, .int (nI np)]), (pa, AI cI 40 bp), (po, AI cI 40 cp)] Unit (fun r (_ : Unit) => r = nI np) (fun (_ : Unit) => [(x, OB 4 [.ref qw, .ref qv, .ref qt, .int ri, .ref qd, .ref qc, .ref ql]), (qv, OB 3 [.ref pa, .ref po, .int (nI (np + 1))]), (pa, AI cI 40 (upd bp np (nI tr))), (po, AI cI 40 (upd cp np (nI cl)))]) 0 0 := by
  intro sz
  refine x_met (cc := cX4_tread) (maxL := 3) (ret := (some .int)) (by decide +kernel) rfl (by show _ ≤ _; simp [lg_sl, Value.category]) [(0, .ref x), (1, .int (nI tr)), (2, .int (nI cl))] rfl ?_
  intro p e s m args below meth c Q A H0 C hK hNW hlk hrt hnm hQ hH0 hAA hA
  refine x_iload_n C dX4_tread_0 rfl 1 rfl ?_
  refine x_bipush C (nI 10) dX4_tread_1 (by decide +kernel) ?_
  refine x_calli (x_runS C hK hNW (c_isSetOf l D tys cI cJ hI hJ (nI tr) 10 (by exact Or.inr rfl)) (va_cwS 2 C.2.2.2.2 gX4_tread_X4_isSetOf rfl rfl rfl (by decide +kernel) ⟨by decide, by decide⟩) [] rfl (by decide) (st := []) rfl rfl (Nat.le_of_ble_eq_true rfl) dX4_tread_3 ⟨by first | decide | omega, by first | decide | omega⟩) hA [] rfl [0, 1, 2, 3] [(x, OB 4 [.ref qw, .ref qv, .ref qt, .int ri, .ref qd, .ref qc, .ref ql]), (qv, OB 3 [.ref pa, .ref po, .int (nI np)]), (pa, AI cI 40 bp), (po, AI cI 40 cp)] rfl (by decide) (by decide) [0, 1, 2, 3] (by decide) (wf := (fun (u : Unit) => [(x, OB 4 [.ref qw, .ref qv, .ref qt, .int ri, .ref qd, .ref qc, .ref ql]), (qv, OB 3 [.ref pa, .ref po, .int (nI np)]), (pa, AI cI 40 bp), (po, AI cI 40 cp)])) (fun _ => rfl) (fun r_1 u h_2 => ?_)
  subst h_2
  refine x_if_eq C 18 dX4_tread_6 (by decide) (fun h_3 => ?_) (fun h_3 => ?_)
  ·
    exact absurd ((bI_eq0 h_3).symm.trans ((below_n (j := tr) (b := 2 ^ 10) (by omega)).trans (decide_eq_true (by omega)))) (by decide)
  ·
    refine x_iload_n C dX4_tread_9 rfl 2 rfl ?_
    refine x_bipush C (nI 8) dX4_tread_10 (by decide +kernel) ?_
    refine x_calli (x_runS C hK hNW (c_isBelow l D tys cI cJ hI hJ (nI cl) 8 (by first | omega | assumption)) (va_cwS 2 C.2.2.2.2 gX4_tread_X4_isBelow rfl rfl rfl (by decide +kernel) ⟨by decide, by decide⟩) [] rfl (by decide) (st := []) rfl rfl (Nat.le_of_ble_eq_true rfl) dX4_tread_12 ⟨by first | decide | omega, by first | decide | omega⟩) hA [] rfl [0, 1, 2, 3] [(x, OB 4 [.ref qw, .ref qv, .ref qt, .int ri, .ref qd, .ref qc, .ref ql]), (qv, OB 3 [.ref pa, .ref po, .int (nI np)]), (pa, AI cI 40 bp), (po, AI cI 40 cp)] rfl (by decide) (by decide) [0, 1, 2, 3] (by decide) (wf := (fun (u : Unit) => [(x, OB 4 [.ref qw, .ref qv, .ref qt, .int ri, .ref qd, .ref qc, .ref ql]), (qv, OB 3 [.ref pa, .ref po, .int (nI np)]), (pa, AI cI 40 bp), (po, AI cI 40 cp)])) (fun _ => rfl) (fun r_4 u h_5 => ?_)
    subst h_5
    refine x_if_ne C 26 dX4_tread_15 (by decide) (fun h_6 => ?_) (fun h_6 => ?_)
    ·
      refine x_aload_n C dX4_tread_26 rfl 0 rfl ?_
      refine x_get C hK in_X4_tread_X4 0 rfl rfl 1 (by decide) (by decide +kernel) rfl rfl dX4_tread_27 ?_
      refine x_calli (x_runVN C hK hNW (c_tr_isFull l D tys cI cJ hI hJ qv pa po np bp cp (by first | omega | assumption)) ⟨va_cnB 0 C.2.2.2.2 gX4_tread_X3_isFull_n55 rfl rfl rfl (hNW.at 19 rfl) (C.2.2.2.2 (.initialized RX3) (by decide +kernel)) (by decide +kernel) ⟨by decide, by decide⟩, C.2.2.2.2 (.instanceMethod yX3_isFull) (by decide +kernel), C.2.2.2.2 (.selects RX3 yX3_isFull yX3_isFull) (by decide +kernel)⟩ [1, 2, 3] rfl (by decide) 1 3 rfl rfl rfl (st := []) rfl rfl (Nat.le_of_ble_eq_true rfl) dX4_tread_30 ⟨by first | decide | omega, by first | decide | omega⟩) hA [1, 2, 3] rfl [0] [(x, OB 4 [.ref qw, .ref qv, .ref qt, .int ri, .ref qd, .ref qc, .ref ql])] rfl (by decide) (by decide) [0, 1, 2, 3] (by decide) (wf := (fun (u : Unit) => [(x, OB 4 [.ref qw, .ref qv, .ref qt, .int ri, .ref qd, .ref qc, .ref ql]), (qv, OB 3 [.ref pa, .ref po, .int (nI np)]), (pa, AI cI 40 bp), (po, AI cI 40 cp)])) (fun _ => rfl) (fun r_7 u h_8 => ?_)
      subst h_8
      refine x_if_eq C 44 dX4_tread_33 (by decide) (fun h_9 => ?_) (fun h_9 => ?_)
      ·
        refine x_aload_n C dX4_tread_44 rfl 0 rfl ?_
        refine x_get C hK in_X4_tread_X4 0 rfl rfl 1 (by decide) (by decide +kernel) rfl rfl dX4_tread_45 ?_
        refine x_iload_n C dX4_tread_48 rfl 1 rfl ?_
        refine x_iload_n C dX4_tread_49 rfl 2 rfl ?_
        refine x_calli (x_runVN C hK hNW (c_tr_add l D tys cI cJ hI hJ qv pa po np bp cp (nI tr) (nI cl) (by first | omega | assumption)) ⟨va_cnB 2 C.2.2.2.2 gX4_tread_X3_add_n62 rfl rfl rfl (hNW.at 20 rfl) (C.2.2.2.2 (.initialized RX3) (by decide +kernel)) (by decide +kernel) ⟨by decide, by decide⟩, C.2.2.2.2 (.instanceMethod yX3_add) (by decide +kernel), C.2.2.2.2 (.selects RX3 yX3_add yX3_add) (by decide +kernel)⟩ [1, 2, 3] rfl (by decide) 1 3 rfl rfl rfl (st := []) rfl rfl (Nat.le_of_ble_eq_true rfl) dX4_tread_50 ⟨by first | decide | omega, by first | decide | omega⟩) hA [1, 2, 3] rfl [0] [(x, OB 4 [.ref qw, .ref qv, .ref qt, .int ri, .ref qd, .ref qc, .ref ql])] rfl (by decide) (by decide) [0, 1, 2, 3] (by decide) (wf := (fun (u : Unit) => [(x, OB 4 [.ref qw, .ref qv, .ref qt, .int ri, .ref qd, .ref qc, .ref ql]), (qv, OB 3 [.ref pa, .ref po, .int (nI (np + 1))]), (pa, AI cI 40 (upd bp np (nI tr))), (po, AI cI 40 (upd cp np (nI cl)))])) (fun _ => rfl) (fun r_10 u h_11 => ?_)
        subst h_11
        refine x_iret C hK hlk hrt hQ hH0 hAA () ?_ [0, 1, 2, 3] (by decide) rfl (by first | decide | omega) (by first | decide | omega) dX4_tread_53
        first | rfl | (exact ⟨rfl, rfl⟩) | trivial | assumption | omega
      ·
        exact absurd ((bI_ne0 h_9).symm.trans (decide_eq_false (by omega))) (by decide)
    ·
      exact absurd ((bI_eq0 h_6).symm.trans ((below_n (j := cl) (b := 8) (by omega)).trans (decide_eq_true (by omega)))) (by decide)
abbrev rm_treadX1 : Room := { frames := 6, cells := 1, slots := 6, locals := 81 }
set_option maxRecDepth 100000 in
set_option maxHeartbeats 4000000 in
theorem c_treadX1 (l : Launch) (hl0 : l.stackTraces = false) (D : va_G) (tys : List (ClassId × FieldType)) (cI cJ : ClassId) (hI : tys[0]? = some (cI, .int)) (hJ : tys[1]? = some (cJ, .long)) (x : Nat) (qw : Nat) (qv : Nat) (qt : Nat) (ri : Int32) (qd : Nat) (qc : Nat) (ql : Nat) (tr : Int32) (cl : Int32) (hx : ¬ (below tr (2 ^ 10) = true ∧ below cl 8 = true)) : XI l yX4_tread wsX4_tread rm_treadX1 D tys [.ref x, .int tr, .int cl] [(x, OB 4 [.ref qw, .ref qv, .ref qt, .int ri, .ref qd, .ref qc, .ref ql])] Unit (fun _ _ => False) (fun _ => [(x, OB 4 [.ref qw, .ref qv, .ref qt, .int ri, .ref qd, .ref qc, .ref ql])]) [(x, OB 4 [.ref qw, .ref qv, .ref qt, .int ri, .ref qd, .ref qc, .ref ql])] (fun E => E = "java/lang/IllegalArgumentException") 1 6 := by
  intro sz
  refine x_metX (cc := cX4_tread) (maxL := 3) (ret := (some .int)) (by decide +kernel) rfl (by show _ ≤ _; simp [lg_sl, Value.category]) [(0, .ref x), (1, .int tr), (2, .int cl)] rfl ?_
  intro p e s m args below meth c Q A H0 C hK hNW hlk hrt hnm hQ hH0 hAA hA hZ htab
  refine x_iload_n C dX4_tread_0 rfl 1 rfl ?_
  refine x_bipush C (nI 10) dX4_tread_1 (by decide +kernel) ?_
  refine x_calli (x_runS C hK hNW (c_isSetOf l D tys cI cJ hI hJ tr 10 (by exact Or.inr rfl)) (va_cwS 2 C.2.2.2.2 gX4_tread_X4_isSetOf rfl rfl rfl (by decide +kernel) ⟨by decide, by decide⟩) [] rfl (by decide) (st := []) rfl rfl (Nat.le_of_ble_eq_true rfl) dX4_tread_3 ⟨by first | decide | omega, by first | decide | omega⟩) hA [] rfl [0] [(x, OB 4 [.ref qw, .ref qv, .ref qt, .int ri, .ref qd, .ref qc, .ref ql])] rfl (by decide) (by decide) [0] (by decide) (wf := (fun (u : Unit) => [(x, OB 4 [.ref qw, .ref qv, .ref qt, .int ri, .ref qd, .ref qc, .ref ql])])) (fun _ => rfl) (fun r_1 u h_2 => ?_)
  subst h_2
  refine x_if_eq C 18 dX4_tread_6 (by decide) (fun h_3 => ?_) (fun h_3 => ?_)
  ·
    exact x_throw0 C hK hNW hl0 hlk htab hQ hH0 hAA hZ (cls := "java/lang/IllegalArgumentException") (names := ["java/lang/RuntimeException", "java/lang/Exception"]) (ik := 52) (ic := 54) (S := Unit) (by decide +kernel) (by decide +kernel) (by decide +kernel) (by decide +kernel) (by decide +kernel) (by decide +kernel) (by decide +kernel) dX4_tread_18 dX4_tread_21 dX4_tread_22 dX4_tread_25 (by decide) (by decide) (by decide) (by decide) rfl [0] (by decide) rfl (by decide) (by decide)
  ·
    refine x_iload_n C dX4_tread_9 rfl 2 rfl ?_
    refine x_bipush C (nI 8) dX4_tread_10 (by decide +kernel) ?_
    refine x_calli (x_runS C hK hNW (c_isBelow l D tys cI cJ hI hJ cl 8 (by first | omega | assumption)) (va_cwS 2 C.2.2.2.2 gX4_tread_X4_isBelow rfl rfl rfl (by decide +kernel) ⟨by decide, by decide⟩) [] rfl (by decide) (st := []) rfl rfl (Nat.le_of_ble_eq_true rfl) dX4_tread_12 ⟨by first | decide | omega, by first | decide | omega⟩) hA [] rfl [0] [(x, OB 4 [.ref qw, .ref qv, .ref qt, .int ri, .ref qd, .ref qc, .ref ql])] rfl (by decide) (by decide) [0] (by decide) (wf := (fun (u : Unit) => [(x, OB 4 [.ref qw, .ref qv, .ref qt, .int ri, .ref qd, .ref qc, .ref ql])])) (fun _ => rfl) (fun r_4 u h_5 => ?_)
    subst h_5
    refine x_if_ne C 26 dX4_tread_15 (by decide) (fun h_6 => ?_) (fun h_6 => ?_)
    ·
      exact absurd ⟨bI_ne0 (by assumption), bI_ne0 h_6⟩ hx
    ·
      exact x_throw0 C hK hNW hl0 hlk htab hQ hH0 hAA hZ (cls := "java/lang/IllegalArgumentException") (names := ["java/lang/RuntimeException", "java/lang/Exception"]) (ik := 52) (ic := 54) (S := Unit) (by decide +kernel) (by decide +kernel) (by decide +kernel) (by decide +kernel) (by decide +kernel) (by decide +kernel) (by decide +kernel) dX4_tread_18 dX4_tread_21 dX4_tread_22 dX4_tread_25 (by decide) (by decide) (by decide) (by decide) rfl [0] (by decide) rfl (by decide) (by decide)
abbrev rm_treadX2 : Room := { frames := 6, cells := 1, slots := 6, locals := 81 }
set_option maxRecDepth 100000 in
set_option maxHeartbeats 4000000 in
theorem c_treadX2 (l : Launch) (hl0 : l.stackTraces = false) (D : va_G) (tys : List (ClassId × FieldType)) (cI cJ : ClassId) (hI : tys[0]? = some (cI, .int)) (hJ : tys[1]? = some (cJ, .long)) (x : Nat) (qw : Nat) (qv : Nat) (qt : Nat) (ri : Int32) (qd : Nat) (qc : Nat) (ql : Nat) (pa : Nat) (po : Nat) (bp : Nat → Int32) (cp : Nat → Int32) (tr : Int32) (cl : Int32) (h1 : below tr (2 ^ 10) = true) (h2 : below cl 8 = true) : XI l yX4_tread wsX4_tread rm_treadX2 D tys [.ref x, .int tr, .int cl] [(x, OB 4 [.ref qw, .ref qv, .ref qt, .int ri, .ref qd, .ref qc, .ref ql]), (qv, OB 3 [.ref pa, .ref po, .int (nI 40)]), (pa, AI cI 40 bp), (po, AI cI 40 cp)] Unit (fun _ _ => False) (fun _ => [(x, OB 4 [.ref qw, .ref qv, .ref qt, .int ri, .ref qd, .ref qc, .ref ql]), (qv, OB 3 [.ref pa, .ref po, .int (nI 40)]), (pa, AI cI 40 bp), (po, AI cI 40 cp)]) [(x, OB 4 [.ref qw, .ref qv, .ref qt, .int ri, .ref qd, .ref qc, .ref ql]), (qv, OB 3 [.ref pa, .ref po, .int (nI 40)]), (pa, AI cI 40 bp), (po, AI cI 40 cp)] (fun E => E = "java/lang/IllegalStateException") 1 6 := by
  intro sz
  refine x_metX (cc := cX4_tread) (maxL := 3) (ret := (some .int)) (by decide +kernel) rfl (by show _ ≤ _; simp [lg_sl, Value.category]) [(0, .ref x), (1, .int tr), (2, .int cl)] rfl ?_
  intro p e s m args below meth c Q A H0 C hK hNW hlk hrt hnm hQ hH0 hAA hA hZ htab
  refine x_iload_n C dX4_tread_0 rfl 1 rfl ?_
  refine x_bipush C (nI 10) dX4_tread_1 (by decide +kernel) ?_
  refine x_calli (x_runS C hK hNW (c_isSetOf l D tys cI cJ hI hJ tr 10 (by exact Or.inr rfl)) (va_cwS 2 C.2.2.2.2 gX4_tread_X4_isSetOf rfl rfl rfl (by decide +kernel) ⟨by decide, by decide⟩) [] rfl (by decide) (st := []) rfl rfl (Nat.le_of_ble_eq_true rfl) dX4_tread_3 ⟨by first | decide | omega, by first | decide | omega⟩) hA [] rfl [0, 1, 2, 3] [(x, OB 4 [.ref qw, .ref qv, .ref qt, .int ri, .ref qd, .ref qc, .ref ql]), (qv, OB 3 [.ref pa, .ref po, .int (nI 40)]), (pa, AI cI 40 bp), (po, AI cI 40 cp)] rfl (by decide) (by decide) [0, 1, 2, 3] (by decide) (wf := (fun (u : Unit) => [(x, OB 4 [.ref qw, .ref qv, .ref qt, .int ri, .ref qd, .ref qc, .ref ql]), (qv, OB 3 [.ref pa, .ref po, .int (nI 40)]), (pa, AI cI 40 bp), (po, AI cI 40 cp)])) (fun _ => rfl) (fun r_1 u h_2 => ?_)
  subst h_2
  refine x_if_eq C 18 dX4_tread_6 (by decide) (fun h_3 => ?_) (fun h_3 => ?_)
  ·
    exact absurd ((bI_eq0 h_3).symm.trans h1) (by decide)
  ·
    refine x_iload_n C dX4_tread_9 rfl 2 rfl ?_
    refine x_bipush C (nI 8) dX4_tread_10 (by decide +kernel) ?_
    refine x_calli (x_runS C hK hNW (c_isBelow l D tys cI cJ hI hJ cl 8 (by first | omega | assumption)) (va_cwS 2 C.2.2.2.2 gX4_tread_X4_isBelow rfl rfl rfl (by decide +kernel) ⟨by decide, by decide⟩) [] rfl (by decide) (st := []) rfl rfl (Nat.le_of_ble_eq_true rfl) dX4_tread_12 ⟨by first | decide | omega, by first | decide | omega⟩) hA [] rfl [0, 1, 2, 3] [(x, OB 4 [.ref qw, .ref qv, .ref qt, .int ri, .ref qd, .ref qc, .ref ql]), (qv, OB 3 [.ref pa, .ref po, .int (nI 40)]), (pa, AI cI 40 bp), (po, AI cI 40 cp)] rfl (by decide) (by decide) [0, 1, 2, 3] (by decide) (wf := (fun (u : Unit) => [(x, OB 4 [.ref qw, .ref qv, .ref qt, .int ri, .ref qd, .ref qc, .ref ql]), (qv, OB 3 [.ref pa, .ref po, .int (nI 40)]), (pa, AI cI 40 bp), (po, AI cI 40 cp)])) (fun _ => rfl) (fun r_4 u h_5 => ?_)
    subst h_5
    refine x_if_ne C 26 dX4_tread_15 (by decide) (fun h_6 => ?_) (fun h_6 => ?_)
    ·
      refine x_aload_n C dX4_tread_26 rfl 0 rfl ?_
      refine x_get C hK in_X4_tread_X4 0 rfl rfl 1 (by decide) (by decide +kernel) rfl rfl dX4_tread_27 ?_
      refine x_calli (x_runVN C hK hNW (c_tr_isFull l D tys cI cJ hI hJ qv pa po 40 bp cp (by first | omega | assumption)) ⟨va_cnB 0 C.2.2.2.2 gX4_tread_X3_isFull_n55 rfl rfl rfl (hNW.at 19 rfl) (C.2.2.2.2 (.initialized RX3) (by decide +kernel)) (by decide +kernel) ⟨by decide, by decide⟩, C.2.2.2.2 (.instanceMethod yX3_isFull) (by decide +kernel), C.2.2.2.2 (.selects RX3 yX3_isFull yX3_isFull) (by decide +kernel)⟩ [1, 2, 3] rfl (by decide) 1 3 rfl rfl rfl (st := []) rfl rfl (Nat.le_of_ble_eq_true rfl) dX4_tread_30 ⟨by first | decide | omega, by first | decide | omega⟩) hA [1, 2, 3] rfl [0] [(x, OB 4 [.ref qw, .ref qv, .ref qt, .int ri, .ref qd, .ref qc, .ref ql])] rfl (by decide) (by decide) [0, 1, 2, 3] (by decide) (wf := (fun (u : Unit) => [(x, OB 4 [.ref qw, .ref qv, .ref qt, .int ri, .ref qd, .ref qc, .ref ql]), (qv, OB 3 [.ref pa, .ref po, .int (nI 40)]), (pa, AI cI 40 bp), (po, AI cI 40 cp)])) (fun _ => rfl) (fun r_7 u h_8 => ?_)
      subst h_8
      refine x_if_eq C 44 dX4_tread_33 (by decide) (fun h_9 => ?_) (fun h_9 => ?_)
      ·
        exact absurd ((bI_eq0 h_9).symm.trans rfl) (by decide)
      ·
        exact x_throw0 C hK hNW hl0 hlk htab hQ hH0 hAA hZ (cls := "java/lang/IllegalStateException") (names := ["java/lang/RuntimeException", "java/lang/Exception"]) (ik := 59) (ic := 61) (S := Unit) (by decide +kernel) (by decide +kernel) (by decide +kernel) (by decide +kernel) (by decide +kernel) (by decide +kernel) (by decide +kernel) dX4_tread_36 dX4_tread_39 dX4_tread_40 dX4_tread_43 (by decide) (by decide) (by decide) (by decide) rfl [0, 1, 2, 3] (by decide) rfl (by decide) (by decide)
    ·
      exact absurd ((bI_eq0 h_6).symm.trans h2) (by decide)
abbrev rm_tie : Room := { frames := 2, cells := 0, slots := 0, locals := 42 }
set_option maxRecDepth 100000 in
set_option maxHeartbeats 4000000 in
theorem c_tie (l : Launch) (D : va_G) (tys : List (ClassId × FieldType)) (cI cJ : ClassId) (hI : tys[0]? = some (cI, .int)) (hJ : tys[1]? = some (cJ, .long)) (x : Nat) (qw : Nat) (qv : Nat) (qt : Nat) (ri : Int32) (qd : Nat) (qc : Nat) (ql : Nat) (ti : Nat → Int32) (tr : Nat) (sh : Nat) (htr : tr < 10) (hsh : sh < 256) : MI l yX4_tie wsX4_tie rm_tie D tys [.ref x, .int (nI tr), .int (nI sh)] [(x, OB 4 [.ref qw, .ref qv, .ref qt, .int ri, .ref qd, .ref qc, .ref ql]), (qt, AI cI 10 ti)] Unit (fun r (_ : Unit) => r = ti tr) (fun (_ : Unit) => [(x, OB 4 [.ref qw, .ref qv, .ref qt, .int ri, .ref qd, .ref qc, .ref ql]), (qt, AI cI 10 (upd ti tr (nI sh)))]) 0 0 := by
  intro sz
  refine x_met (cc := cX4_tie) (maxL := 4) (ret := (some .int)) (by decide +kernel) rfl (by show _ ≤ _; simp [lg_sl, Value.category]) [(0, .ref x), (1, .int (nI tr)), (2, .int (nI sh))] rfl ?_
  intro p e s m args below meth c Q A H0 C hK hNW hlk hrt hnm hQ hH0 hAA hA
  refine x_iload_n C dX4_tie_0 rfl 1 rfl ?_
  refine x_bipush C (nI 10) dX4_tie_1 (by decide +kernel) ?_
  refine x_calli (x_runS C hK hNW (c_isBelow l D tys cI cJ hI hJ (nI tr) 10 (by first | omega | assumption)) (va_cwS 2 C.2.2.2.2 gX4_tie_X4_isBelow rfl rfl rfl (by decide +kernel) ⟨by decide, by decide⟩) [] rfl (by decide) (st := []) rfl rfl (Nat.le_of_ble_eq_true rfl) dX4_tie_3 ⟨by first | decide | omega, by first | decide | omega⟩) hA [] rfl [0, 1] [(x, OB 4 [.ref qw, .ref qv, .ref qt, .int ri, .ref qd, .ref qc, .ref ql]), (qt, AI cI 10 ti)] rfl (by decide) (by decide) [0, 1] (by decide) (wf := (fun (u : Unit) => [(x, OB 4 [.ref qw, .ref qv, .ref qt, .int ri, .ref qd, .ref qc, .ref ql]), (qt, AI cI 10 ti)])) (fun _ => rfl) (fun r_1 u h_2 => ?_)
  subst h_2
  refine x_if_ne C 17 dX4_tie_6 (by decide) (fun h_3 => ?_) (fun h_3 => ?_)
  ·
    refine x_iload_n C dX4_tie_17 rfl 2 rfl ?_
    refine x_bipush C (nI 8) dX4_tie_18 (by decide +kernel) ?_
    refine x_calli (x_runS C hK hNW (c_isSetOf l D tys cI cJ hI hJ (nI sh) 8 (by exact Or.inl rfl)) (va_cwS 2 C.2.2.2.2 gX4_tie_X4_isSetOf rfl rfl rfl (by decide +kernel) ⟨by decide, by decide⟩) [] rfl (by decide) (st := []) rfl rfl (Nat.le_of_ble_eq_true rfl) dX4_tie_20 ⟨by first | decide | omega, by first | decide | omega⟩) hA [] rfl [0, 1] [(x, OB 4 [.ref qw, .ref qv, .ref qt, .int ri, .ref qd, .ref qc, .ref ql]), (qt, AI cI 10 ti)] rfl (by decide) (by decide) [0, 1] (by decide) (wf := (fun (u : Unit) => [(x, OB 4 [.ref qw, .ref qv, .ref qt, .int ri, .ref qd, .ref qc, .ref ql]), (qt, AI cI 10 ti)])) (fun _ => rfl) (fun r_4 u h_5 => ?_)
    subst h_5
    refine x_if_ne C 34 dX4_tie_23 (by decide) (fun h_6 => ?_) (fun h_6 => ?_)
    ·
      refine x_aload_n C dX4_tie_34 rfl 0 rfl ?_
      refine x_get C hK in_X4_tie_X4 0 rfl rfl 2 (by decide) (by decide +kernel) rfl rfl dX4_tie_35 ?_
      refine x_iload_n C dX4_tie_38 rfl 1 rfl ?_
      refine x_iald C hK 1 0 rfl hI (by omega) (by omega) dX4_tie_39 ?_
      refine x_istore_n C [(3, .int (ti tr)), (0, .ref x), (1, .int (nI tr)), (2, .int (nI sh))] dX4_tie_40 rfl (by decide) rfl ?_
      refine x_aload_n C dX4_tie_41 rfl 1 rfl ?_
      refine x_get C hK in_X4_tie_X4 0 rfl rfl 2 (by decide) (by decide +kernel) rfl rfl dX4_tie_42 ?_
      refine x_iload_n C dX4_tie_45 rfl 2 rfl ?_
      refine x_iload_n C dX4_tie_46 rfl 3 rfl ?_
      refine x_iast C hK 1 0 rfl hI (by omega) (by omega) [(x, OB 4 [.ref qw, .ref qv, .ref qt, .int ri, .ref qd, .ref qc, .ref ql]), (qt, AI cI 10 (upd ti tr (nI sh)))] rfl dX4_tie_47 ?_
      refine x_iload_n C dX4_tie_48 rfl 0 rfl ?_
      refine x_iret C hK hlk hrt hQ hH0 hAA () ?_ [0, 1] (by decide) rfl (by first | decide | omega) (by first | decide | omega) dX4_tie_49
      first | rfl | (exact ⟨rfl, rfl⟩) | trivial | assumption | omega
    ·
      exact absurd ((bI_eq0 h_6).symm.trans ((below_n (j := sh) (b := 2 ^ 8) (by omega)).trans (decide_eq_true (by omega)))) (by decide)
  ·
    exact absurd ((bI_eq0 h_3).symm.trans ((below_n (j := tr) (b := 10) (by omega)).trans (decide_eq_true (by omega)))) (by decide)
abbrev rm_tieX1 : Room := { frames := 6, cells := 1, slots := 6, locals := 81 }
set_option maxRecDepth 100000 in
set_option maxHeartbeats 4000000 in
theorem c_tieX1 (l : Launch) (hl0 : l.stackTraces = false) (D : va_G) (tys : List (ClassId × FieldType)) (cI cJ : ClassId) (hI : tys[0]? = some (cI, .int)) (hJ : tys[1]? = some (cJ, .long)) (x : Nat) (qw : Nat) (qv : Nat) (qt : Nat) (ri : Int32) (qd : Nat) (qc : Nat) (ql : Nat) (tr : Int32) (sh : Int32) (hx : below tr 10 = false) : XI l yX4_tie wsX4_tie rm_tieX1 D tys [.ref x, .int tr, .int sh] [(x, OB 4 [.ref qw, .ref qv, .ref qt, .int ri, .ref qd, .ref qc, .ref ql])] Unit (fun _ _ => False) (fun _ => [(x, OB 4 [.ref qw, .ref qv, .ref qt, .int ri, .ref qd, .ref qc, .ref ql])]) [(x, OB 4 [.ref qw, .ref qv, .ref qt, .int ri, .ref qd, .ref qc, .ref ql])] (fun E => E = "java/lang/IndexOutOfBoundsException") 1 6 := by
  intro sz
  refine x_metX (cc := cX4_tie) (maxL := 4) (ret := (some .int)) (by decide +kernel) rfl (by show _ ≤ _; simp [lg_sl, Value.category]) [(0, .ref x), (1, .int tr), (2, .int sh)] rfl ?_
  intro p e s m args below meth c Q A H0 C hK hNW hlk hrt hnm hQ hH0 hAA hA hZ htab
  refine x_iload_n C dX4_tie_0 rfl 1 rfl ?_
  refine x_bipush C (nI 10) dX4_tie_1 (by decide +kernel) ?_
  refine x_calli (x_runS C hK hNW (c_isBelow l D tys cI cJ hI hJ tr 10 (by first | omega | assumption)) (va_cwS 2 C.2.2.2.2 gX4_tie_X4_isBelow rfl rfl rfl (by decide +kernel) ⟨by decide, by decide⟩) [] rfl (by decide) (st := []) rfl rfl (Nat.le_of_ble_eq_true rfl) dX4_tie_3 ⟨by first | decide | omega, by first | decide | omega⟩) hA [] rfl [0] [(x, OB 4 [.ref qw, .ref qv, .ref qt, .int ri, .ref qd, .ref qc, .ref ql])] rfl (by decide) (by decide) [0] (by decide) (wf := (fun (u : Unit) => [(x, OB 4 [.ref qw, .ref qv, .ref qt, .int ri, .ref qd, .ref qc, .ref ql])])) (fun _ => rfl) (fun r_1 u h_2 => ?_)
  subst h_2
  refine x_if_ne C 17 dX4_tie_6 (by decide) (fun h_3 => ?_) (fun h_3 => ?_)
  ·
    exact absurd ((bI_ne0 h_3).symm.trans hx) (by decide)
  ·
    exact x_throw0 C hK hNW hl0 hlk htab hQ hH0 hAA hZ (cls := "java/lang/IndexOutOfBoundsException") (names := ["java/lang/RuntimeException", "java/lang/Exception"]) (ik := 69) (ic := 71) (S := Unit) (by decide +kernel) (by decide +kernel) (by decide +kernel) (by decide +kernel) (by decide +kernel) (by decide +kernel) (by decide +kernel) dX4_tie_9 dX4_tie_12 dX4_tie_13 dX4_tie_16 (by decide) (by decide) (by decide) (by decide) rfl [0] (by decide) rfl (by decide) (by decide)
abbrev rm_tieX2 : Room := { frames := 6, cells := 1, slots := 6, locals := 81 }
set_option maxRecDepth 100000 in
set_option maxHeartbeats 4000000 in
theorem c_tieX2 (l : Launch) (hl0 : l.stackTraces = false) (D : va_G) (tys : List (ClassId × FieldType)) (cI cJ : ClassId) (hI : tys[0]? = some (cI, .int)) (hJ : tys[1]? = some (cJ, .long)) (x : Nat) (qw : Nat) (qv : Nat) (qt : Nat) (ri : Int32) (qd : Nat) (qc : Nat) (ql : Nat) (tr : Int32) (sh : Int32) (h1 : below tr 10 = true) (hx : below sh (2 ^ 8) = false) : XI l yX4_tie wsX4_tie rm_tieX2 D tys [.ref x, .int tr, .int sh] [(x, OB 4 [.ref qw, .ref qv, .ref qt, .int ri, .ref qd, .ref qc, .ref ql])] Unit (fun _ _ => False) (fun _ => [(x, OB 4 [.ref qw, .ref qv, .ref qt, .int ri, .ref qd, .ref qc, .ref ql])]) [(x, OB 4 [.ref qw, .ref qv, .ref qt, .int ri, .ref qd, .ref qc, .ref ql])] (fun E => E = "java/lang/IllegalArgumentException") 1 6 := by
  intro sz
  refine x_metX (cc := cX4_tie) (maxL := 4) (ret := (some .int)) (by decide +kernel) rfl (by show _ ≤ _; simp [lg_sl, Value.category]) [(0, .ref x), (1, .int tr), (2, .int sh)] rfl ?_
  intro p e s m args below meth c Q A H0 C hK hNW hlk hrt hnm hQ hH0 hAA hA hZ htab
  refine x_iload_n C dX4_tie_0 rfl 1 rfl ?_
  refine x_bipush C (nI 10) dX4_tie_1 (by decide +kernel) ?_
  refine x_calli (x_runS C hK hNW (c_isBelow l D tys cI cJ hI hJ tr 10 (by first | omega | assumption)) (va_cwS 2 C.2.2.2.2 gX4_tie_X4_isBelow rfl rfl rfl (by decide +kernel) ⟨by decide, by decide⟩) [] rfl (by decide) (st := []) rfl rfl (Nat.le_of_ble_eq_true rfl) dX4_tie_3 ⟨by first | decide | omega, by first | decide | omega⟩) hA [] rfl [0] [(x, OB 4 [.ref qw, .ref qv, .ref qt, .int ri, .ref qd, .ref qc, .ref ql])] rfl (by decide) (by decide) [0] (by decide) (wf := (fun (u : Unit) => [(x, OB 4 [.ref qw, .ref qv, .ref qt, .int ri, .ref qd, .ref qc, .ref ql])])) (fun _ => rfl) (fun r_1 u h_2 => ?_)
  subst h_2
  refine x_if_ne C 17 dX4_tie_6 (by decide) (fun h_3 => ?_) (fun h_3 => ?_)
  ·
    refine x_iload_n C dX4_tie_17 rfl 2 rfl ?_
    refine x_bipush C (nI 8) dX4_tie_18 (by decide +kernel) ?_
    refine x_calli (x_runS C hK hNW (c_isSetOf l D tys cI cJ hI hJ sh 8 (by exact Or.inl rfl)) (va_cwS 2 C.2.2.2.2 gX4_tie_X4_isSetOf rfl rfl rfl (by decide +kernel) ⟨by decide, by decide⟩) [] rfl (by decide) (st := []) rfl rfl (Nat.le_of_ble_eq_true rfl) dX4_tie_20 ⟨by first | decide | omega, by first | decide | omega⟩) hA [] rfl [0] [(x, OB 4 [.ref qw, .ref qv, .ref qt, .int ri, .ref qd, .ref qc, .ref ql])] rfl (by decide) (by decide) [0] (by decide) (wf := (fun (u : Unit) => [(x, OB 4 [.ref qw, .ref qv, .ref qt, .int ri, .ref qd, .ref qc, .ref ql])])) (fun _ => rfl) (fun r_4 u h_5 => ?_)
    subst h_5
    refine x_if_ne C 34 dX4_tie_23 (by decide) (fun h_6 => ?_) (fun h_6 => ?_)
    ·
      exact absurd ((bI_ne0 h_6).symm.trans hx) (by decide)
    ·
      exact x_throw0 C hK hNW hl0 hlk htab hQ hH0 hAA hZ (cls := "java/lang/IllegalArgumentException") (names := ["java/lang/RuntimeException", "java/lang/Exception"]) (ik := 52) (ic := 54) (S := Unit) (by decide +kernel) (by decide +kernel) (by decide +kernel) (by decide +kernel) (by decide +kernel) (by decide +kernel) (by decide +kernel) dX4_tie_26 dX4_tie_29 dX4_tie_30 dX4_tie_33 (by decide) (by decide) (by decide) (by decide) rfl [0] (by decide) rfl (by decide) (by decide)
  ·
    exact absurd ((bI_eq0 h_3).symm.trans h1) (by decide)
abbrev rm_endS : Room := { frames := 2, cells := 0, slots := 0, locals := 42 }
set_option maxRecDepth 100000 in
set_option maxHeartbeats 4000000 in
theorem c_endS (l : Launch) (D : va_G) (tys : List (ClassId × FieldType)) (cI cJ : ClassId) (hI : tys[0]? = some (cI, .int)) (hJ : tys[1]? = some (cJ, .long)) (x : Nat) (qw : Nat) (qv : Nat) (qt : Nat) (ri : Int32) (qd : Nat) (qc : Nat) (ql : Nat) (wa : Nat) (wo : Nat) (nw : Nat) (bw : Nat → Int32) (cw : Nat → Int32) (en : Nat) (hnw : nw ≤ 40) (hen : en < nw) : MI l yX4_end wsX4_end rm_endS D tys [.ref x, .int (nI en), .int (nI 0)] [(x, OB 4 [.ref qw, .ref qv, .ref qt, .int ri, .ref qd, .ref qc, .ref ql]), (qw, OB 3 [.ref wa, .ref wo, .int (nI nw)]), (wa, AI cI 40 bw), (wo, AI cI 40 cw)] Unit (fun r (_ : Unit) => r = bw en) (fun (_ : Unit) => [(x, OB 4 [.ref qw, .ref qv, .ref qt, .int ri, .ref qd, .ref qc, .ref ql]), (qw, OB 3 [.ref wa, .ref wo, .int (nI nw)]), (wa, AI cI 40 bw), (wo, AI cI 40 cw)]) 0 0 := by
  intro sz
  refine x_met (cc := cX4_end) (maxL := 3) (ret := (some .int)) (by decide +kernel) rfl (by show _ ≤ _; simp [lg_sl, Value.category]) [(0, .ref x), (1, .int (nI en)), (2, .int (nI 0))] rfl ?_
  intro p e s m args below meth c Q A H0 C hK hNW hlk hrt hnm hQ hH0 hAA hA
  refine x_aload_n C dX4_end_0 rfl 0 rfl ?_
  refine x_get C hK in_X4_end_X4 0 rfl rfl 0 (by decide) (by decide +kernel) rfl rfl dX4_end_1 ?_
  refine x_iload_n C dX4_end_4 rfl 1 rfl ?_
  refine x_calli (x_runVN C hK hNW (c_tr_has l D tys cI cJ hI hJ qw wa wo nw bw cw (nI en) (by first | omega | assumption)) ⟨va_cnB 1 C.2.2.2.2 gX4_end_X3_has_n80 rfl rfl rfl (hNW.at 21 rfl) (C.2.2.2.2 (.initialized RX3) (by decide +kernel)) (by decide +kernel) ⟨by decide, by decide⟩, C.2.2.2.2 (.instanceMethod yX3_has) (by decide +kernel), C.2.2.2.2 (.selects RX3 yX3_has yX3_has) (by decide +kernel)⟩ [1, 2, 3] rfl (by decide) 1 3 rfl rfl rfl (st := []) rfl rfl (Nat.le_of_ble_eq_true rfl) dX4_end_5 ⟨by first | decide | omega, by first | decide | omega⟩) hA [1, 2, 3] rfl [0] [(x, OB 4 [.ref qw, .ref qv, .ref qt, .int ri, .ref qd, .ref qc, .ref ql])] rfl (by decide) (by decide) [0, 1, 2, 3] (by decide) (wf := (fun (u : Unit) => [(x, OB 4 [.ref qw, .ref qv, .ref qt, .int ri, .ref qd, .ref qc, .ref ql]), (qw, OB 3 [.ref wa, .ref wo, .int (nI nw)]), (wa, AI cI 40 bw), (wo, AI cI 40 cw)])) (fun _ => rfl) (fun r_1 u h_2 => ?_)
  subst h_2
  refine x_if_eq C 19 dX4_end_8 (by decide) (fun h_3 => ?_) (fun h_3 => ?_)
  ·
    exact absurd ((bI_eq0 h_3).symm.trans ((below_n (j := en) (b := nw) (by omega)).trans (decide_eq_true (by omega)))) (by decide)
  ·
    refine x_iload_n C dX4_end_11 rfl 2 rfl ?_
    refine x_iconst C (nI 2) dX4_end_12 (by decide +kernel) ?_
    refine x_calli (x_runS C hK hNW (c_isBelow l D tys cI cJ hI hJ (nI 0) 2 (by first | omega | assumption)) (va_cwS 2 C.2.2.2.2 gX4_end_X4_isBelow rfl rfl rfl (by decide +kernel) ⟨by decide, by decide⟩) [] rfl (by decide) (st := []) rfl rfl (Nat.le_of_ble_eq_true rfl) dX4_end_13 ⟨by first | decide | omega, by first | decide | omega⟩) hA [] rfl [0, 1, 2, 3] [(x, OB 4 [.ref qw, .ref qv, .ref qt, .int ri, .ref qd, .ref qc, .ref ql]), (qw, OB 3 [.ref wa, .ref wo, .int (nI nw)]), (wa, AI cI 40 bw), (wo, AI cI 40 cw)] rfl (by decide) (by decide) [0, 1, 2, 3] (by decide) (wf := (fun (u : Unit) => [(x, OB 4 [.ref qw, .ref qv, .ref qt, .int ri, .ref qd, .ref qc, .ref ql]), (qw, OB 3 [.ref wa, .ref wo, .int (nI nw)]), (wa, AI cI 40 bw), (wo, AI cI 40 cw)])) (fun _ => rfl) (fun r_4 u h_5 => ?_)
    subst h_5
    refine x_if_ne C 27 dX4_end_16 (by decide) (fun h_6 => ?_) (fun h_6 => ?_)
    ·
      refine x_iload_n C dX4_end_27 rfl 2 rfl ?_
      refine xn_if_ne C 43 (by omega) dX4_end_28 (by decide) (fun h_7 => ?_) (fun h_7 => ?_)
      ·
        exact absurd h_7 (by first | decide | omega)
      ·
        refine x_aload_n C dX4_end_31 rfl 0 rfl ?_
        refine x_get C hK in_X4_end_X4 0 rfl rfl 0 (by decide) (by decide +kernel) rfl rfl dX4_end_32 ?_
        refine x_getN C hK hNW in_X4_end_X3 1 rfl rfl 0 (by decide) 29 rfl rfl rfl dX4_end_35 ?_
        refine x_iload_n C dX4_end_38 rfl 1 rfl ?_
        refine x_iald C hK 2 0 rfl hI (by omega) (by omega) dX4_end_39 ?_
        refine x_goto C 52 dX4_end_40 (by decide) ?_
        refine x_iret C hK hlk hrt hQ hH0 hAA () ?_ [0, 1, 2, 3] (by decide) rfl (by first | decide | omega) (by first | decide | omega) dX4_end_52
        first | rfl | (exact ⟨rfl, rfl⟩) | trivial | assumption | omega
    ·
      exact absurd ((bI_eq0 h_6).symm.trans ((below_n (j := 0) (b := 2) (by omega)).trans (decide_eq_true (by omega)))) (by decide)
abbrev rm_endC : Room := { frames := 2, cells := 0, slots := 0, locals := 42 }
set_option maxRecDepth 100000 in
set_option maxHeartbeats 4000000 in
theorem c_endC (l : Launch) (D : va_G) (tys : List (ClassId × FieldType)) (cI cJ : ClassId) (hI : tys[0]? = some (cI, .int)) (hJ : tys[1]? = some (cJ, .long)) (x : Nat) (qw : Nat) (qv : Nat) (qt : Nat) (ri : Int32) (qd : Nat) (qc : Nat) (ql : Nat) (wa : Nat) (wo : Nat) (nw : Nat) (bw : Nat → Int32) (cw : Nat → Int32) (en : Nat) (hnw : nw ≤ 40) (hen : en < nw) : MI l yX4_end wsX4_end rm_endC D tys [.ref x, .int (nI en), .int (nI 1)] [(x, OB 4 [.ref qw, .ref qv, .ref qt, .int ri, .ref qd, .ref qc, .ref ql]), (qw, OB 3 [.ref wa, .ref wo, .int (nI nw)]), (wa, AI cI 40 bw), (wo, AI cI 40 cw)] Unit (fun r (_ : Unit) => r = cw en) (fun (_ : Unit) => [(x, OB 4 [.ref qw, .ref qv, .ref qt, .int ri, .ref qd, .ref qc, .ref ql]), (qw, OB 3 [.ref wa, .ref wo, .int (nI nw)]), (wa, AI cI 40 bw), (wo, AI cI 40 cw)]) 0 0 := by
  intro sz
  refine x_met (cc := cX4_end) (maxL := 3) (ret := (some .int)) (by decide +kernel) rfl (by show _ ≤ _; simp [lg_sl, Value.category]) [(0, .ref x), (1, .int (nI en)), (2, .int (nI 1))] rfl ?_
  intro p e s m args below meth c Q A H0 C hK hNW hlk hrt hnm hQ hH0 hAA hA
  refine x_aload_n C dX4_end_0 rfl 0 rfl ?_
  refine x_get C hK in_X4_end_X4 0 rfl rfl 0 (by decide) (by decide +kernel) rfl rfl dX4_end_1 ?_
  refine x_iload_n C dX4_end_4 rfl 1 rfl ?_
  refine x_calli (x_runVN C hK hNW (c_tr_has l D tys cI cJ hI hJ qw wa wo nw bw cw (nI en) (by first | omega | assumption)) ⟨va_cnB 1 C.2.2.2.2 gX4_end_X3_has_n80 rfl rfl rfl (hNW.at 21 rfl) (C.2.2.2.2 (.initialized RX3) (by decide +kernel)) (by decide +kernel) ⟨by decide, by decide⟩, C.2.2.2.2 (.instanceMethod yX3_has) (by decide +kernel), C.2.2.2.2 (.selects RX3 yX3_has yX3_has) (by decide +kernel)⟩ [1, 2, 3] rfl (by decide) 1 3 rfl rfl rfl (st := []) rfl rfl (Nat.le_of_ble_eq_true rfl) dX4_end_5 ⟨by first | decide | omega, by first | decide | omega⟩) hA [1, 2, 3] rfl [0] [(x, OB 4 [.ref qw, .ref qv, .ref qt, .int ri, .ref qd, .ref qc, .ref ql])] rfl (by decide) (by decide) [0, 1, 2, 3] (by decide) (wf := (fun (u : Unit) => [(x, OB 4 [.ref qw, .ref qv, .ref qt, .int ri, .ref qd, .ref qc, .ref ql]), (qw, OB 3 [.ref wa, .ref wo, .int (nI nw)]), (wa, AI cI 40 bw), (wo, AI cI 40 cw)])) (fun _ => rfl) (fun r_1 u h_2 => ?_)
  subst h_2
  refine x_if_eq C 19 dX4_end_8 (by decide) (fun h_3 => ?_) (fun h_3 => ?_)
  ·
    exact absurd ((bI_eq0 h_3).symm.trans ((below_n (j := en) (b := nw) (by omega)).trans (decide_eq_true (by omega)))) (by decide)
  ·
    refine x_iload_n C dX4_end_11 rfl 2 rfl ?_
    refine x_iconst C (nI 2) dX4_end_12 (by decide +kernel) ?_
    refine x_calli (x_runS C hK hNW (c_isBelow l D tys cI cJ hI hJ (nI 1) 2 (by first | omega | assumption)) (va_cwS 2 C.2.2.2.2 gX4_end_X4_isBelow rfl rfl rfl (by decide +kernel) ⟨by decide, by decide⟩) [] rfl (by decide) (st := []) rfl rfl (Nat.le_of_ble_eq_true rfl) dX4_end_13 ⟨by first | decide | omega, by first | decide | omega⟩) hA [] rfl [0, 1, 2, 3] [(x, OB 4 [.ref qw, .ref qv, .ref qt, .int ri, .ref qd, .ref qc, .ref ql]), (qw, OB 3 [.ref wa, .ref wo, .int (nI nw)]), (wa, AI cI 40 bw), (wo, AI cI 40 cw)] rfl (by decide) (by decide) [0, 1, 2, 3] (by decide) (wf := (fun (u : Unit) => [(x, OB 4 [.ref qw, .ref qv, .ref qt, .int ri, .ref qd, .ref qc, .ref ql]), (qw, OB 3 [.ref wa, .ref wo, .int (nI nw)]), (wa, AI cI 40 bw), (wo, AI cI 40 cw)])) (fun _ => rfl) (fun r_4 u h_5 => ?_)
    subst h_5
    refine x_if_ne C 27 dX4_end_16 (by decide) (fun h_6 => ?_) (fun h_6 => ?_)
    ·
      refine x_iload_n C dX4_end_27 rfl 2 rfl ?_
      refine xn_if_ne C 43 (by omega) dX4_end_28 (by decide) (fun h_7 => ?_) (fun h_7 => ?_)
      ·
        refine x_aload_n C dX4_end_43 rfl 0 rfl ?_
        refine x_get C hK in_X4_end_X4 0 rfl rfl 0 (by decide) (by decide +kernel) rfl rfl dX4_end_44 ?_
        refine x_getN C hK hNW in_X4_end_X3 1 rfl rfl 1 (by decide) 30 rfl rfl rfl dX4_end_47 ?_
        refine x_iload_n C dX4_end_50 rfl 1 rfl ?_
        refine x_iald C hK 3 0 rfl hI (by omega) (by omega) dX4_end_51 ?_
        refine x_iret C hK hlk hrt hQ hH0 hAA () ?_ [0, 1, 2, 3] (by decide) rfl (by first | decide | omega) (by first | decide | omega) dX4_end_52
        first | rfl | (exact ⟨rfl, rfl⟩) | trivial | assumption | omega
      ·
        exact absurd h_7 (by first | decide | omega)
    ·
      exact absurd ((bI_eq0 h_6).symm.trans ((below_n (j := 1) (b := 2) (by omega)).trans (decide_eq_true (by omega)))) (by decide)
abbrev rm_endX : Room := { frames := 6, cells := 1, slots := 6, locals := 81 }
set_option maxRecDepth 100000 in
set_option maxHeartbeats 4000000 in
theorem c_endX (l : Launch) (hl0 : l.stackTraces = false) (D : va_G) (tys : List (ClassId × FieldType)) (cI cJ : ClassId) (hI : tys[0]? = some (cI, .int)) (hJ : tys[1]? = some (cJ, .long)) (x : Nat) (qw : Nat) (qv : Nat) (qt : Nat) (ri : Int32) (qd : Nat) (qc : Nat) (ql : Nat) (wa : Nat) (wo : Nat) (nw : Nat) (bw : Nat → Int32) (cw : Nat → Int32) (en : Int32) (wt : Int32) (hnw : nw ≤ 40) (hx : ¬ (below en nw = true ∧ below wt 2 = true)) : XI l yX4_end wsX4_end rm_endX D tys [.ref x, .int en, .int wt] [(x, OB 4 [.ref qw, .ref qv, .ref qt, .int ri, .ref qd, .ref qc, .ref ql]), (qw, OB 3 [.ref wa, .ref wo, .int (nI nw)]), (wa, AI cI 40 bw), (wo, AI cI 40 cw)] Unit (fun _ _ => False) (fun _ => [(x, OB 4 [.ref qw, .ref qv, .ref qt, .int ri, .ref qd, .ref qc, .ref ql]), (qw, OB 3 [.ref wa, .ref wo, .int (nI nw)]), (wa, AI cI 40 bw), (wo, AI cI 40 cw)]) [(x, OB 4 [.ref qw, .ref qv, .ref qt, .int ri, .ref qd, .ref qc, .ref ql]), (qw, OB 3 [.ref wa, .ref wo, .int (nI nw)]), (wa, AI cI 40 bw), (wo, AI cI 40 cw)] (fun E => E = "java/lang/IndexOutOfBoundsException") 1 6 := by
  intro sz
  refine x_metX (cc := cX4_end) (maxL := 3) (ret := (some .int)) (by decide +kernel) rfl (by show _ ≤ _; simp [lg_sl, Value.category]) [(0, .ref x), (1, .int en), (2, .int wt)] rfl ?_
  intro p e s m args below meth c Q A H0 C hK hNW hlk hrt hnm hQ hH0 hAA hA hZ htab
  refine x_aload_n C dX4_end_0 rfl 0 rfl ?_
  refine x_get C hK in_X4_end_X4 0 rfl rfl 0 (by decide) (by decide +kernel) rfl rfl dX4_end_1 ?_
  refine x_iload_n C dX4_end_4 rfl 1 rfl ?_
  refine x_calli (x_runVN C hK hNW (c_tr_has l D tys cI cJ hI hJ qw wa wo nw bw cw en (by first | omega | assumption)) ⟨va_cnB 1 C.2.2.2.2 gX4_end_X3_has_n80 rfl rfl rfl (hNW.at 21 rfl) (C.2.2.2.2 (.initialized RX3) (by decide +kernel)) (by decide +kernel) ⟨by decide, by decide⟩, C.2.2.2.2 (.instanceMethod yX3_has) (by decide +kernel), C.2.2.2.2 (.selects RX3 yX3_has yX3_has) (by decide +kernel)⟩ [1, 2, 3] rfl (by decide) 1 3 rfl rfl rfl (st := []) rfl rfl (Nat.le_of_ble_eq_true rfl) dX4_end_5 ⟨by first | decide | omega, by first | decide | omega⟩) hA [1, 2, 3] rfl [0] [(x, OB 4 [.ref qw, .ref qv, .ref qt, .int ri, .ref qd, .ref qc, .ref ql])] rfl (by decide) (by decide) [0, 1, 2, 3] (by decide) (wf := (fun (u : Unit) => [(x, OB 4 [.ref qw, .ref qv, .ref qt, .int ri, .ref qd, .ref qc, .ref ql]), (qw, OB 3 [.ref wa, .ref wo, .int (nI nw)]), (wa, AI cI 40 bw), (wo, AI cI 40 cw)])) (fun _ => rfl) (fun r_1 u h_2 => ?_)
  subst h_2
  refine x_if_eq C 19 dX4_end_8 (by decide) (fun h_3 => ?_) (fun h_3 => ?_)
  ·
    exact x_throw0 C hK hNW hl0 hlk htab hQ hH0 hAA hZ (cls := "java/lang/IndexOutOfBoundsException") (names := ["java/lang/RuntimeException", "java/lang/Exception"]) (ik := 69) (ic := 71) (S := Unit) (by decide +kernel) (by decide +kernel) (by decide +kernel) (by decide +kernel) (by decide +kernel) (by decide +kernel) (by decide +kernel) dX4_end_19 dX4_end_22 dX4_end_23 dX4_end_26 (by decide) (by decide) (by decide) (by decide) rfl [0, 1, 2, 3] (by decide) rfl (by decide) (by decide)
  ·
    refine x_iload_n C dX4_end_11 rfl 2 rfl ?_
    refine x_iconst C (nI 2) dX4_end_12 (by decide +kernel) ?_
    refine x_calli (x_runS C hK hNW (c_isBelow l D tys cI cJ hI hJ wt 2 (by first | omega | assumption)) (va_cwS 2 C.2.2.2.2 gX4_end_X4_isBelow rfl rfl rfl (by decide +kernel) ⟨by decide, by decide⟩) [] rfl (by decide) (st := []) rfl rfl (Nat.le_of_ble_eq_true rfl) dX4_end_13 ⟨by first | decide | omega, by first | decide | omega⟩) hA [] rfl [0, 1, 2, 3] [(x, OB 4 [.ref qw, .ref qv, .ref qt, .int ri, .ref qd, .ref qc, .ref ql]), (qw, OB 3 [.ref wa, .ref wo, .int (nI nw)]), (wa, AI cI 40 bw), (wo, AI cI 40 cw)] rfl (by decide) (by decide) [0, 1, 2, 3] (by decide) (wf := (fun (u : Unit) => [(x, OB 4 [.ref qw, .ref qv, .ref qt, .int ri, .ref qd, .ref qc, .ref ql]), (qw, OB 3 [.ref wa, .ref wo, .int (nI nw)]), (wa, AI cI 40 bw), (wo, AI cI 40 cw)])) (fun _ => rfl) (fun r_4 u h_5 => ?_)
    subst h_5
    refine x_if_ne C 27 dX4_end_16 (by decide) (fun h_6 => ?_) (fun h_6 => ?_)
    ·
      exact absurd ⟨bI_ne0 (by assumption), bI_ne0 h_6⟩ hx
    ·
      exact x_throw0 C hK hNW hl0 hlk htab hQ hH0 hAA hZ (cls := "java/lang/IndexOutOfBoundsException") (names := ["java/lang/RuntimeException", "java/lang/Exception"]) (ik := 69) (ic := 71) (S := Unit) (by decide +kernel) (by decide +kernel) (by decide +kernel) (by decide +kernel) (by decide +kernel) (by decide +kernel) (by decide +kernel) dX4_end_19 dX4_end_22 dX4_end_23 dX4_end_26 (by decide) (by decide) (by decide) (by decide) rfl [0, 1, 2, 3] (by decide) rfl (by decide) (by decide)
abbrev rm_pickT : Room := { frames := 2, cells := 0, slots := 0, locals := 42 }
set_option maxRecDepth 100000 in
set_option maxHeartbeats 4000000 in
theorem c_pickT (l : Launch) (D : va_G) (tys : List (ClassId × FieldType)) (cI cJ : ClassId) (hI : tys[0]? = some (cI, .int)) (hJ : tys[1]? = some (cJ, .long)) (x : Nat) (qw : Nat) (qv : Nat) (qt : Nat) (ri : Int32) (qd : Nat) (qc : Nat) (ql : Nat) (pa : Nat) (po : Nat) (np : Nat) (bp : Nat → Int32) (cp : Nat → Int32) (ti : Nat → Int32) (pk : Nat) (hnp : np ≤ 40) (hpk : pk < np) : MI l yX4_pick wsX4_pick rm_pickT D tys [.ref x, .int (nI pk), .int (nI 0)] [(x, OB 4 [.ref qw, .ref qv, .ref qt, .int ri, .ref qd, .ref qc, .ref ql]), (qv, OB 3 [.ref pa, .ref po, .int (nI np)]), (pa, AI cI 40 bp), (po, AI cI 40 cp), (qt, AI cI 10 ti)] Unit (fun r (_ : Unit) => r = bp pk) (fun (_ : Unit) => [(x, OB 4 [.ref qw, .ref qv, .ref qt, .int ri, .ref qd, .ref qc, .ref ql]), (qv, OB 3 [.ref pa, .ref po, .int (nI np)]), (pa, AI cI 40 bp), (po, AI cI 40 cp), (qt, AI cI 10 ti)]) 0 0 := by
  intro sz
  refine x_met (cc := cX4_pick) (maxL := 3) (ret := (some .int)) (by decide +kernel) rfl (by show _ ≤ _; simp [lg_sl, Value.category]) [(0, .ref x), (1, .int (nI pk)), (2, .int (nI 0))] rfl ?_
  intro p e s m args below meth c Q A H0 C hK hNW hlk hrt hnm hQ hH0 hAA hA
  refine x_aload_n C dX4_pick_0 rfl 0 rfl ?_
  refine x_get C hK in_X4_pick_X4 0 rfl rfl 1 (by decide) (by decide +kernel) rfl rfl dX4_pick_1 ?_
  refine x_iload_n C dX4_pick_4 rfl 1 rfl ?_
  refine x_calli (x_runVN C hK hNW (c_tr_has l D tys cI cJ hI hJ qv pa po np bp cp (nI pk) (by first | omega | assumption)) ⟨va_cnB 1 C.2.2.2.2 gX4_pick_X3_has_n80 rfl rfl rfl (hNW.at 21 rfl) (C.2.2.2.2 (.initialized RX3) (by decide +kernel)) (by decide +kernel) ⟨by decide, by decide⟩, C.2.2.2.2 (.instanceMethod yX3_has) (by decide +kernel), C.2.2.2.2 (.selects RX3 yX3_has yX3_has) (by decide +kernel)⟩ [1, 2, 3] rfl (by decide) 1 3 rfl rfl rfl (st := []) rfl rfl (Nat.le_of_ble_eq_true rfl) dX4_pick_5 ⟨by first | decide | omega, by first | decide | omega⟩) hA [1, 2, 3] rfl [0, 4] [(x, OB 4 [.ref qw, .ref qv, .ref qt, .int ri, .ref qd, .ref qc, .ref ql]), (qt, AI cI 10 ti)] rfl (by decide) (by decide) [0, 2, 3, 4, 1] (by decide) (wf := (fun (u : Unit) => [(x, OB 4 [.ref qw, .ref qv, .ref qt, .int ri, .ref qd, .ref qc, .ref ql]), (qv, OB 3 [.ref pa, .ref po, .int (nI np)]), (pa, AI cI 40 bp), (po, AI cI 40 cp), (qt, AI cI 10 ti)])) (fun _ => rfl) (fun r_1 u h_2 => ?_)
  subst h_2
  refine x_if_eq C 19 dX4_pick_8 (by decide) (fun h_3 => ?_) (fun h_3 => ?_)
  ·
    exact absurd ((bI_eq0 h_3).symm.trans ((below_n (j := pk) (b := np) (by omega)).trans (decide_eq_true (by omega)))) (by decide)
  ·
    refine x_iload_n C dX4_pick_11 rfl 2 rfl ?_
    refine x_iconst C (nI 3) dX4_pick_12 (by decide +kernel) ?_
    refine x_calli (x_runS C hK hNW (c_isBelow l D tys cI cJ hI hJ (nI 0) 3 (by first | omega | assumption)) (va_cwS 2 C.2.2.2.2 gX4_pick_X4_isBelow rfl rfl rfl (by decide +kernel) ⟨by decide, by decide⟩) [] rfl (by decide) (st := []) rfl rfl (Nat.le_of_ble_eq_true rfl) dX4_pick_13 ⟨by first | decide | omega, by first | decide | omega⟩) hA [] rfl [0, 1, 2, 3, 4] [(x, OB 4 [.ref qw, .ref qv, .ref qt, .int ri, .ref qd, .ref qc, .ref ql]), (qv, OB 3 [.ref pa, .ref po, .int (nI np)]), (pa, AI cI 40 bp), (po, AI cI 40 cp), (qt, AI cI 10 ti)] rfl (by decide) (by decide) [0, 1, 2, 3, 4] (by decide) (wf := (fun (u : Unit) => [(x, OB 4 [.ref qw, .ref qv, .ref qt, .int ri, .ref qd, .ref qc, .ref ql]), (qv, OB 3 [.ref pa, .ref po, .int (nI np)]), (pa, AI cI 40 bp), (po, AI cI 40 cp), (qt, AI cI 10 ti)])) (fun _ => rfl) (fun r_4 u h_5 => ?_)
    subst h_5
    refine x_if_ne C 27 dX4_pick_16 (by decide) (fun h_6 => ?_) (fun h_6 => ?_)
    ·
      refine x_iload_n C dX4_pick_27 rfl 2 rfl ?_
      refine x_iconst C (nI 2) dX4_pick_28 (by decide +kernel) ?_
      refine xn_icmp_ne C 38 (by omega) (by omega) dX4_pick_29 (by decide) (fun h_7 => ?_) (fun h_7 => ?_)
      ·
        refine x_iload_n C dX4_pick_38 rfl 2 rfl ?_
        refine xn_if_ne C 54 (by omega) dX4_pick_39 (by decide) (fun h_8 => ?_) (fun h_8 => ?_)
        ·
          exact absurd h_8 (by first | decide | omega)
        ·
          refine x_aload_n C dX4_pick_42 rfl 0 rfl ?_
          refine x_get C hK in_X4_pick_X4 0 rfl rfl 1 (by decide) (by decide +kernel) rfl rfl dX4_pick_43 ?_
          refine x_getN C hK hNW in_X4_pick_X3 1 rfl rfl 0 (by decide) 29 rfl rfl rfl dX4_pick_46 ?_
          refine x_iload_n C dX4_pick_49 rfl 1 rfl ?_
          refine x_iald C hK 2 0 rfl hI (by omega) (by omega) dX4_pick_50 ?_
          refine x_goto C 63 dX4_pick_51 (by decide) ?_
          refine x_iret C hK hlk hrt hQ hH0 hAA () ?_ [0, 1, 2, 3, 4] (by decide) rfl (by first | decide | omega) (by first | decide | omega) dX4_pick_63
          first | rfl | (exact ⟨rfl, rfl⟩) | trivial | assumption | omega
      ·
        exact absurd h_7 (by first | decide | omega)
    ·
      exact absurd ((bI_eq0 h_6).symm.trans ((below_n (j := 0) (b := 3) (by omega)).trans (decide_eq_true (by omega)))) (by decide)
abbrev rm_pickC : Room := { frames := 2, cells := 0, slots := 0, locals := 42 }
set_option maxRecDepth 100000 in
set_option maxHeartbeats 4000000 in
theorem c_pickC (l : Launch) (D : va_G) (tys : List (ClassId × FieldType)) (cI cJ : ClassId) (hI : tys[0]? = some (cI, .int)) (hJ : tys[1]? = some (cJ, .long)) (x : Nat) (qw : Nat) (qv : Nat) (qt : Nat) (ri : Int32) (qd : Nat) (qc : Nat) (ql : Nat) (pa : Nat) (po : Nat) (np : Nat) (bp : Nat → Int32) (cp : Nat → Int32) (ti : Nat → Int32) (pk : Nat) (hnp : np ≤ 40) (hpk : pk < np) : MI l yX4_pick wsX4_pick rm_pickC D tys [.ref x, .int (nI pk), .int (nI 1)] [(x, OB 4 [.ref qw, .ref qv, .ref qt, .int ri, .ref qd, .ref qc, .ref ql]), (qv, OB 3 [.ref pa, .ref po, .int (nI np)]), (pa, AI cI 40 bp), (po, AI cI 40 cp), (qt, AI cI 10 ti)] Unit (fun r (_ : Unit) => r = cp pk) (fun (_ : Unit) => [(x, OB 4 [.ref qw, .ref qv, .ref qt, .int ri, .ref qd, .ref qc, .ref ql]), (qv, OB 3 [.ref pa, .ref po, .int (nI np)]), (pa, AI cI 40 bp), (po, AI cI 40 cp), (qt, AI cI 10 ti)]) 0 0 := by
  intro sz
  refine x_met (cc := cX4_pick) (maxL := 3) (ret := (some .int)) (by decide +kernel) rfl (by show _ ≤ _; simp [lg_sl, Value.category]) [(0, .ref x), (1, .int (nI pk)), (2, .int (nI 1))] rfl ?_
  intro p e s m args below meth c Q A H0 C hK hNW hlk hrt hnm hQ hH0 hAA hA
  refine x_aload_n C dX4_pick_0 rfl 0 rfl ?_
  refine x_get C hK in_X4_pick_X4 0 rfl rfl 1 (by decide) (by decide +kernel) rfl rfl dX4_pick_1 ?_
  refine x_iload_n C dX4_pick_4 rfl 1 rfl ?_
  refine x_calli (x_runVN C hK hNW (c_tr_has l D tys cI cJ hI hJ qv pa po np bp cp (nI pk) (by first | omega | assumption)) ⟨va_cnB 1 C.2.2.2.2 gX4_pick_X3_has_n80 rfl rfl rfl (hNW.at 21 rfl) (C.2.2.2.2 (.initialized RX3) (by decide +kernel)) (by decide +kernel) ⟨by decide, by decide⟩, C.2.2.2.2 (.instanceMethod yX3_has) (by decide +kernel), C.2.2.2.2 (.selects RX3 yX3_has yX3_has) (by decide +kernel)⟩ [1, 2, 3] rfl (by decide) 1 3 rfl rfl rfl (st := []) rfl rfl (Nat.le_of_ble_eq_true rfl) dX4_pick_5 ⟨by first | decide | omega, by first | decide | omega⟩) hA [1, 2, 3] rfl [0, 4] [(x, OB 4 [.ref qw, .ref qv, .ref qt, .int ri, .ref qd, .ref qc, .ref ql]), (qt, AI cI 10 ti)] rfl (by decide) (by decide) [0, 2, 3, 4, 1] (by decide) (wf := (fun (u : Unit) => [(x, OB 4 [.ref qw, .ref qv, .ref qt, .int ri, .ref qd, .ref qc, .ref ql]), (qv, OB 3 [.ref pa, .ref po, .int (nI np)]), (pa, AI cI 40 bp), (po, AI cI 40 cp), (qt, AI cI 10 ti)])) (fun _ => rfl) (fun r_1 u h_2 => ?_)
  subst h_2
  refine x_if_eq C 19 dX4_pick_8 (by decide) (fun h_3 => ?_) (fun h_3 => ?_)
  ·
    exact absurd ((bI_eq0 h_3).symm.trans ((below_n (j := pk) (b := np) (by omega)).trans (decide_eq_true (by omega)))) (by decide)
  ·
    refine x_iload_n C dX4_pick_11 rfl 2 rfl ?_
    refine x_iconst C (nI 3) dX4_pick_12 (by decide +kernel) ?_
    refine x_calli (x_runS C hK hNW (c_isBelow l D tys cI cJ hI hJ (nI 1) 3 (by first | omega | assumption)) (va_cwS 2 C.2.2.2.2 gX4_pick_X4_isBelow rfl rfl rfl (by decide +kernel) ⟨by decide, by decide⟩) [] rfl (by decide) (st := []) rfl rfl (Nat.le_of_ble_eq_true rfl) dX4_pick_13 ⟨by first | decide | omega, by first | decide | omega⟩) hA [] rfl [0, 1, 2, 3, 4] [(x, OB 4 [.ref qw, .ref qv, .ref qt, .int ri, .ref qd, .ref qc, .ref ql]), (qv, OB 3 [.ref pa, .ref po, .int (nI np)]), (pa, AI cI 40 bp), (po, AI cI 40 cp), (qt, AI cI 10 ti)] rfl (by decide) (by decide) [0, 1, 2, 3, 4] (by decide) (wf := (fun (u : Unit) => [(x, OB 4 [.ref qw, .ref qv, .ref qt, .int ri, .ref qd, .ref qc, .ref ql]), (qv, OB 3 [.ref pa, .ref po, .int (nI np)]), (pa, AI cI 40 bp), (po, AI cI 40 cp), (qt, AI cI 10 ti)])) (fun _ => rfl) (fun r_4 u h_5 => ?_)
    subst h_5
    refine x_if_ne C 27 dX4_pick_16 (by decide) (fun h_6 => ?_) (fun h_6 => ?_)
    ·
      refine x_iload_n C dX4_pick_27 rfl 2 rfl ?_
      refine x_iconst C (nI 2) dX4_pick_28 (by decide +kernel) ?_
      refine xn_icmp_ne C 38 (by omega) (by omega) dX4_pick_29 (by decide) (fun h_7 => ?_) (fun h_7 => ?_)
      ·
        refine x_iload_n C dX4_pick_38 rfl 2 rfl ?_
        refine xn_if_ne C 54 (by omega) dX4_pick_39 (by decide) (fun h_8 => ?_) (fun h_8 => ?_)
        ·
          refine x_aload_n C dX4_pick_54 rfl 0 rfl ?_
          refine x_get C hK in_X4_pick_X4 0 rfl rfl 1 (by decide) (by decide +kernel) rfl rfl dX4_pick_55 ?_
          refine x_getN C hK hNW in_X4_pick_X3 1 rfl rfl 1 (by decide) 30 rfl rfl rfl dX4_pick_58 ?_
          refine x_iload_n C dX4_pick_61 rfl 1 rfl ?_
          refine x_iald C hK 3 0 rfl hI (by omega) (by omega) dX4_pick_62 ?_
          refine x_iret C hK hlk hrt hQ hH0 hAA () ?_ [0, 1, 2, 3, 4] (by decide) rfl (by first | decide | omega) (by first | decide | omega) dX4_pick_63
          first | rfl | (exact ⟨rfl, rfl⟩) | trivial | assumption | omega
        ·
          exact absurd h_8 (by first | decide | omega)
      ·
        exact absurd h_7 (by first | decide | omega)
    ·
      exact absurd ((bI_eq0 h_6).symm.trans ((below_n (j := 1) (b := 3) (by omega)).trans (decide_eq_true (by omega)))) (by decide)
abbrev rm_pickM : Room := { frames := 2, cells := 0, slots := 0, locals := 45 }
set_option maxRecDepth 100000 in
set_option maxHeartbeats 4000000 in
theorem c_pickM (l : Launch) (D : va_G) (tys : List (ClassId × FieldType)) (cI cJ : ClassId) (hI : tys[0]? = some (cI, .int)) (hJ : tys[1]? = some (cJ, .long)) (x : Nat) (qw : Nat) (qv : Nat) (qt : Nat) (ri : Int32) (qd : Nat) (qc : Nat) (ql : Nat) (pa : Nat) (po : Nat) (np : Nat) (bp : Nat → Int32) (cp : Nat → Int32) (ti : Nat → Int32) (pk : Nat) (hnp : np ≤ 40) (hpk : pk < np) : MI l yX4_pick wsX4_pick rm_pickM D tys [.ref x, .int (nI pk), .int (nI 2)] [(x, OB 4 [.ref qw, .ref qv, .ref qt, .int ri, .ref qd, .ref qc, .ref ql]), (qv, OB 3 [.ref pa, .ref po, .int (nI np)]), (pa, AI cI 40 bp), (po, AI cI 40 cp), (qt, AI cI 10 ti)] Unit (fun r (_ : Unit) => r = mvF (bp pk) ti 10) (fun (_ : Unit) => [(x, OB 4 [.ref qw, .ref qv, .ref qt, .int ri, .ref qd, .ref qc, .ref ql]), (qv, OB 3 [.ref pa, .ref po, .int (nI np)]), (pa, AI cI 40 bp), (po, AI cI 40 cp), (qt, AI cI 10 ti)]) 0 0 := by
  intro sz
  refine x_met (cc := cX4_pick) (maxL := 3) (ret := (some .int)) (by decide +kernel) rfl (by show _ ≤ _; simp [lg_sl, Value.category]) [(0, .ref x), (1, .int (nI pk)), (2, .int (nI 2))] rfl ?_
  intro p e s m args below meth c Q A H0 C hK hNW hlk hrt hnm hQ hH0 hAA hA
  refine x_aload_n C dX4_pick_0 rfl 0 rfl ?_
  refine x_get C hK in_X4_pick_X4 0 rfl rfl 1 (by decide) (by decide +kernel) rfl rfl dX4_pick_1 ?_
  refine x_iload_n C dX4_pick_4 rfl 1 rfl ?_
  refine x_calli (x_runVN C hK hNW (c_tr_has l D tys cI cJ hI hJ qv pa po np bp cp (nI pk) (by first | omega | assumption)) ⟨va_cnB 1 C.2.2.2.2 gX4_pick_X3_has_n80 rfl rfl rfl (hNW.at 21 rfl) (C.2.2.2.2 (.initialized RX3) (by decide +kernel)) (by decide +kernel) ⟨by decide, by decide⟩, C.2.2.2.2 (.instanceMethod yX3_has) (by decide +kernel), C.2.2.2.2 (.selects RX3 yX3_has yX3_has) (by decide +kernel)⟩ [1, 2, 3] rfl (by decide) 1 3 rfl rfl rfl (st := []) rfl rfl (Nat.le_of_ble_eq_true rfl) dX4_pick_5 ⟨by first | decide | omega, by first | decide | omega⟩) hA [1, 2, 3] rfl [0, 4] [(x, OB 4 [.ref qw, .ref qv, .ref qt, .int ri, .ref qd, .ref qc, .ref ql]), (qt, AI cI 10 ti)] rfl (by decide) (by decide) [0, 2, 3, 4, 1] (by decide) (wf := (fun (u : Unit) => [(x, OB 4 [.ref qw, .ref qv, .ref qt, .int ri, .ref qd, .ref qc, .ref ql]), (qv, OB 3 [.ref pa, .ref po, .int (nI np)]), (pa, AI cI 40 bp), (po, AI cI 40 cp), (qt, AI cI 10 ti)])) (fun _ => rfl) (fun r_1 u h_2 => ?_)
  subst h_2
  refine x_if_eq C 19 dX4_pick_8 (by decide) (fun h_3 => ?_) (fun h_3 => ?_)
  ·
    exact absurd ((bI_eq0 h_3).symm.trans ((below_n (j := pk) (b := np) (by omega)).trans (decide_eq_true (by omega)))) (by decide)
  ·
    refine x_iload_n C dX4_pick_11 rfl 2 rfl ?_
    refine x_iconst C (nI 3) dX4_pick_12 (by decide +kernel) ?_
    refine x_calli (x_runS C hK hNW (c_isBelow l D tys cI cJ hI hJ (nI 2) 3 (by first | omega | assumption)) (va_cwS 2 C.2.2.2.2 gX4_pick_X4_isBelow rfl rfl rfl (by decide +kernel) ⟨by decide, by decide⟩) [] rfl (by decide) (st := []) rfl rfl (Nat.le_of_ble_eq_true rfl) dX4_pick_13 ⟨by first | decide | omega, by first | decide | omega⟩) hA [] rfl [0, 1, 2, 3, 4] [(x, OB 4 [.ref qw, .ref qv, .ref qt, .int ri, .ref qd, .ref qc, .ref ql]), (qv, OB 3 [.ref pa, .ref po, .int (nI np)]), (pa, AI cI 40 bp), (po, AI cI 40 cp), (qt, AI cI 10 ti)] rfl (by decide) (by decide) [0, 1, 2, 3, 4] (by decide) (wf := (fun (u : Unit) => [(x, OB 4 [.ref qw, .ref qv, .ref qt, .int ri, .ref qd, .ref qc, .ref ql]), (qv, OB 3 [.ref pa, .ref po, .int (nI np)]), (pa, AI cI 40 bp), (po, AI cI 40 cp), (qt, AI cI 10 ti)])) (fun _ => rfl) (fun r_4 u h_5 => ?_)
    subst h_5
    refine x_if_ne C 27 dX4_pick_16 (by decide) (fun h_6 => ?_) (fun h_6 => ?_)
    ·
      refine x_iload_n C dX4_pick_27 rfl 2 rfl ?_
      refine x_iconst C (nI 2) dX4_pick_28 (by decide +kernel) ?_
      refine xn_icmp_ne C 38 (by omega) (by omega) dX4_pick_29 (by decide) (fun h_7 => ?_) (fun h_7 => ?_)
      ·
        exact absurd h_7 (by first | decide | omega)
      ·
        refine x_aload_n C dX4_pick_32 rfl 0 rfl ?_
        refine x_iload_n C dX4_pick_33 rfl 1 rfl ?_
        refine x_calli (x_runV C hK hNW (c_moved l D tys cI cJ hI hJ x qw qv qt ri qd qc ql pa po np bp cp ti pk (by first | omega | assumption)) (cwV 1 C.2.2.2.2 gX4_pick_X4_shaftsMovedFor rfl rfl rfl (by decide +kernel) ⟨by decide, by decide⟩) [0, 1, 2, 3, 4] rfl (by decide) 0 4 rfl rfl rfl (st := []) rfl rfl (Nat.le_of_ble_eq_true rfl) dX4_pick_34 ⟨by first | decide | omega, by first | decide | omega⟩) hA [0, 1, 2, 3, 4] rfl [] [] rfl (by decide) (by decide) [0, 1, 2, 3, 4] (by decide) (wf := (fun (u : Unit) => [(x, OB 4 [.ref qw, .ref qv, .ref qt, .int ri, .ref qd, .ref qc, .ref ql]), (qv, OB 3 [.ref pa, .ref po, .int (nI np)]), (pa, AI cI 40 bp), (po, AI cI 40 cp), (qt, AI cI 10 ti)])) (fun _ => rfl) (fun r_8 u h_9 => ?_)
        subst h_9
        refine x_iret C hK hlk hrt hQ hH0 hAA () ?_ [0, 1, 2, 3, 4] (by decide) rfl (by first | decide | omega) (by first | decide | omega) dX4_pick_37
        first | rfl | (exact ⟨rfl, rfl⟩) | trivial | assumption | omega
    ·
      exact absurd ((bI_eq0 h_6).symm.trans ((below_n (j := 2) (b := 3) (by omega)).trans (decide_eq_true (by omega)))) (by decide)
abbrev rm_pickX : Room := { frames := 6, cells := 1, slots := 6, locals := 81 }
set_option maxRecDepth 100000 in
set_option maxHeartbeats 4000000 in
theorem c_pickX (l : Launch) (hl0 : l.stackTraces = false) (D : va_G) (tys : List (ClassId × FieldType)) (cI cJ : ClassId) (hI : tys[0]? = some (cI, .int)) (hJ : tys[1]? = some (cJ, .long)) (x : Nat) (qw : Nat) (qv : Nat) (qt : Nat) (ri : Int32) (qd : Nat) (qc : Nat) (ql : Nat) (pa : Nat) (po : Nat) (np : Nat) (bp : Nat → Int32) (cp : Nat → Int32) (pk : Int32) (wt : Int32) (hnp : np ≤ 40) (hx : ¬ (below pk np = true ∧ below wt 3 = true)) : XI l yX4_pick wsX4_pick rm_pickX D tys [.ref x, .int pk, .int wt] [(x, OB 4 [.ref qw, .ref qv, .ref qt, .int ri, .ref qd, .ref qc, .ref ql]), (qv, OB 3 [.ref pa, .ref po, .int (nI np)]), (pa, AI cI 40 bp), (po, AI cI 40 cp)] Unit (fun _ _ => False) (fun _ => [(x, OB 4 [.ref qw, .ref qv, .ref qt, .int ri, .ref qd, .ref qc, .ref ql]), (qv, OB 3 [.ref pa, .ref po, .int (nI np)]), (pa, AI cI 40 bp), (po, AI cI 40 cp)]) [(x, OB 4 [.ref qw, .ref qv, .ref qt, .int ri, .ref qd, .ref qc, .ref ql]), (qv, OB 3 [.ref pa, .ref po, .int (nI np)]), (pa, AI cI 40 bp), (po, AI cI 40 cp)] (fun E => E = "java/lang/IndexOutOfBoundsException") 1 6 := by
  intro sz
  refine x_metX (cc := cX4_pick) (maxL := 3) (ret := (some .int)) (by decide +kernel) rfl (by show _ ≤ _; simp [lg_sl, Value.category]) [(0, .ref x), (1, .int pk), (2, .int wt)] rfl ?_
  intro p e s m args below meth c Q A H0 C hK hNW hlk hrt hnm hQ hH0 hAA hA hZ htab
  refine x_aload_n C dX4_pick_0 rfl 0 rfl ?_
  refine x_get C hK in_X4_pick_X4 0 rfl rfl 1 (by decide) (by decide +kernel) rfl rfl dX4_pick_1 ?_
  refine x_iload_n C dX4_pick_4 rfl 1 rfl ?_
  refine x_calli (x_runVN C hK hNW (c_tr_has l D tys cI cJ hI hJ qv pa po np bp cp pk (by first | omega | assumption)) ⟨va_cnB 1 C.2.2.2.2 gX4_pick_X3_has_n80 rfl rfl rfl (hNW.at 21 rfl) (C.2.2.2.2 (.initialized RX3) (by decide +kernel)) (by decide +kernel) ⟨by decide, by decide⟩, C.2.2.2.2 (.instanceMethod yX3_has) (by decide +kernel), C.2.2.2.2 (.selects RX3 yX3_has yX3_has) (by decide +kernel)⟩ [1, 2, 3] rfl (by decide) 1 3 rfl rfl rfl (st := []) rfl rfl (Nat.le_of_ble_eq_true rfl) dX4_pick_5 ⟨by first | decide | omega, by first | decide | omega⟩) hA [1, 2, 3] rfl [0] [(x, OB 4 [.ref qw, .ref qv, .ref qt, .int ri, .ref qd, .ref qc, .ref ql])] rfl (by decide) (by decide) [0, 1, 2, 3] (by decide) (wf := (fun (u : Unit) => [(x, OB 4 [.ref qw, .ref qv, .ref qt, .int ri, .ref qd, .ref qc, .ref ql]), (qv, OB 3 [.ref pa, .ref po, .int (nI np)]), (pa, AI cI 40 bp), (po, AI cI 40 cp)])) (fun _ => rfl) (fun r_1 u h_2 => ?_)
  subst h_2
  refine x_if_eq C 19 dX4_pick_8 (by decide) (fun h_3 => ?_) (fun h_3 => ?_)
  ·
    exact x_throw0 C hK hNW hl0 hlk htab hQ hH0 hAA hZ (cls := "java/lang/IndexOutOfBoundsException") (names := ["java/lang/RuntimeException", "java/lang/Exception"]) (ik := 69) (ic := 71) (S := Unit) (by decide +kernel) (by decide +kernel) (by decide +kernel) (by decide +kernel) (by decide +kernel) (by decide +kernel) (by decide +kernel) dX4_pick_19 dX4_pick_22 dX4_pick_23 dX4_pick_26 (by decide) (by decide) (by decide) (by decide) rfl [0, 1, 2, 3] (by decide) rfl (by decide) (by decide)
  ·
    refine x_iload_n C dX4_pick_11 rfl 2 rfl ?_
    refine x_iconst C (nI 3) dX4_pick_12 (by decide +kernel) ?_
    refine x_calli (x_runS C hK hNW (c_isBelow l D tys cI cJ hI hJ wt 3 (by first | omega | assumption)) (va_cwS 2 C.2.2.2.2 gX4_pick_X4_isBelow rfl rfl rfl (by decide +kernel) ⟨by decide, by decide⟩) [] rfl (by decide) (st := []) rfl rfl (Nat.le_of_ble_eq_true rfl) dX4_pick_13 ⟨by first | decide | omega, by first | decide | omega⟩) hA [] rfl [0, 1, 2, 3] [(x, OB 4 [.ref qw, .ref qv, .ref qt, .int ri, .ref qd, .ref qc, .ref ql]), (qv, OB 3 [.ref pa, .ref po, .int (nI np)]), (pa, AI cI 40 bp), (po, AI cI 40 cp)] rfl (by decide) (by decide) [0, 1, 2, 3] (by decide) (wf := (fun (u : Unit) => [(x, OB 4 [.ref qw, .ref qv, .ref qt, .int ri, .ref qd, .ref qc, .ref ql]), (qv, OB 3 [.ref pa, .ref po, .int (nI np)]), (pa, AI cI 40 bp), (po, AI cI 40 cp)])) (fun _ => rfl) (fun r_4 u h_5 => ?_)
    subst h_5
    refine x_if_ne C 27 dX4_pick_16 (by decide) (fun h_6 => ?_) (fun h_6 => ?_)
    ·
      exact absurd ⟨bI_ne0 (by assumption), bI_ne0 h_6⟩ hx
    ·
      exact x_throw0 C hK hNW hl0 hlk htab hQ hH0 hAA hZ (cls := "java/lang/IndexOutOfBoundsException") (names := ["java/lang/RuntimeException", "java/lang/Exception"]) (ik := 69) (ic := 71) (S := Unit) (by decide +kernel) (by decide +kernel) (by decide +kernel) (by decide +kernel) (by decide +kernel) (by decide +kernel) (by decide +kernel) dX4_pick_19 dX4_pick_22 dX4_pick_23 dX4_pick_26 (by decide) (by decide) (by decide) (by decide) rfl [0, 1, 2, 3] (by decide) rfl (by decide) (by decide)
abbrev rm_onTop : Room := { frames := 3, cells := 0, slots := 0, locals := 67 }
set_option maxRecDepth 100000 in
set_option maxHeartbeats 4000000 in
theorem c_onTop (l : Launch) (D : va_G) (tys : List (ClassId × FieldType)) (cI cJ : ClassId) (hI : tys[0]? = some (cI, .int)) (hJ : tys[1]? = some (cJ, .long)) (x : Nat) (qw : Nat) (qv : Nat) (qt : Nat) (ri : Int32) (qd : Nat) (qc : Nat) (ql : Nat) (wa : Nat) (wo : Nat) (nw : Nat) (bw : Nat → Int32) (cw : Nat → Int32) (pa : Nat) (po : Nat) (np : Nat) (bp : Nat → Int32) (cp : Nat → Int32) (ti : Nat → Int32) (pk : Nat) (en : Nat) (hnw : nw ≤ 40) (hnp : np ≤ 40) (hpk : pk < np) (hen : en < nw) : MI l yX4_isWarpOnTop wsX4_isWarpOnTop rm_onTop D tys [.ref x, .int (nI pk), .int (nI en)] [(x, OB 4 [.ref qw, .ref qv, .ref qt, .int ri, .ref qd, .ref qc, .ref ql]), (qw, OB 3 [.ref wa, .ref wo, .int (nI nw)]), (wa, AI cI 40 bw), (wo, AI cI 40 cw), (qv, OB 3 [.ref pa, .ref po, .int (nI np)]), (pa, AI cI 40 bp), (po, AI cI 40 cp), (qt, AI cI 10 ti)] Unit (fun r (_ : Unit) => r = bI (hbit (suA ri ti (bp pk)) (bw en))) (fun (_ : Unit) => [(x, OB 4 [.ref qw, .ref qv, .ref qt, .int ri, .ref qd, .ref qc, .ref ql]), (qw, OB 3 [.ref wa, .ref wo, .int (nI nw)]), (wa, AI cI 40 bw), (wo, AI cI 40 cw), (qv, OB 3 [.ref pa, .ref po, .int (nI np)]), (pa, AI cI 40 bp), (po, AI cI 40 cp), (qt, AI cI 10 ti)]) 0 0 := by
  intro sz
  refine x_met (cc := cX4_isWarpOnTop) (maxL := 3) (ret := (some .boolean)) (by decide +kernel) rfl (by show _ ≤ _; simp [lg_sl, Value.category]) [(0, .ref x), (1, .int (nI pk)), (2, .int (nI en))] rfl ?_
  intro p e s m args below meth c Q A H0 C hK hNW hlk hrt hnm hQ hH0 hAA hA
  refine x_aload_n C dX4_isWarpOnTop_0 rfl 0 rfl ?_
  refine x_get C hK in_X4_isWarpOnTop_X4 0 rfl rfl 1 (by decide) (by decide +kernel) rfl rfl dX4_isWarpOnTop_1 ?_
  refine x_iload_n C dX4_isWarpOnTop_4 rfl 1 rfl ?_
  refine x_calli (x_runVN C hK hNW (c_tr_has l D tys cI cJ hI hJ qv pa po np bp cp (nI pk) (by first | omega | assumption)) ⟨va_cnB 1 C.2.2.2.2 gX4_isWarpOnTop_X3_has_n80 rfl rfl rfl (hNW.at 21 rfl) (C.2.2.2.2 (.initialized RX3) (by decide +kernel)) (by decide +kernel) ⟨by decide, by decide⟩, C.2.2.2.2 (.instanceMethod yX3_has) (by decide +kernel), C.2.2.2.2 (.selects RX3 yX3_has yX3_has) (by decide +kernel)⟩ [4, 5, 6] rfl (by decide) 4 3 rfl rfl rfl (st := []) rfl rfl (Nat.le_of_ble_eq_true rfl) dX4_isWarpOnTop_5 ⟨by first | decide | omega, by first | decide | omega⟩) hA [4, 5, 6] rfl [0, 1, 2, 3, 7] [(x, OB 4 [.ref qw, .ref qv, .ref qt, .int ri, .ref qd, .ref qc, .ref ql]), (qw, OB 3 [.ref wa, .ref wo, .int (nI nw)]), (wa, AI cI 40 bw), (wo, AI cI 40 cw), (qt, AI cI 10 ti)] rfl (by decide) (by decide) [0, 1, 2, 3, 5, 6, 7, 4] (by decide) (wf := (fun (u : Unit) => [(x, OB 4 [.ref qw, .ref qv, .ref qt, .int ri, .ref qd, .ref qc, .ref ql]), (qw, OB 3 [.ref wa, .ref wo, .int (nI nw)]), (wa, AI cI 40 bw), (wo, AI cI 40 cw), (qv, OB 3 [.ref pa, .ref po, .int (nI np)]), (pa, AI cI 40 bp), (po, AI cI 40 cp), (qt, AI cI 10 ti)])) (fun _ => rfl) (fun r_1 u h_2 => ?_)
  subst h_2
  refine x_if_eq C 22 dX4_isWarpOnTop_8 (by decide) (fun h_3 => ?_) (fun h_3 => ?_)
  ·
    exact absurd ((bI_eq0 h_3).symm.trans ((below_n (j := pk) (b := np) (by omega)).trans (decide_eq_true (by omega)))) (by decide)
  ·
    refine x_aload_n C dX4_isWarpOnTop_11 rfl 0 rfl ?_
    refine x_get C hK in_X4_isWarpOnTop_X4 0 rfl rfl 0 (by decide) (by decide +kernel) rfl rfl dX4_isWarpOnTop_12 ?_
    refine x_iload_n C dX4_isWarpOnTop_15 rfl 2 rfl ?_
    refine x_calli (x_runVN C hK hNW (c_tr_has l D tys cI cJ hI hJ qw wa wo nw bw cw (nI en) (by first | omega | assumption)) ⟨va_cnB 1 C.2.2.2.2 gX4_isWarpOnTop_X3_has_n80 rfl rfl rfl (hNW.at 21 rfl) (C.2.2.2.2 (.initialized RX3) (by decide +kernel)) (by decide +kernel) ⟨by decide, by decide⟩, C.2.2.2.2 (.instanceMethod yX3_has) (by decide +kernel), C.2.2.2.2 (.selects RX3 yX3_has yX3_has) (by decide +kernel)⟩ [1, 2, 3] rfl (by decide) 1 3 rfl rfl rfl (st := []) rfl rfl (Nat.le_of_ble_eq_true rfl) dX4_isWarpOnTop_16 ⟨by first | decide | omega, by first | decide | omega⟩) hA [1, 2, 3] rfl [0, 4, 5, 6, 7] [(x, OB 4 [.ref qw, .ref qv, .ref qt, .int ri, .ref qd, .ref qc, .ref ql]), (qv, OB 3 [.ref pa, .ref po, .int (nI np)]), (pa, AI cI 40 bp), (po, AI cI 40 cp), (qt, AI cI 10 ti)] rfl (by decide) (by decide) [0, 5, 6, 7, 1, 2, 3, 4] (by decide) (wf := (fun (u : Unit) => [(x, OB 4 [.ref qw, .ref qv, .ref qt, .int ri, .ref qd, .ref qc, .ref ql]), (qw, OB 3 [.ref wa, .ref wo, .int (nI nw)]), (wa, AI cI 40 bw), (wo, AI cI 40 cw), (qv, OB 3 [.ref pa, .ref po, .int (nI np)]), (pa, AI cI 40 bp), (po, AI cI 40 cp), (qt, AI cI 10 ti)])) (fun _ => rfl) (fun r_4 u h_5 => ?_)
    subst h_5
    refine x_if_ne C 30 dX4_isWarpOnTop_19 (by decide) (fun h_6 => ?_) (fun h_6 => ?_)
    ·
      refine x_aload_n C dX4_isWarpOnTop_30 rfl 0 rfl ?_
      refine x_iload_n C dX4_isWarpOnTop_31 rfl 1 rfl ?_
      refine x_calll (x_runV C hK hNW (c_upAt l D tys cI cJ hI hJ x qw qv qt ri qd qc ql pa po np bp cp ti pk (by first | omega | assumption)) (cwV 1 C.2.2.2.2 gX4_isWarpOnTop_X4_shaftsUpAt rfl rfl rfl (by decide +kernel) ⟨by decide, by decide⟩) [0, 4, 5, 6, 7] rfl (by decide) 0 4 rfl rfl rfl (st := []) rfl rfl (Nat.le_of_ble_eq_true rfl) dX4_isWarpOnTop_32 ⟨by first | decide | omega, by first | decide | omega⟩) hA [0, 4, 5, 6, 7] rfl [1, 2, 3] [(qw, OB 3 [.ref wa, .ref wo, .int (nI nw)]), (wa, AI cI 40 bw), (wo, AI cI 40 cw)] rfl (by decide) (by decide) [3, 0, 1, 2, 4, 5, 6, 7] (by decide) (wf := (fun (u : Unit) => [(x, OB 4 [.ref qw, .ref qv, .ref qt, .int ri, .ref qd, .ref qc, .ref ql]), (qw, OB 3 [.ref wa, .ref wo, .int (nI nw)]), (wa, AI cI 40 bw), (wo, AI cI 40 cw), (qv, OB 3 [.ref pa, .ref po, .int (nI np)]), (pa, AI cI 40 bp), (po, AI cI 40 cp), (qt, AI cI 10 ti)])) (fun _ => rfl) (fun r_7 u h_8 => ?_)
      subst h_8
      refine x_aload_n C dX4_isWarpOnTop_35 rfl 0 rfl ?_
      refine x_get C hK in_X4_isWarpOnTop_X4 0 rfl rfl 0 (by decide) (by decide +kernel) rfl rfl dX4_isWarpOnTop_36 ?_
      refine x_getN C hK hNW in_X4_isWarpOnTop_X3 1 rfl rfl 0 (by decide) 29 rfl rfl rfl dX4_isWarpOnTop_39 ?_
      refine x_iload_n C dX4_isWarpOnTop_42 rfl 2 rfl ?_
      refine x_iald C hK 2 0 rfl hI (by omega) (by omega) dX4_isWarpOnTop_43 ?_
      refine x_calli (x_runS C hK hNW (c_hasBit l D tys cI cJ hI hJ (suA ri ti (bp pk)) (bw en) ) (va_cwS 2 C.2.2.2.2 gX4_isWarpOnTop_X4_hasBit rfl rfl rfl (by decide +kernel) ⟨by decide, by decide⟩) [] rfl (by decide) (st := []) rfl rfl (Nat.le_of_ble_eq_true rfl) dX4_isWarpOnTop_44 ⟨by first | decide | omega, by first | decide | omega⟩) hA [] rfl [0, 1, 2, 3, 4, 5, 6, 7] [(x, OB 4 [.ref qw, .ref qv, .ref qt, .int ri, .ref qd, .ref qc, .ref ql]), (qw, OB 3 [.ref wa, .ref wo, .int (nI nw)]), (wa, AI cI 40 bw), (wo, AI cI 40 cw), (qv, OB 3 [.ref pa, .ref po, .int (nI np)]), (pa, AI cI 40 bp), (po, AI cI 40 cp), (qt, AI cI 10 ti)] rfl (by decide) (by decide) [0, 1, 2, 3, 4, 5, 6, 7] (by decide) (wf := (fun (u : Unit) => [(x, OB 4 [.ref qw, .ref qv, .ref qt, .int ri, .ref qd, .ref qc, .ref ql]), (qw, OB 3 [.ref wa, .ref wo, .int (nI nw)]), (wa, AI cI 40 bw), (wo, AI cI 40 cw), (qv, OB 3 [.ref pa, .ref po, .int (nI np)]), (pa, AI cI 40 bp), (po, AI cI 40 cp), (qt, AI cI 10 ti)])) (fun _ => rfl) (fun r_9 u h_10 => ?_)
      subst h_10
      refine x_zret C hK hlk hrt hQ hH0 hAA () (by exact bI_01 _) ?_ [0, 1, 2, 3, 4, 5, 6, 7] (by decide) rfl (by first | decide | omega) (by first | decide | omega) dX4_isWarpOnTop_47
      first | rfl | (exact ⟨rfl, rfl⟩) | trivial | assumption | omega
    ·
      exact absurd ((bI_eq0 h_6).symm.trans ((below_n (j := en) (b := nw) (by omega)).trans (decide_eq_true (by omega)))) (by decide)
abbrev rm_onTopX : Room := { frames := 6, cells := 1, slots := 6, locals := 81 }
set_option maxRecDepth 100000 in
set_option maxHeartbeats 4000000 in
theorem c_onTopX (l : Launch) (hl0 : l.stackTraces = false) (D : va_G) (tys : List (ClassId × FieldType)) (cI cJ : ClassId) (hI : tys[0]? = some (cI, .int)) (hJ : tys[1]? = some (cJ, .long)) (x : Nat) (qw : Nat) (qv : Nat) (qt : Nat) (ri : Int32) (qd : Nat) (qc : Nat) (ql : Nat) (wa : Nat) (wo : Nat) (nw : Nat) (bw : Nat → Int32) (cw : Nat → Int32) (pa : Nat) (po : Nat) (np : Nat) (bp : Nat → Int32) (cp : Nat → Int32) (pk : Int32) (en : Int32) (hnw : nw ≤ 40) (hnp : np ≤ 40) (hx : ¬ (below pk np = true ∧ below en nw = true)) : XI l yX4_isWarpOnTop wsX4_isWarpOnTop rm_onTopX D tys [.ref x, .int pk, .int en] [(x, OB 4 [.ref qw, .ref qv, .ref qt, .int ri, .ref qd, .ref qc, .ref ql]), (qw, OB 3 [.ref wa, .ref wo, .int (nI nw)]), (wa, AI cI 40 bw), (wo, AI cI 40 cw), (qv, OB 3 [.ref pa, .ref po, .int (nI np)]), (pa, AI cI 40 bp), (po, AI cI 40 cp)] Unit (fun _ _ => False) (fun _ => [(x, OB 4 [.ref qw, .ref qv, .ref qt, .int ri, .ref qd, .ref qc, .ref ql]), (qw, OB 3 [.ref wa, .ref wo, .int (nI nw)]), (wa, AI cI 40 bw), (wo, AI cI 40 cw), (qv, OB 3 [.ref pa, .ref po, .int (nI np)]), (pa, AI cI 40 bp), (po, AI cI 40 cp)]) [(x, OB 4 [.ref qw, .ref qv, .ref qt, .int ri, .ref qd, .ref qc, .ref ql]), (qw, OB 3 [.ref wa, .ref wo, .int (nI nw)]), (wa, AI cI 40 bw), (wo, AI cI 40 cw), (qv, OB 3 [.ref pa, .ref po, .int (nI np)]), (pa, AI cI 40 bp), (po, AI cI 40 cp)] (fun E => E = "java/lang/IndexOutOfBoundsException") 1 6 := by
  intro sz
  refine x_metX (cc := cX4_isWarpOnTop) (maxL := 3) (ret := (some .boolean)) (by decide +kernel) rfl (by show _ ≤ _; simp [lg_sl, Value.category]) [(0, .ref x), (1, .int pk), (2, .int en)] rfl ?_
  intro p e s m args below meth c Q A H0 C hK hNW hlk hrt hnm hQ hH0 hAA hA hZ htab
  refine x_aload_n C dX4_isWarpOnTop_0 rfl 0 rfl ?_
  refine x_get C hK in_X4_isWarpOnTop_X4 0 rfl rfl 1 (by decide) (by decide +kernel) rfl rfl dX4_isWarpOnTop_1 ?_
  refine x_iload_n C dX4_isWarpOnTop_4 rfl 1 rfl ?_
  refine x_calli (x_runVN C hK hNW (c_tr_has l D tys cI cJ hI hJ qv pa po np bp cp pk (by first | omega | assumption)) ⟨va_cnB 1 C.2.2.2.2 gX4_isWarpOnTop_X3_has_n80 rfl rfl rfl (hNW.at 21 rfl) (C.2.2.2.2 (.initialized RX3) (by decide +kernel)) (by decide +kernel) ⟨by decide, by decide⟩, C.2.2.2.2 (.instanceMethod yX3_has) (by decide +kernel), C.2.2.2.2 (.selects RX3 yX3_has yX3_has) (by decide +kernel)⟩ [4, 5, 6] rfl (by decide) 4 3 rfl rfl rfl (st := []) rfl rfl (Nat.le_of_ble_eq_true rfl) dX4_isWarpOnTop_5 ⟨by first | decide | omega, by first | decide | omega⟩) hA [4, 5, 6] rfl [0, 1, 2, 3] [(x, OB 4 [.ref qw, .ref qv, .ref qt, .int ri, .ref qd, .ref qc, .ref ql]), (qw, OB 3 [.ref wa, .ref wo, .int (nI nw)]), (wa, AI cI 40 bw), (wo, AI cI 40 cw)] rfl (by decide) (by decide) [0, 1, 2, 3, 4, 5, 6] (by decide) (wf := (fun (u : Unit) => [(x, OB 4 [.ref qw, .ref qv, .ref qt, .int ri, .ref qd, .ref qc, .ref ql]), (qw, OB 3 [.ref wa, .ref wo, .int (nI nw)]), (wa, AI cI 40 bw), (wo, AI cI 40 cw), (qv, OB 3 [.ref pa, .ref po, .int (nI np)]), (pa, AI cI 40 bp), (po, AI cI 40 cp)])) (fun _ => rfl) (fun r_1 u h_2 => ?_)
  subst h_2
  refine x_if_eq C 22 dX4_isWarpOnTop_8 (by decide) (fun h_3 => ?_) (fun h_3 => ?_)
  ·
    exact x_throw0 C hK hNW hl0 hlk htab hQ hH0 hAA hZ (cls := "java/lang/IndexOutOfBoundsException") (names := ["java/lang/RuntimeException", "java/lang/Exception"]) (ik := 69) (ic := 71) (S := Unit) (by decide +kernel) (by decide +kernel) (by decide +kernel) (by decide +kernel) (by decide +kernel) (by decide +kernel) (by decide +kernel) dX4_isWarpOnTop_22 dX4_isWarpOnTop_25 dX4_isWarpOnTop_26 dX4_isWarpOnTop_29 (by decide) (by decide) (by decide) (by decide) rfl [0, 1, 2, 3, 4, 5, 6] (by decide) rfl (by decide) (by decide)
  ·
    refine x_aload_n C dX4_isWarpOnTop_11 rfl 0 rfl ?_
    refine x_get C hK in_X4_isWarpOnTop_X4 0 rfl rfl 0 (by decide) (by decide +kernel) rfl rfl dX4_isWarpOnTop_12 ?_
    refine x_iload_n C dX4_isWarpOnTop_15 rfl 2 rfl ?_
    refine x_calli (x_runVN C hK hNW (c_tr_has l D tys cI cJ hI hJ qw wa wo nw bw cw en (by first | omega | assumption)) ⟨va_cnB 1 C.2.2.2.2 gX4_isWarpOnTop_X3_has_n80 rfl rfl rfl (hNW.at 21 rfl) (C.2.2.2.2 (.initialized RX3) (by decide +kernel)) (by decide +kernel) ⟨by decide, by decide⟩, C.2.2.2.2 (.instanceMethod yX3_has) (by decide +kernel), C.2.2.2.2 (.selects RX3 yX3_has yX3_has) (by decide +kernel)⟩ [1, 2, 3] rfl (by decide) 1 3 rfl rfl rfl (st := []) rfl rfl (Nat.le_of_ble_eq_true rfl) dX4_isWarpOnTop_16 ⟨by first | decide | omega, by first | decide | omega⟩) hA [1, 2, 3] rfl [0, 4, 5, 6] [(x, OB 4 [.ref qw, .ref qv, .ref qt, .int ri, .ref qd, .ref qc, .ref ql]), (qv, OB 3 [.ref pa, .ref po, .int (nI np)]), (pa, AI cI 40 bp), (po, AI cI 40 cp)] rfl (by decide) (by decide) [0, 4, 5, 6, 1, 2, 3] (by decide) (wf := (fun (u : Unit) => [(x, OB 4 [.ref qw, .ref qv, .ref qt, .int ri, .ref qd, .ref qc, .ref ql]), (qw, OB 3 [.ref wa, .ref wo, .int (nI nw)]), (wa, AI cI 40 bw), (wo, AI cI 40 cw), (qv, OB 3 [.ref pa, .ref po, .int (nI np)]), (pa, AI cI 40 bp), (po, AI cI 40 cp)])) (fun _ => rfl) (fun r_4 u h_5 => ?_)
    subst h_5
    refine x_if_ne C 30 dX4_isWarpOnTop_19 (by decide) (fun h_6 => ?_) (fun h_6 => ?_)
    ·
      exact absurd ⟨bI_ne0 (by assumption), bI_ne0 h_6⟩ hx
    ·
      exact x_throw0 C hK hNW hl0 hlk htab hQ hH0 hAA hZ (cls := "java/lang/IndexOutOfBoundsException") (names := ["java/lang/RuntimeException", "java/lang/Exception"]) (ik := 69) (ic := 71) (S := Unit) (by decide +kernel) (by decide +kernel) (by decide +kernel) (by decide +kernel) (by decide +kernel) (by decide +kernel) (by decide +kernel) dX4_isWarpOnTop_22 dX4_isWarpOnTop_25 dX4_isWarpOnTop_26 dX4_isWarpOnTop_29 (by decide) (by decide) (by decide) (by decide) rfl [0, 1, 2, 3, 4, 5, 6] (by decide) rfl (by decide) (by decide)
abbrev rm_colour : Room := { frames := 3, cells := 0, slots := 0, locals := 67 }
set_option maxRecDepth 100000 in
set_option maxHeartbeats 4000000 in
theorem c_colour (l : Launch) (D : va_G) (tys : List (ClassId × FieldType)) (cI cJ : ClassId) (hI : tys[0]? = some (cI, .int)) (hJ : tys[1]? = some (cJ, .long)) (x : Nat) (qw : Nat) (qv : Nat) (qt : Nat) (ri : Int32) (qd : Nat) (qc : Nat) (ql : Nat) (wa : Nat) (wo : Nat) (nw : Nat) (bw : Nat → Int32) (cw : Nat → Int32) (pa : Nat) (po : Nat) (np : Nat) (bp : Nat → Int32) (cp : Nat → Int32) (ti : Nat → Int32) (pk : Nat) (en : Nat) (hnw : nw ≤ 40) (hnp : np ≤ 40) (hpk : pk < np) (hen : en < nw) : MI l yX4_colour wsX4_colour rm_colour D tys [.ref x, .int (nI pk), .int (nI en)] [(x, OB 4 [.ref qw, .ref qv, .ref qt, .int ri, .ref qd, .ref qc, .ref ql]), (qw, OB 3 [.ref wa, .ref wo, .int (nI nw)]), (wa, AI cI 40 bw), (wo, AI cI 40 cw), (qv, OB 3 [.ref pa, .ref po, .int (nI np)]), (pa, AI cI 40 bp), (po, AI cI 40 cp), (qt, AI cI 10 ti)] Unit (fun r (_ : Unit) => r = if hbit (suA ri ti (bp pk)) (bw en) then cw en else cp pk) (fun (_ : Unit) => [(x, OB 4 [.ref qw, .ref qv, .ref qt, .int ri, .ref qd, .ref qc, .ref ql]), (qw, OB 3 [.ref wa, .ref wo, .int (nI nw)]), (wa, AI cI 40 bw), (wo, AI cI 40 cw), (qv, OB 3 [.ref pa, .ref po, .int (nI np)]), (pa, AI cI 40 bp), (po, AI cI 40 cp), (qt, AI cI 10 ti)]) 0 0 := by
  intro sz
  refine x_met (cc := cX4_colour) (maxL := 4) (ret := (some .int)) (by decide +kernel) rfl (by show _ ≤ _; simp [lg_sl, Value.category]) [(0, .ref x), (1, .int (nI pk)), (2, .int (nI en))] rfl ?_
  intro p e s m args below meth c Q A H0 C hK hNW hlk hrt hnm hQ hH0 hAA hA
  refine x_aload_n C dX4_colour_0 rfl 0 rfl ?_
  refine x_get C hK in_X4_colour_X4 0 rfl rfl 1 (by decide) (by decide +kernel) rfl rfl dX4_colour_1 ?_
  refine x_iload_n C dX4_colour_4 rfl 1 rfl ?_
  refine x_calli (x_runVN C hK hNW (c_tr_has l D tys cI cJ hI hJ qv pa po np bp cp (nI pk) (by first | omega | assumption)) ⟨va_cnB 1 C.2.2.2.2 gX4_colour_X3_has_n80 rfl rfl rfl (hNW.at 21 rfl) (C.2.2.2.2 (.initialized RX3) (by decide +kernel)) (by decide +kernel) ⟨by decide, by decide⟩, C.2.2.2.2 (.instanceMethod yX3_has) (by decide +kernel), C.2.2.2.2 (.selects RX3 yX3_has yX3_has) (by decide +kernel)⟩ [4, 5, 6] rfl (by decide) 4 3 rfl rfl rfl (st := []) rfl rfl (Nat.le_of_ble_eq_true rfl) dX4_colour_5 ⟨by first | decide | omega, by first | decide | omega⟩) hA [4, 5, 6] rfl [0, 1, 2, 3, 7] [(x, OB 4 [.ref qw, .ref qv, .ref qt, .int ri, .ref qd, .ref qc, .ref ql]), (qw, OB 3 [.ref wa, .ref wo, .int (nI nw)]), (wa, AI cI 40 bw), (wo, AI cI 40 cw), (qt, AI cI 10 ti)] rfl (by decide) (by decide) [0, 1, 2, 3, 5, 6, 7, 4] (by decide) (wf := (fun (u : Unit) => [(x, OB 4 [.ref qw, .ref qv, .ref qt, .int ri, .ref qd, .ref qc, .ref ql]), (qw, OB 3 [.ref wa, .ref wo, .int (nI nw)]), (wa, AI cI 40 bw), (wo, AI cI 40 cw), (qv, OB 3 [.ref pa, .ref po, .int (nI np)]), (pa, AI cI 40 bp), (po, AI cI 40 cp), (qt, AI cI 10 ti)])) (fun _ => rfl) (fun r_1 u h_2 => ?_)
  subst h_2
  refine x_if_eq C 22 dX4_colour_8 (by decide) (fun h_3 => ?_) (fun h_3 => ?_)
  ·
    exact absurd ((bI_eq0 h_3).symm.trans ((below_n (j := pk) (b := np) (by omega)).trans (decide_eq_true (by omega)))) (by decide)
  ·
    refine x_aload_n C dX4_colour_11 rfl 0 rfl ?_
    refine x_get C hK in_X4_colour_X4 0 rfl rfl 0 (by decide) (by decide +kernel) rfl rfl dX4_colour_12 ?_
    refine x_iload_n C dX4_colour_15 rfl 2 rfl ?_
    refine x_calli (x_runVN C hK hNW (c_tr_has l D tys cI cJ hI hJ qw wa wo nw bw cw (nI en) (by first | omega | assumption)) ⟨va_cnB 1 C.2.2.2.2 gX4_colour_X3_has_n80 rfl rfl rfl (hNW.at 21 rfl) (C.2.2.2.2 (.initialized RX3) (by decide +kernel)) (by decide +kernel) ⟨by decide, by decide⟩, C.2.2.2.2 (.instanceMethod yX3_has) (by decide +kernel), C.2.2.2.2 (.selects RX3 yX3_has yX3_has) (by decide +kernel)⟩ [1, 2, 3] rfl (by decide) 1 3 rfl rfl rfl (st := []) rfl rfl (Nat.le_of_ble_eq_true rfl) dX4_colour_16 ⟨by first | decide | omega, by first | decide | omega⟩) hA [1, 2, 3] rfl [0, 4, 5, 6, 7] [(x, OB 4 [.ref qw, .ref qv, .ref qt, .int ri, .ref qd, .ref qc, .ref ql]), (qv, OB 3 [.ref pa, .ref po, .int (nI np)]), (pa, AI cI 40 bp), (po, AI cI 40 cp), (qt, AI cI 10 ti)] rfl (by decide) (by decide) [0, 5, 6, 7, 1, 2, 3, 4] (by decide) (wf := (fun (u : Unit) => [(x, OB 4 [.ref qw, .ref qv, .ref qt, .int ri, .ref qd, .ref qc, .ref ql]), (qw, OB 3 [.ref wa, .ref wo, .int (nI nw)]), (wa, AI cI 40 bw), (wo, AI cI 40 cw), (qv, OB 3 [.ref pa, .ref po, .int (nI np)]), (pa, AI cI 40 bp), (po, AI cI 40 cp), (qt, AI cI 10 ti)])) (fun _ => rfl) (fun r_4 u h_5 => ?_)
    subst h_5
    refine x_if_ne C 30 dX4_colour_19 (by decide) (fun h_6 => ?_) (fun h_6 => ?_)
    ·
      refine x_aload_n C dX4_colour_30 rfl 0 rfl ?_
      refine x_iload_n C dX4_colour_31 rfl 1 rfl ?_
      refine x_calll (x_runV C hK hNW (c_upAt l D tys cI cJ hI hJ x qw qv qt ri qd qc ql pa po np bp cp ti pk (by first | omega | assumption)) (cwV 1 C.2.2.2.2 gX4_colour_X4_shaftsUpAt rfl rfl rfl (by decide +kernel) ⟨by decide, by decide⟩) [0, 4, 5, 6, 7] rfl (by decide) 0 4 rfl rfl rfl (st := []) rfl rfl (Nat.le_of_ble_eq_true rfl) dX4_colour_32 ⟨by first | decide | omega, by first | decide | omega⟩) hA [0, 4, 5, 6, 7] rfl [1, 2, 3] [(qw, OB 3 [.ref wa, .ref wo, .int (nI nw)]), (wa, AI cI 40 bw), (wo, AI cI 40 cw)] rfl (by decide) (by decide) [3, 0, 1, 2, 4, 5, 6, 7] (by decide) (wf := (fun (u : Unit) => [(x, OB 4 [.ref qw, .ref qv, .ref qt, .int ri, .ref qd, .ref qc, .ref ql]), (qw, OB 3 [.ref wa, .ref wo, .int (nI nw)]), (wa, AI cI 40 bw), (wo, AI cI 40 cw), (qv, OB 3 [.ref pa, .ref po, .int (nI np)]), (pa, AI cI 40 bp), (po, AI cI 40 cp), (qt, AI cI 10 ti)])) (fun _ => rfl) (fun r_7 u h_8 => ?_)
      subst h_8
      refine x_aload_n C dX4_colour_35 rfl 0 rfl ?_
      refine x_get C hK in_X4_colour_X4 0 rfl rfl 0 (by decide) (by decide +kernel) rfl rfl dX4_colour_36 ?_
      refine x_getN C hK hNW in_X4_colour_X3 1 rfl rfl 0 (by decide) 29 rfl rfl rfl dX4_colour_39 ?_
      refine x_iload_n C dX4_colour_42 rfl 2 rfl ?_
      refine x_iald C hK 2 0 rfl hI (by omega) (by omega) dX4_colour_43 ?_
      refine x_calli (x_runS C hK hNW (c_hasBit l D tys cI cJ hI hJ (suA ri ti (bp pk)) (bw en) ) (va_cwS 2 C.2.2.2.2 gX4_colour_X4_hasBit rfl rfl rfl (by decide +kernel) ⟨by decide, by decide⟩) [] rfl (by decide) (st := []) rfl rfl (Nat.le_of_ble_eq_true rfl) dX4_colour_44 ⟨by first | decide | omega, by first | decide | omega⟩) hA [] rfl [0, 1, 2, 3, 4, 5, 6, 7] [(x, OB 4 [.ref qw, .ref qv, .ref qt, .int ri, .ref qd, .ref qc, .ref ql]), (qw, OB 3 [.ref wa, .ref wo, .int (nI nw)]), (wa, AI cI 40 bw), (wo, AI cI 40 cw), (qv, OB 3 [.ref pa, .ref po, .int (nI np)]), (pa, AI cI 40 bp), (po, AI cI 40 cp), (qt, AI cI 10 ti)] rfl (by decide) (by decide) [0, 1, 2, 3, 4, 5, 6, 7] (by decide) (wf := (fun (u : Unit) => [(x, OB 4 [.ref qw, .ref qv, .ref qt, .int ri, .ref qd, .ref qc, .ref ql]), (qw, OB 3 [.ref wa, .ref wo, .int (nI nw)]), (wa, AI cI 40 bw), (wo, AI cI 40 cw), (qv, OB 3 [.ref pa, .ref po, .int (nI np)]), (pa, AI cI 40 bp), (po, AI cI 40 cp), (qt, AI cI 10 ti)])) (fun _ => rfl) (fun r_9 u h_10 => ?_)
      subst h_10
      refine x_istore_n C [(3, .int (bI (hbit (suA ri ti (bp pk)) (bw en)))), (0, .ref x), (1, .int (nI pk)), (2, .int (nI en))] dX4_colour_47 rfl (by decide) rfl ?_
      refine x_iload_n C dX4_colour_48 rfl 0 rfl ?_
      refine x_if_eq C 64 dX4_colour_49 (by decide) (fun h_11 => ?_) (fun h_11 => ?_)
      ·
        refine x_aload_n C dX4_colour_64 rfl 1 rfl ?_
        refine x_get C hK in_X4_colour_X4 0 rfl rfl 1 (by decide) (by decide +kernel) rfl rfl dX4_colour_65 ?_
        refine x_getN C hK hNW in_X4_colour_X3 4 rfl rfl 1 (by decide) 30 rfl rfl rfl dX4_colour_68 ?_
        refine x_iload_n C dX4_colour_71 rfl 2 rfl ?_
        refine x_iald C hK 6 0 rfl hI (by omega) (by omega) dX4_colour_72 ?_
        refine x_iret C hK hlk hrt hQ hH0 hAA () ?_ [0, 1, 2, 3, 4, 5, 6, 7] (by decide) rfl (by first | decide | omega) (by first | decide | omega) dX4_colour_73
        first | (rw [if_pos (bI_ne0 (by assumption))]; done) | exact (if_neg (fun q => absurd (q.symm.trans (bI_eq0 (by assumption))) (by decide))).symm
      ·
        refine x_aload_n C dX4_colour_52 rfl 1 rfl ?_
        refine x_get C hK in_X4_colour_X4 0 rfl rfl 0 (by decide) (by decide +kernel) rfl rfl dX4_colour_53 ?_
        refine x_getN C hK hNW in_X4_colour_X3 1 rfl rfl 1 (by decide) 30 rfl rfl rfl dX4_colour_56 ?_
        refine x_iload_n C dX4_colour_59 rfl 3 rfl ?_
        refine x_iald C hK 3 0 rfl hI (by omega) (by omega) dX4_colour_60 ?_
        refine x_goto C 73 dX4_colour_61 (by decide) ?_
        refine x_iret C hK hlk hrt hQ hH0 hAA () ?_ [0, 1, 2, 3, 4, 5, 6, 7] (by decide) rfl (by first | decide | omega) (by first | decide | omega) dX4_colour_73
        first | (rw [if_pos (bI_ne0 (by assumption))]; done) | exact (if_neg (fun q => absurd (q.symm.trans (bI_eq0 (by assumption))) (by decide))).symm
    ·
      exact absurd ((bI_eq0 h_6).symm.trans ((below_n (j := en) (b := nw) (by omega)).trans (decide_eq_true (by omega)))) (by decide)
abbrev rm_colourX : Room := { frames := 6, cells := 1, slots := 6, locals := 81 }
set_option maxRecDepth 100000 in
set_option maxHeartbeats 4000000 in
theorem c_colourX (l : Launch) (hl0 : l.stackTraces = false) (D : va_G) (tys : List (ClassId × FieldType)) (cI cJ : ClassId) (hI : tys[0]? = some (cI, .int)) (hJ : tys[1]? = some (cJ, .long)) (x : Nat) (qw : Nat) (qv : Nat) (qt : Nat) (ri : Int32) (qd : Nat) (qc : Nat) (ql : Nat) (wa : Nat) (wo : Nat) (nw : Nat) (bw : Nat → Int32) (cw : Nat → Int32) (pa : Nat) (po : Nat) (np : Nat) (bp : Nat → Int32) (cp : Nat → Int32) (pk : Int32) (en : Int32) (hnw : nw ≤ 40) (hnp : np ≤ 40) (hx : ¬ (below pk np = true ∧ below en nw = true)) : XI l yX4_colour wsX4_colour rm_colourX D tys [.ref x, .int pk, .int en] [(x, OB 4 [.ref qw, .ref qv, .ref qt, .int ri, .ref qd, .ref qc, .ref ql]), (qw, OB 3 [.ref wa, .ref wo, .int (nI nw)]), (wa, AI cI 40 bw), (wo, AI cI 40 cw), (qv, OB 3 [.ref pa, .ref po, .int (nI np)]), (pa, AI cI 40 bp), (po, AI cI 40 cp)] Unit (fun _ _ => False) (fun _ => [(x, OB 4 [.ref qw, .ref qv, .ref qt, .int ri, .ref qd, .ref qc, .ref ql]), (qw, OB 3 [.ref wa, .ref wo, .int (nI nw)]), (wa, AI cI 40 bw), (wo, AI cI 40 cw), (qv, OB 3 [.ref pa, .ref po, .int (nI np)]), (pa, AI cI 40 bp), (po, AI cI 40 cp)]) [(x, OB 4 [.ref qw, .ref qv, .ref qt, .int ri, .ref qd, .ref qc, .ref ql]), (qw, OB 3 [.ref wa, .ref wo, .int (nI nw)]), (wa, AI cI 40 bw), (wo, AI cI 40 cw), (qv, OB 3 [.ref pa, .ref po, .int (nI np)]), (pa, AI cI 40 bp), (po, AI cI 40 cp)] (fun E => E = "java/lang/IndexOutOfBoundsException") 1 6 := by
  intro sz
  refine x_metX (cc := cX4_colour) (maxL := 4) (ret := (some .int)) (by decide +kernel) rfl (by show _ ≤ _; simp [lg_sl, Value.category]) [(0, .ref x), (1, .int pk), (2, .int en)] rfl ?_
  intro p e s m args below meth c Q A H0 C hK hNW hlk hrt hnm hQ hH0 hAA hA hZ htab
  refine x_aload_n C dX4_colour_0 rfl 0 rfl ?_
  refine x_get C hK in_X4_colour_X4 0 rfl rfl 1 (by decide) (by decide +kernel) rfl rfl dX4_colour_1 ?_
  refine x_iload_n C dX4_colour_4 rfl 1 rfl ?_
  refine x_calli (x_runVN C hK hNW (c_tr_has l D tys cI cJ hI hJ qv pa po np bp cp pk (by first | omega | assumption)) ⟨va_cnB 1 C.2.2.2.2 gX4_colour_X3_has_n80 rfl rfl rfl (hNW.at 21 rfl) (C.2.2.2.2 (.initialized RX3) (by decide +kernel)) (by decide +kernel) ⟨by decide, by decide⟩, C.2.2.2.2 (.instanceMethod yX3_has) (by decide +kernel), C.2.2.2.2 (.selects RX3 yX3_has yX3_has) (by decide +kernel)⟩ [4, 5, 6] rfl (by decide) 4 3 rfl rfl rfl (st := []) rfl rfl (Nat.le_of_ble_eq_true rfl) dX4_colour_5 ⟨by first | decide | omega, by first | decide | omega⟩) hA [4, 5, 6] rfl [0, 1, 2, 3] [(x, OB 4 [.ref qw, .ref qv, .ref qt, .int ri, .ref qd, .ref qc, .ref ql]), (qw, OB 3 [.ref wa, .ref wo, .int (nI nw)]), (wa, AI cI 40 bw), (wo, AI cI 40 cw)] rfl (by decide) (by decide) [0, 1, 2, 3, 4, 5, 6] (by decide) (wf := (fun (u : Unit) => [(x, OB 4 [.ref qw, .ref qv, .ref qt, .int ri, .ref qd, .ref qc, .ref ql]), (qw, OB 3 [.ref wa, .ref wo, .int (nI nw)]), (wa, AI cI 40 bw), (wo, AI cI 40 cw), (qv, OB 3 [.ref pa, .ref po, .int (nI np)]), (pa, AI cI 40 bp), (po, AI cI 40 cp)])) (fun _ => rfl) (fun r_1 u h_2 => ?_)
  subst h_2
  refine x_if_eq C 22 dX4_colour_8 (by decide) (fun h_3 => ?_) (fun h_3 => ?_)
  ·
    exact x_throw0 C hK hNW hl0 hlk htab hQ hH0 hAA hZ (cls := "java/lang/IndexOutOfBoundsException") (names := ["java/lang/RuntimeException", "java/lang/Exception"]) (ik := 69) (ic := 71) (S := Unit) (by decide +kernel) (by decide +kernel) (by decide +kernel) (by decide +kernel) (by decide +kernel) (by decide +kernel) (by decide +kernel) dX4_colour_22 dX4_colour_25 dX4_colour_26 dX4_colour_29 (by decide) (by decide) (by decide) (by decide) rfl [0, 1, 2, 3, 4, 5, 6] (by decide) rfl (by decide) (by decide)
  ·
    refine x_aload_n C dX4_colour_11 rfl 0 rfl ?_
    refine x_get C hK in_X4_colour_X4 0 rfl rfl 0 (by decide) (by decide +kernel) rfl rfl dX4_colour_12 ?_
    refine x_iload_n C dX4_colour_15 rfl 2 rfl ?_
    refine x_calli (x_runVN C hK hNW (c_tr_has l D tys cI cJ hI hJ qw wa wo nw bw cw en (by first | omega | assumption)) ⟨va_cnB 1 C.2.2.2.2 gX4_colour_X3_has_n80 rfl rfl rfl (hNW.at 21 rfl) (C.2.2.2.2 (.initialized RX3) (by decide +kernel)) (by decide +kernel) ⟨by decide, by decide⟩, C.2.2.2.2 (.instanceMethod yX3_has) (by decide +kernel), C.2.2.2.2 (.selects RX3 yX3_has yX3_has) (by decide +kernel)⟩ [1, 2, 3] rfl (by decide) 1 3 rfl rfl rfl (st := []) rfl rfl (Nat.le_of_ble_eq_true rfl) dX4_colour_16 ⟨by first | decide | omega, by first | decide | omega⟩) hA [1, 2, 3] rfl [0, 4, 5, 6] [(x, OB 4 [.ref qw, .ref qv, .ref qt, .int ri, .ref qd, .ref qc, .ref ql]), (qv, OB 3 [.ref pa, .ref po, .int (nI np)]), (pa, AI cI 40 bp), (po, AI cI 40 cp)] rfl (by decide) (by decide) [0, 4, 5, 6, 1, 2, 3] (by decide) (wf := (fun (u : Unit) => [(x, OB 4 [.ref qw, .ref qv, .ref qt, .int ri, .ref qd, .ref qc, .ref ql]), (qw, OB 3 [.ref wa, .ref wo, .int (nI nw)]), (wa, AI cI 40 bw), (wo, AI cI 40 cw), (qv, OB 3 [.ref pa, .ref po, .int (nI np)]), (pa, AI cI 40 bp), (po, AI cI 40 cp)])) (fun _ => rfl) (fun r_4 u h_5 => ?_)
    subst h_5
    refine x_if_ne C 30 dX4_colour_19 (by decide) (fun h_6 => ?_) (fun h_6 => ?_)
    ·
      exact absurd ⟨bI_ne0 (by assumption), bI_ne0 h_6⟩ hx
    ·
      exact x_throw0 C hK hNW hl0 hlk htab hQ hH0 hAA hZ (cls := "java/lang/IndexOutOfBoundsException") (names := ["java/lang/RuntimeException", "java/lang/Exception"]) (ik := 69) (ic := 71) (S := Unit) (by decide +kernel) (by decide +kernel) (by decide +kernel) (by decide +kernel) (by decide +kernel) (by decide +kernel) (by decide +kernel) dX4_colour_22 dX4_colour_25 dX4_colour_26 dX4_colour_29 (by decide) (by decide) (by decide) (by decide) rfl [0, 1, 2, 3, 4, 5, 6] (by decide) rfl (by decide) (by decide)
