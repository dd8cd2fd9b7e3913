/-! LoomDraft, first part -/
theorem in_X4_rowOf_X4 : ∀ w ∈ wsX40, w ∈ wsX4_rowOf := by decide +kernel
theorem in_X4_shaftsMovedFor_X3 : ∀ w ∈ wsX30, w ∈ wsX4_shaftsMovedFor := by decide +kernel
theorem in_X4_shaftsMovedFor_X4 : ∀ w ∈ wsX40, w ∈ wsX4_shaftsMovedFor := by decide +kernel
theorem in_X4_shaftsUpAt_X3 : ∀ w ∈ wsX30, w ∈ wsX4_shaftsUpAt := by decide +kernel
theorem in_X4_shaftsUpAt_X4 : ∀ w ∈ wsX40, w ∈ wsX4_shaftsUpAt := by decide +kernel
theorem in_X4_weave_X0 : ∀ w ∈ wsX00, w ∈ wsX4_weave := by decide +kernel
theorem in_X4_weave_X3 : ∀ w ∈ wsX30, w ∈ wsX4_weave := by decide +kernel
theorem in_X4_weave_X4 : ∀ w ∈ wsX40, w ∈ wsX4_weave := by decide +kernel
theorem in_X4_setRising_X4 : ∀ w ∈ wsX40, w ∈ wsX4_setRising := by decide +kernel
theorem in_X4_count_X3 : ∀ w ∈ wsX30, w ∈ wsX4_count := by decide +kernel
theorem in_X4_count_X4 : ∀ w ∈ wsX40, w ∈ wsX4_count := by decide +kernel
theorem in_X4_reverse_X3 : ∀ w ∈ wsX30, w ∈ wsX4_reverse := by decide +kernel
theorem in_X4_reverse_X4 : ∀ w ∈ wsX40, w ∈ wsX4_reverse := by decide +kernel
theorem in_X4_rotate_X3 : ∀ w ∈ wsX30, w ∈ wsX4_rotate := by decide +kernel
theorem in_X4_rotate_X4 : ∀ w ∈ wsX40, w ∈ wsX4_rotate := by decide +kernel
theorem in_X4_repeat_X3 : ∀ w ∈ wsX30, w ∈ wsX4_repeat := by decide +kernel
theorem in_X4_repeat_X4 : ∀ w ∈ wsX40, w ∈ wsX4_repeat := by decide +kernel
theorem in_X4_cut_X3 : ∀ w ∈ wsX30, w ∈ wsX4_cut := by decide +kernel
theorem in_X4_cut_X4 : ∀ w ∈ wsX40, w ∈ wsX4_cut := by decide +kernel
abbrev rm_rowOf1 : Room := { frames := 0, cells := 0, slots := 0, locals := 0 }
set_option maxRecDepth 100000 in
set_option maxHeartbeats 4000000 in
theorem c_rowOf1 (l : Launch) (D : va_G) (tys : List (ClassId × FieldType)) (cI cJ : ClassId) (hI : tys[0]? = some (cI, .int)) (hJ : tys[1]? = some (cJ, .long)) (x : Nat) (qw : Nat) (qv : Nat) (qt : Nat) (ri : Int32) (qd : Nat) (qc : Nat) (ql : Nat)  : MRq l yX4_rowOf wsX4_rowOf rm_rowOf1 D tys [.ref x, .int (nI 1)] [(x, OB 4 [.ref qw, .ref qv, .ref qt, .int ri, .ref qd, .ref qc, .ref ql])] qw 0 0 := by
  intro sz
  refine x_met (cc := cX4_rowOf) (maxL := 2) (ret := (some (.object "LoomDraft$ThreadRow"))) (by decide +kernel) rfl (by show _ ≤ _; simp [lg_sl, Value.category]) [(0, .ref x), (1, .int (nI 1))] rfl ?_
  intro p e s m args below meth c Q A H0 C hK hNW hlk hrt hnm hQ hH0 hAA hA
  refine x_iload_n C dX4_rowOf_0 rfl 1 rfl ?_
  refine xn_if_eq C 11 (by omega) dX4_rowOf_1 (by decide) (fun h_1 => ?_) (fun h_1 => ?_)
  ·
    exact absurd h_1 (by first | decide | omega)
  ·
    refine x_aload_n C dX4_rowOf_4 rfl 0 rfl ?_
    refine x_get C hK in_X4_rowOf_X4 0 rfl rfl 0 (by decide) (by decide +kernel) rfl rfl dX4_rowOf_5 ?_
    refine x_goto C 15 dX4_rowOf_8 (by decide) ?_
    exact x_aretq C hK hlk hrt (by first | exact Or.inl ⟨_, rfl⟩ | exact Or.inr ⟨_, rfl⟩) hQ hH0 hAA rfl [0] (by decide) rfl (by first | decide | omega) (by first | decide | omega) dX4_rowOf_15
abbrev rm_rowOf0 : Room := { frames := 0, cells := 0, slots := 0, locals := 0 }
set_option maxRecDepth 100000 in
set_option maxHeartbeats 4000000 in
theorem c_rowOf0 (l : Launch) (D : va_G) (tys : List (ClassId × FieldType)) (cI cJ : ClassId) (hI : tys[0]? = some (cI, .int)) (hJ : tys[1]? = some (cJ, .long)) (x : Nat) (qw : Nat) (qv : Nat) (qt : Nat) (ri : Int32) (qd : Nat) (qc : Nat) (ql : Nat)  : MRq l yX4_rowOf wsX4_rowOf rm_rowOf0 D tys [.ref x, .int (nI 0)] [(x, OB 4 [.ref qw, .ref qv, .ref qt, .int ri, .ref qd, .ref qc, .ref ql])] qv 0 0 := by
  intro sz
  refine x_met (cc := cX4_rowOf) (maxL := 2) (ret := (some (.object "LoomDraft$ThreadRow"))) (by decide +kernel) rfl (by show _ ≤ _; simp [lg_sl, Value.category]) [(0, .ref x), (1, .int (nI 0))] rfl ?_
  intro p e s m args below meth c Q A H0 C hK hNW hlk hrt hnm hQ hH0 hAA hA
  refine x_iload_n C dX4_rowOf_0 rfl 1 rfl ?_
  refine xn_if_eq C 11 (by omega) dX4_rowOf_1 (by decide) (fun h_1 => ?_) (fun h_1 => ?_)
  ·
    refine x_aload_n C dX4_rowOf_11 rfl 0 rfl ?_
    refine x_get C hK in_X4_rowOf_X4 0 rfl rfl 1 (by decide) (by decide +kernel) rfl rfl dX4_rowOf_12 ?_
    exact x_aretq C hK hlk hrt (by first | exact Or.inl ⟨_, rfl⟩ | exact Or.inr ⟨_, rfl⟩) hQ hH0 hAA rfl [0] (by decide) rfl (by first | decide | omega) (by first | decide | omega) dX4_rowOf_15
  ·
    exact absurd h_1 (by first | decide | omega)
abbrev rm_moved : Room := { frames := 1, cells := 0, slots := 0, locals := 22 }
set_option maxRecDepth 100000 in
set_option maxHeartbeats 4000000 in
theorem c_moved (l : Launch) (D : va_G) (tys : List (ClassId × FieldType)) (cI cJ : ClassId) (hI : tys[0]? = some (cI, .int)) (hJ : tys[1]? = some (cJ, .long)) (x : Nat) (qw : Nat) (qv : Nat) (qt : Nat) (ri : Int32) (qd : Nat) (qc : Nat) (ql : Nat) (pa : Nat) (po : Nat) (np : Nat) (bp : Nat → Int32) (cp : Nat → Int32) (ti : Nat → Int32) (pk : Nat) (hpk : pk < 40) : MI l yX4_shaftsMovedFor wsX4_shaftsMovedFor rm_moved D tys [.ref x, .int (nI pk)] [(x, OB 4 [.ref qw, .ref qv, .ref qt, .int ri, .ref qd, .ref qc, .ref ql]), (qv, OB 3 [.ref pa, .ref po, .int (nI np)]), (pa, AI cI 40 bp), (po, AI cI 40 cp), (qt, AI cI 10 ti)] Unit (fun r (_ : Unit) => r = mvF (bp pk) ti 10) (fun (_ : Unit) => [(x, OB 4 [.ref qw, .ref qv, .ref qt, .int ri, .ref qd, .ref qc, .ref ql]), (qv, OB 3 [.ref pa, .ref po, .int (nI np)]), (pa, AI cI 40 bp), (po, AI cI 40 cp), (qt, AI cI 10 ti)]) 0 0 := by
  intro sz
  refine x_met (cc := cX4_shaftsMovedFor) (maxL := 4) (ret := (some .int)) (by decide +kernel) rfl (by show _ ≤ _; simp [lg_sl, Value.category]) [(0, .ref x), (1, .int (nI pk))] rfl ?_
  intro p e s m args below meth c Q A H0 C hK hNW hlk hrt hnm hQ hH0 hAA hA
  refine x_iconst C (nI 0) dX4_shaftsMovedFor_0 (by decide +kernel) ?_
  refine x_istore_n C [(2, .int (nI 0)), (0, .ref x), (1, .int (nI pk))] dX4_shaftsMovedFor_1 rfl (by decide) rfl ?_
  refine x_iconst C (nI 0) dX4_shaftsMovedFor_2 (by decide +kernel) ?_
  refine x_istore_n C [(3, .int (nI 0)), (2, .int (nI 0)), (0, .ref x), (1, .int (nI pk))] dX4_shaftsMovedFor_3 rfl (by decide) rfl ?_
  have K_1 : ∀ (fuel : Nat) (i : Nat), (i ≤ 10) → 10 - i < fuel → X_ p l e rm_moved s m args below meth c Q D A H0 4 0 0 [(x, OB 4 [.ref qw, .ref qv, .ref qt, .int ri, .ref qd, .ref qc, .ref ql]), (qv, OB 3 [.ref pa, .ref po, .int (nI np)]), (pa, AI cI 40 bp), (po, AI cI 40 cp), (qt, AI cI 10 ti)] [(0, .ref x), (1, .int (nI pk)), (2, .int (mvF (bp pk) ti i)), (3, .int (nI i))] 4 [] := by
    intro fuel
    induction fuel with
    | zero =>
      intros
      exact absurd (by assumption) (Nat.not_lt_zero _)
    | succ fuel ih_K_1 =>
      intro i hi hm_2
      refine x_iload_n C dX4_shaftsMovedFor_4 rfl 3 rfl ?_
      refine x_bipush C (nI 10) dX4_shaftsMovedFor_5 (by decide +kernel) ?_
      refine xn_icmp_ge C 42 (by omega) (by omega) dX4_shaftsMovedFor_7 (by decide) (fun h_3 => ?_) (fun h_3 => ?_)
      ·
        have heq_i : i = 10 := by omega
        subst heq_i
        refine x_iload_n C dX4_shaftsMovedFor_42 rfl 2 rfl ?_
        refine x_iret C hK hlk hrt hQ hH0 hAA () ?_ [0, 1, 2, 3, 4] (by decide) rfl (by first | decide | omega) (by first | decide | omega) dX4_shaftsMovedFor_43
        first | rfl | (exact ⟨rfl, rfl⟩) | trivial | assumption | omega
      ·
        refine x_aload_n C dX4_shaftsMovedFor_10 rfl 0 rfl ?_
        refine x_get C hK in_X4_shaftsMovedFor_X4 0 rfl rfl 1 (by decide) (by decide +kernel) rfl rfl dX4_shaftsMovedFor_11 ?_
        refine x_getN C hK hNW in_X4_shaftsMovedFor_X3 1 rfl rfl 0 (by decide) 29 rfl rfl rfl dX4_shaftsMovedFor_14 ?_
        refine x_iload_n C dX4_shaftsMovedFor_17 rfl 1 rfl ?_
        refine x_iald C hK 2 0 rfl hI (by omega) (by omega) dX4_shaftsMovedFor_18 ?_
        refine x_i2l C _ dX4_shaftsMovedFor_19 rfl ?_
        refine x_iload_n C dX4_shaftsMovedFor_20 rfl 3 rfl ?_
        refine x_calli (x_runS C hK hNW (c_hasBit l D tys cI cJ hI hJ ((bp pk).toInt64) (nI i) ) (va_cwS 2 C.2.2.2.2 gX4_shaftsMovedFor_X4_hasBit rfl rfl rfl (by decide +kernel) ⟨by decide, by decide⟩) [] rfl (by decide) (st := []) rfl rfl (Nat.le_of_ble_eq_true rfl) dX4_shaftsMovedFor_21 ⟨by first | decide | omega, by first | decide | omega⟩) hA [] rfl [0, 1, 2, 3, 4] [(x, OB 4 [.ref qw, .ref qv, .ref qt, .int ri, .ref qd, .ref qc, .ref ql]), (qv, OB 3 [.ref pa, .ref po, .int (nI np)]), (pa, AI cI 40 bp), (po, AI cI 40 cp), (qt, AI cI 10 ti)] rfl (by decide) (by decide) [0, 1, 2, 3, 4] (by decide) (wf := (fun (u : Unit) => [(x, OB 4 [.ref qw, .ref qv, .ref qt, .int ri, .ref qd, .ref qc, .ref ql]), (qv, OB 3 [.ref pa, .ref po, .int (nI np)]), (pa, AI cI 40 bp), (po, AI cI 40 cp), (qt, AI cI 10 ti)])) (fun _ => rfl) (fun r_4 u h_5 => ?_)
        subst h_5
        refine x_if_eq C 36 dX4_shaftsMovedFor_24 (by decide) (fun h_6 => ?_) (fun h_6 => ?_)
        ·
          refine xn_iinc C (i + 1) [(3, .int (nI (i + 1))), (0, .ref x), (1, .int (nI pk)), (2, .int (mvF (bp pk) ti i))] dX4_shaftsMovedFor_36 3 rfl (by rw [show Int32.ofInt 1 = nI 1 from by decide +kernel]; exact nI_add _ _) (by decide) rfl ?_
          refine x_goto C 4 dX4_shaftsMovedFor_39 (by decide) ?_
          refine x_lv [(0, .ref x), (1, .int (nI pk)), (2, .int (mvF (bp pk) ti (i + 1))), (3, .int (nI (i + 1)))] [1, 2, 3, 0] (by rw [show mvF (bp pk) ti (i + 1) = mvF (bp pk) ti i from by first | exact mvF_y (bI_ne0 (by assumption)) | exact mvF_n (bI_eq0 (by assumption))]; rfl) ?_
          exact ih_K_1 (i + 1) (by first | assumption | omega) (by omega)
        ·
          refine x_iload_n C dX4_shaftsMovedFor_27 rfl 2 rfl ?_
          refine x_aload_n C dX4_shaftsMovedFor_28 rfl 0 rfl ?_
          refine x_get C hK in_X4_shaftsMovedFor_X4 0 rfl rfl 2 (by decide) (by decide +kernel) rfl rfl dX4_shaftsMovedFor_29 ?_
          refine x_iload_n C dX4_shaftsMovedFor_32 rfl 3 rfl ?_
          refine x_iald C hK 4 0 rfl hI (by omega) (by omega) dX4_shaftsMovedFor_33 ?_
          refine x_ior C _ dX4_shaftsMovedFor_34 rfl ?_
          refine x_istore_n C [(2, .int ((mvF (bp pk) ti i) ||| (ti i))), (0, .ref x), (1, .int (nI pk)), (3, .int (nI i))] dX4_shaftsMovedFor_35 rfl (by decide) rfl ?_
          refine xn_iinc C (i + 1) [(3, .int (nI (i + 1))), (2, .int ((mvF (bp pk) ti i) ||| (ti i))), (0, .ref x), (1, .int (nI pk))] dX4_shaftsMovedFor_36 3 rfl (by rw [show Int32.ofInt 1 = nI 1 from by decide +kernel]; exact nI_add _ _) (by decide) rfl ?_
          refine x_goto C 4 dX4_shaftsMovedFor_39 (by decide) ?_
          refine x_lv [(0, .ref x), (1, .int (nI pk)), (2, .int (mvF (bp pk) ti (i + 1))), (3, .int (nI (i + 1)))] [2, 3, 1, 0] (by rw [show mvF (bp pk) ti (i + 1) = (mvF (bp pk) ti i) ||| (ti i) from by first | exact mvF_y (bI_ne0 (by assumption)) | exact mvF_n (bI_eq0 (by assumption))]; rfl) ?_
          exact ih_K_1 (i + 1) (by first | assumption | omega) (by omega)
  refine x_lv [(0, .ref x), (1, .int (nI pk)), (2, .int (mvF (bp pk) ti 0)), (3, .int (nI 0))] [2, 3, 1, 0] (by rw [show mvF (bp pk) ti 0 = nI 0 from by rfl]; rfl) ?_
  exact K_1 (10 - 0 + 1) 0 (by first | assumption | omega) (Nat.lt_succ_self _)
abbrev rm_upAt : Room := { frames := 2, cells := 0, slots := 0, locals := 45 }
set_option maxRecDepth 100000 in
set_option maxHeartbeats 4000000 in
theorem c_upAt (l : Launch) (D : va_G) (tys : List (ClassId × FieldType)) (cI cJ : ClassId) (hI : tys[0]? = some (cI, .int)) (hJ : tys[1]? = some (cJ, .long)) (x : Nat) (qw : Nat) (qv : Nat) (qt : Nat) (ri : Int32) (qd : Nat) (qc : Nat) (ql : Nat) (pa : Nat) (po : Nat) (np : Nat) (bp : Nat → Int32) (cp : Nat → Int32) (ti : Nat → Int32) (pk : Nat) (hpk : pk < 40) : ML l yX4_shaftsUpAt wsX4_shaftsUpAt rm_upAt D tys [.ref x, .int (nI pk)] [(x, OB 4 [.ref qw, .ref qv, .ref qt, .int ri, .ref qd, .ref qc, .ref ql]), (qv, OB 3 [.ref pa, .ref po, .int (nI np)]), (pa, AI cI 40 bp), (po, AI cI 40 cp), (qt, AI cI 10 ti)] Unit (fun r (_ : Unit) => r = suA ri ti (bp pk)) (fun (_ : Unit) => [(x, OB 4 [.ref qw, .ref qv, .ref qt, .int ri, .ref qd, .ref qc, .ref ql]), (qv, OB 3 [.ref pa, .ref po, .int (nI np)]), (pa, AI cI 40 bp), (po, AI cI 40 cp), (qt, AI cI 10 ti)]) 0 0 := by
  intro sz
  refine x_met (cc := cX4_shaftsUpAt) (maxL := 3) (ret := (some .long)) (by decide +kernel) rfl (by show _ ≤ _; simp [lg_sl, Value.category]) [(0, .ref x), (1, .int (nI pk))] rfl ?_
  intro p e s m args below meth c Q A H0 C hK hNW hlk hrt hnm hQ hH0 hAA hA
  refine x_aload_n C dX4_shaftsUpAt_0 rfl 0 rfl ?_
  refine x_iload_n C dX4_shaftsUpAt_1 rfl 1 rfl ?_
  refine x_calli (x_runV C hK hNW (c_moved l D tys cI cJ hI hJ x qw qv qt ri qd qc ql pa po np bp cp ti pk (by first | omega | assumption)) (cwV 1 C.2.2.2.2 gX4_shaftsUpAt_X4_shaftsMovedFor rfl rfl rfl (by decide +kernel) ⟨by decide, by decide⟩) [0, 1, 2, 3, 4] rfl (by decide) 0 4 rfl rfl rfl (st := []) rfl rfl (Nat.le_of_ble_eq_true rfl) dX4_shaftsUpAt_2 ⟨by first | decide | omega, by first | decide | omega⟩) hA [0, 1, 2, 3, 4] rfl [] [] rfl (by decide) (by decide) [0, 1, 2, 3, 4] (by decide) (wf := (fun (u : Unit) => [(x, OB 4 [.ref qw, .ref qv, .ref qt, .int ri, .ref qd, .ref qc, .ref ql]), (qv, OB 3 [.ref pa, .ref po, .int (nI np)]), (pa, AI cI 40 bp), (po, AI cI 40 cp), (qt, AI cI 10 ti)])) (fun _ => rfl) (fun r_1 u h_2 => ?_)
  subst h_2
  refine x_istore_n C [(2, .int (mvF (bp pk) ti 10)), (0, .ref x), (1, .int (nI pk))] dX4_shaftsUpAt_5 rfl (by decide) rfl ?_
  refine x_aload_n C dX4_shaftsUpAt_6 rfl 1 rfl ?_
  refine x_get C hK in_X4_shaftsUpAt_X4 0 rfl rfl 3 (by decide) (by decide +kernel) rfl rfl dX4_shaftsUpAt_7 ?_
  refine x_if_eq C 18 dX4_shaftsUpAt_10 (by decide) (fun h_3 => ?_) (fun h_3 => ?_)
  ·
    refine x_bipush C (nI 8) dX4_shaftsUpAt_18 (by decide +kernel) ?_
    refine x_calll (x_runS C hK hNW (c_allOf l D tys cI cJ hI hJ (nI 8) ) (va_cwS 1 C.2.2.2.2 gX4_shaftsUpAt_X4_allOf rfl rfl rfl (by decide +kernel) ⟨by decide, by decide⟩) [] rfl (by decide) (st := []) rfl rfl (Nat.le_of_ble_eq_true rfl) dX4_shaftsUpAt_20 ⟨by first | decide | omega, by first | decide | omega⟩) hA [] rfl [0, 1, 2, 3, 4] [(x, OB 4 [.ref qw, .ref qv, .ref qt, .int ri, .ref qd, .ref qc, .ref ql]), (qv, OB 3 [.ref pa, .ref po, .int (nI np)]), (pa, AI cI 40 bp), (po, AI cI 40 cp), (qt, AI cI 10 ti)] rfl (by decide) (by decide) [0, 1, 2, 3, 4] (by decide) (wf := (fun (u : Unit) => [(x, OB 4 [.ref qw, .ref qv, .ref qt, .int ri, .ref qd, .ref qc, .ref ql]), (qv, OB 3 [.ref pa, .ref po, .int (nI np)]), (pa, AI cI 40 bp), (po, AI cI 40 cp), (qt, AI cI 10 ti)])) (fun _ => rfl) (fun r_4 u h_5 => ?_)
    subst h_5
    refine x_iload_n C dX4_shaftsUpAt_23 rfl 0 rfl ?_
    refine x_iconst C (-1 : Int32) dX4_shaftsUpAt_24 (by decide +kernel) ?_
    refine x_ixor C _ dX4_shaftsUpAt_25 rfl ?_
    refine x_i2l C _ dX4_shaftsUpAt_26 rfl ?_
    refine x_land C _ dX4_shaftsUpAt_27 rfl ?_
    refine x_lret C hK hlk hrt hQ hH0 hAA () ?_ [0, 1, 2, 3, 4] (by decide) rfl (by first | decide | omega) (by first | decide | omega) dX4_shaftsUpAt_28
    unfold suA
    first | (rw [if_pos (by assumption)]; done) | (rw [if_neg (by assumption)]; done)
  ·
    refine x_iload_n C dX4_shaftsUpAt_13 rfl 0 rfl ?_
    refine x_i2l C _ dX4_shaftsUpAt_14 rfl ?_
    refine x_goto C 28 dX4_shaftsUpAt_15 (by decide) ?_
    refine x_lret C hK hlk hrt hQ hH0 hAA () ?_ [0, 1, 2, 3, 4] (by decide) rfl (by first | decide | omega) (by first | decide | omega) dX4_shaftsUpAt_28
    unfold suA
    first | (rw [if_pos (by assumption)]; done) | (rw [if_neg (by assumption)]; done)
abbrev rm_weave : Room := { frames := 3, cells := 0, slots := 0, locals := 67 }
set_option maxRecDepth 100000 in
set_option maxHeartbeats 4000000 in
theorem c_weave (l : Launch) (D : va_G) (tys : List (ClassId × FieldType)) (cI cJ : ClassId) (hI : tys[0]? = some (cI, .int)) (hJ : tys[1]? = some (cJ, .long)) (x : Nat) (qw : Nat) (qv : Nat) (qt : Nat) (ri : Int32) (qd : Nat) (qc : Nat) (ql : Nat) (wa : Nat) (wo : Nat) (nw : Nat) (bw : Nat → Int32) (cw : Nat → Int32) (pa : Nat) (po : Nat) (np : Nat) (bp : Nat → Int32) (cp : Nat → Int32) (ti : Nat → Int32) (ce : Nat) (cf : Nat) (ven : Int32) (vpn : Int32) (fe : Nat → Int64) (ff : Nat → Int32) (hnw : nw ≤ 40) (hnp : np ≤ 40) : MV l yX4_weave wsX4_weave rm_weave D tys [.ref x] [(x, OB 4 [.ref qw, .ref qv, .ref qt, .int ri, .ref qd, .ref qc, .ref ql]), (qw, OB 3 [.ref wa, .ref wo, .int (nI nw)]), (wa, AI cI 40 bw), (wo, AI cI 40 cw), (qv, OB 3 [.ref pa, .ref po, .int (nI np)]), (pa, AI cI 40 bp), (po, AI cI 40 cp), (qt, AI cI 10 ti), (qc, OB 0 [.ref ce, .ref cf, .int ven, .int vpn]), (ce, AJ cJ 40 fe), (cf, AI cI 41 ff)] Unit (fun (_ : Unit) => True) (fun (_ : Unit) => [(x, OB 4 [.ref qw, .ref qv, .ref qt, .int ri, .ref qd, .ref qc, .ref ql]), (qw, OB 3 [.ref wa, .ref wo, .int (nI nw)]), (wa, AI cI 40 bw), (wo, AI cI 40 cw), (qv, OB 3 [.ref pa, .ref po, .int (nI np)]), (pa, AI cI 40 bp), (po, AI cI 40 cp), (qt, AI cI 10 ti), (qc, OB 0 [.ref ce, .ref cf, .int (nI nw), .int (nI np)]), (ce, AJ cJ 40 (wvF ri ti bp bw nw fe np)), (cf, AI cI 41 ff)]) 0 0 := by
  intro sz
  refine x_met (cc := cX4_weave) (maxL := 7) (ret := none) (by decide +kernel) rfl (by show _ ≤ _; simp [lg_sl, Value.category]) [(0, .ref x)] rfl ?_
  intro p e s m args below meth c Q A H0 C hK hNW hlk hrt hnm hQ hH0 hAA hA
  refine x_aload_n C dX4_weave_0 rfl 0 rfl ?_
  refine x_get C hK in_X4_weave_X4 0 rfl rfl 5 (by decide) (by decide +kernel) rfl rfl dX4_weave_1 ?_
  refine x_aload_n C dX4_weave_4 rfl 0 rfl ?_
  refine x_get C hK in_X4_weave_X4 0 rfl rfl 0 (by decide) (by decide +kernel) rfl rfl dX4_weave_5 ?_
  refine x_getN C hK hNW in_X4_weave_X3 1 rfl rfl 2 (by decide) 31 rfl rfl rfl dX4_weave_8 ?_
  refine x_putN C hK hNW in_X4_weave_X0 tyX0 tyX0_ok nmX0 8 rfl rfl 2 (by decide) 40 rfl rfl rfl (tyX0_ok 2 (by decide)) rfl rfl (Nat.le_of_ble_eq_true rfl) [(x, OB 4 [.ref qw, .ref qv, .ref qt, .int ri, .ref qd, .ref qc, .ref ql]), (qw, OB 3 [.ref wa, .ref wo, .int (nI nw)]), (wa, AI cI 40 bw), (wo, AI cI 40 cw), (qv, OB 3 [.ref pa, .ref po, .int (nI np)]), (pa, AI cI 40 bp), (po, AI cI 40 cp), (qt, AI cI 10 ti), (qc, OB 0 [.ref ce, .ref cf, .int (nI nw), .int vpn]), (ce, AJ cJ 40 fe), (cf, AI cI 41 ff)] rfl dX4_weave_11 ?_
  refine x_aload_n C dX4_weave_14 rfl 0 rfl ?_
  refine x_get C hK in_X4_weave_X4 0 rfl rfl 5 (by decide) (by decide +kernel) rfl rfl dX4_weave_15 ?_
  refine x_aload_n C dX4_weave_18 rfl 0 rfl ?_
  refine x_get C hK in_X4_weave_X4 0 rfl rfl 1 (by decide) (by decide +kernel) rfl rfl dX4_weave_19 ?_
  refine x_getN C hK hNW in_X4_weave_X3 4 rfl rfl 2 (by decide) 31 rfl rfl rfl dX4_weave_22 ?_
  refine x_putN C hK hNW in_X4_weave_X0 tyX0 tyX0_ok nmX0 8 rfl rfl 3 (by decide) 42 rfl rfl rfl (tyX0_ok 3 (by decide)) rfl rfl (Nat.le_of_ble_eq_true rfl) [(x, OB 4 [.ref qw, .ref qv, .ref qt, .int ri, .ref qd, .ref qc, .ref ql]), (qw, OB 3 [.ref wa, .ref wo, .int (nI nw)]), (wa, AI cI 40 bw), (wo, AI cI 40 cw), (qv, OB 3 [.ref pa, .ref po, .int (nI np)]), (pa, AI cI 40 bp), (po, AI cI 40 cp), (qt, AI cI 10 ti), (qc, OB 0 [.ref ce, .ref cf, .int (nI nw), .int (nI np)]), (ce, AJ cJ 40 fe), (cf, AI cI 41 ff)] rfl dX4_weave_25 ?_
  refine x_iconst C (nI 0) dX4_weave_28 (by decide +kernel) ?_
  refine x_istore_n C [(1, .int (nI 0)), (0, .ref x)] dX4_weave_29 rfl (by decide) rfl ?_
  have LI_1 : ∀ (fuel : Nat) (i : Nat), (i ≤ np) → np - i < fuel → X_ p l e rm_weave s m args below meth c Q D A H0 7 0 0 [(x, OB 4 [.ref qw, .ref qv, .ref qt, .int ri, .ref qd, .ref qc, .ref ql]), (qw, OB 3 [.ref wa, .ref wo, .int (nI nw)]), (wa, AI cI 40 bw), (wo, AI cI 40 cw), (qv, OB 3 [.ref pa, .ref po, .int (nI np)]), (pa, AI cI 40 bp), (po, AI cI 40 cp), (qt, AI cI 10 ti), (qc, OB 0 [.ref ce, .ref cf, .int (nI nw), .int (nI np)]), (ce, AJ cJ 40 (wvF ri ti bp bw nw fe i)), (cf, AI cI 41 ff)] [(0, .ref x), (1, .int (nI i))] 30 [] := by
    intro fuel
    induction fuel with
    | zero =>
      intros
      exact absurd (by assumption) (Nat.not_lt_zero _)
    | succ fuel ih_LI_1 =>
      intro i hi hm_2
      refine x_iload_n C dX4_weave_30 rfl 1 rfl ?_
      refine x_aload_n C dX4_weave_31 rfl 0 rfl ?_
      refine x_get C hK in_X4_weave_X4 0 rfl rfl 1 (by decide) (by decide +kernel) rfl rfl dX4_weave_32 ?_
      refine x_getN C hK hNW in_X4_weave_X3 4 rfl rfl 2 (by decide) 31 rfl rfl rfl dX4_weave_35 ?_
      refine xn_icmp_ge C 114 (by omega) (by omega) dX4_weave_38 (by decide) (fun h_3 => ?_) (fun h_3 => ?_)
      ·
        have heq_i : np = i := by omega
        subst heq_i
        refine x_vret C hK hlk hrt hQ hH0 hAA () ?_ [0, 1, 2, 3, 4, 5, 6, 7, 8, 9, 10] (by decide) rfl (by first | decide | omega) (by first | decide | omega) dX4_weave_114
        first | rfl | (exact ⟨rfl, rfl⟩) | trivial | assumption | omega
      ·
        refine x_aload_n C dX4_weave_41 rfl 0 rfl ?_
        refine x_iload_n C dX4_weave_42 rfl 1 rfl ?_
        refine x_calll (x_runV C hK hNW (c_upAt l D tys cI cJ hI hJ x qw qv qt ri qd qc ql pa po np bp cp ti i (by first | omega | assumption)) (cwV 1 C.2.2.2.2 gX4_weave_X4_shaftsUpAt rfl rfl rfl (by decide +kernel) ⟨by decide, by decide⟩) [0, 4, 5, 6, 7] rfl (by decide) 0 4 rfl rfl rfl (st := []) rfl rfl (Nat.le_of_ble_eq_true rfl) dX4_weave_43 ⟨by first | decide | omega, by first | decide | omega⟩) hA [0, 4, 5, 6, 7] rfl [1, 2, 3, 8, 9, 10] [(qw, OB 3 [.ref wa, .ref wo, .int (nI nw)]), (wa, AI cI 40 bw), (wo, AI cI 40 cw), (qc, OB 0 [.ref ce, .ref cf, .int (nI nw), .int (nI np)]), (ce, AJ cJ 40 (wvF ri ti bp bw nw fe i)), (cf, AI cI 41 ff)] rfl (by decide) (by decide) [6, 0, 1, 2, 7, 8, 9, 10, 3, 4, 5] (by decide) (wf := (fun (u : Unit) => [(x, OB 4 [.ref qw, .ref qv, .ref qt, .int ri, .ref qd, .ref qc, .ref ql]), (qw, OB 3 [.ref wa, .ref wo, .int (nI nw)]), (wa, AI cI 40 bw), (wo, AI cI 40 cw), (qv, OB 3 [.ref pa, .ref po, .int (nI np)]), (pa, AI cI 40 bp), (po, AI cI 40 cp), (qt, AI cI 10 ti), (qc, OB 0 [.ref ce, .ref cf, .int (nI nw), .int (nI np)]), (ce, AJ cJ 40 (wvF ri ti bp bw nw fe i)), (cf, AI cI 41 ff)])) (fun _ => rfl) (fun r_4 u h_5 => ?_)
        subst h_5
        refine x_lstore_n C [(2, .long (suA ri ti (bp i))), (0, .ref x), (1, .int (nI i))] dX4_weave_46 rfl (by decide) rfl ?_
        refine x_lconst C (0 : Int64) dX4_weave_47 rfl ?_
        refine x_lstore C [(4, .long (0 : Int64)), (2, .long (suA ri ti (bp i))), (0, .ref x), (1, .int (nI i))] dX4_weave_48 (by decide) rfl ?_
        refine x_iconst C (nI 0) dX4_weave_50 (by decide +kernel) ?_
        refine x_istore C [(6, .int (nI 0)), (4, .long (0 : Int64)), (2, .long (suA ri ti (bp i))), (0, .ref x), (1, .int (nI i))] dX4_weave_51 (by decide) rfl ?_
        have LJ_6 : ∀ (fuel : Nat) (j : Nat), (j ≤ nw) → nw - j < fuel → X_ p l e rm_weave s m args below meth c Q D A H0 7 0 0 [(x, OB 4 [.ref qw, .ref qv, .ref qt, .int ri, .ref qd, .ref qc, .ref ql]), (qw, OB 3 [.ref wa, .ref wo, .int (nI nw)]), (wa, AI cI 40 bw), (wo, AI cI 40 cw), (qv, OB 3 [.ref pa, .ref po, .int (nI np)]), (pa, AI cI 40 bp), (po, AI cI 40 cp), (qt, AI cI 10 ti), (qc, OB 0 [.ref ce, .ref cf, .int (nI nw), .int (nI np)]), (ce, AJ cJ 40 (wvF ri ti bp bw nw fe i)), (cf, AI cI 41 ff)] [(0, .ref x), (1, .int (nI i)), (2, .long (suA ri ti (bp i))), (4, .long (mkB (fun y0 => hbit (suA ri ti (bp i)) (bw y0)) j)), (6, .int (nI j))] 53 [] := by
          intro fuel
          induction fuel with
          | zero =>
            intros
            exact absurd (by assumption) (Nat.not_lt_zero _)
          | succ fuel ih_LJ_6 =>
            intro j hj hm_7
            refine x_iload C dX4_weave_53 4 rfl ?_
            refine x_aload_n C dX4_weave_55 rfl 0 rfl ?_
            refine x_get C hK in_X4_weave_X4 0 rfl rfl 0 (by decide) (by decide +kernel) rfl rfl dX4_weave_56 ?_
            refine x_getN C hK hNW in_X4_weave_X3 1 rfl rfl 2 (by decide) 31 rfl rfl rfl dX4_weave_59 ?_
            refine xn_icmp_ge C 97 (by omega) (by omega) dX4_weave_62 (by decide) (fun h_8 => ?_) (fun h_8 => ?_)
            ·
              have heq_j : nw = j := by omega
              subst heq_j
              refine x_aload_n C dX4_weave_97 rfl 0 rfl ?_
              refine x_get C hK in_X4_weave_X4 0 rfl rfl 5 (by decide) (by decide +kernel) rfl rfl dX4_weave_98 ?_
              refine x_getN C hK hNW in_X4_weave_X0 8 rfl rfl 0 (by decide) 37 rfl rfl rfl dX4_weave_101 ?_
              refine x_iload_n C dX4_weave_104 rfl 1 rfl ?_
              refine x_lload C dX4_weave_105 3 rfl ?_
              refine x_last C hK 9 1 rfl hJ (by omega) (by omega) [(x, OB 4 [.ref qw, .ref qv, .ref qt, .int ri, .ref qd, .ref qc, .ref ql]), (qw, OB 3 [.ref wa, .ref wo, .int (nI nw)]), (wa, AI cI 40 bw), (wo, AI cI 40 cw), (qv, OB 3 [.ref pa, .ref po, .int (nI np)]), (pa, AI cI 40 bp), (po, AI cI 40 cp), (qt, AI cI 10 ti), (qc, OB 0 [.ref ce, .ref cf, .int (nI nw), .int (nI np)]), (ce, AJ cJ 40 (vp_updL (wvF ri ti bp bw nw fe i) i (mkB (fun y0 => hbit (suA ri ti (bp i)) (bw y0)) nw))), (cf, AI cI 41 ff)] rfl dX4_weave_107 ?_
              refine xn_iinc C (i + 1) [(1, .int (nI (i + 1))), (0, .ref x), (2, .long (suA ri ti (bp i))), (4, .long (mkB (fun y0 => hbit (suA ri ti (bp i)) (bw y0)) nw)), (6, .int (nI nw))] dX4_weave_108 1 rfl (by rw [show Int32.ofInt 1 = nI 1 from by decide +kernel]; exact nI_add _ _) (by decide) rfl ?_
              refine x_goto C 30 dX4_weave_111 (by decide) ?_
              refine x_lv [(0, .ref x), (1, .int (nI (i + 1)))] [1, 0] rfl ?_
              refine x_ws [(x, OB 4 [.ref qw, .ref qv, .ref qt, .int ri, .ref qd, .ref qc, .ref ql]), (qw, OB 3 [.ref wa, .ref wo, .int (nI nw)]), (wa, AI cI 40 bw), (wo, AI cI 40 cw), (qv, OB 3 [.ref pa, .ref po, .int (nI np)]), (pa, AI cI 40 bp), (po, AI cI 40 cp), (qt, AI cI 10 ti), (qc, OB 0 [.ref ce, .ref cf, .int (nI nw), .int (nI np)]), (ce, AJ cJ 40 (wvF ri ti bp bw nw fe (i + 1))), (cf, AI cI 41 ff)] (by rw [wvF_s]) ?_
              exact ih_LI_1 (i + 1) (by first | assumption | omega) (by omega)
            ·
              refine x_lload_n C dX4_weave_65 rfl 2 rfl ?_
              refine x_aload_n C dX4_weave_66 rfl 0 rfl ?_
              refine x_get C hK in_X4_weave_X4 0 rfl rfl 0 (by decide) (by decide +kernel) rfl rfl dX4_weave_67 ?_
              refine x_getN C hK hNW in_X4_weave_X3 1 rfl rfl 0 (by decide) 29 rfl rfl rfl dX4_weave_70 ?_
              refine x_iload C dX4_weave_73 4 rfl ?_
              refine x_iald C hK 2 0 rfl hI (by omega) (by omega) dX4_weave_75 ?_
              refine x_calli (x_runS C hK hNW (c_hasBit l D tys cI cJ hI hJ (suA ri ti (bp i)) (bw j) ) (va_cwS 2 C.2.2.2.2 gX4_weave_X4_hasBit rfl rfl rfl (by decide +kernel) ⟨by decide, by decide⟩) [] rfl (by decide) (st := []) rfl rfl (Nat.le_of_ble_eq_true rfl) dX4_weave_76 ⟨by first | decide | omega, by first | decide | omega⟩) hA [] rfl [0, 1, 2, 3, 4, 5, 6, 7, 8, 9, 10] [(x, OB 4 [.ref qw, .ref qv, .ref qt, .int ri, .ref qd, .ref qc, .ref ql]), (qw, OB 3 [.ref wa, .ref wo, .int (nI nw)]), (wa, AI cI 40 bw), (wo, AI cI 40 cw), (qv, OB 3 [.ref pa, .ref po, .int (nI np)]), (pa, AI cI 40 bp), (po, AI cI 40 cp), (qt, AI cI 10 ti), (qc, OB 0 [.ref ce, .ref cf, .int (nI nw), .int (nI np)]), (ce, AJ cJ 40 (wvF ri ti bp bw nw fe i)), (cf, AI cI 41 ff)] rfl (by decide) (by decide) [0, 1, 2, 3, 4, 5, 6, 7, 8, 9, 10] (by decide) (wf := (fun (u : Unit) => [(x, OB 4 [.ref qw, .ref qv, .ref qt, .int ri, .ref qd, .ref qc, .ref ql]), (qw, OB 3 [.ref wa, .ref wo, .int (nI nw)]), (wa, AI cI 40 bw), (wo, AI cI 40 cw), (qv, OB 3 [.ref pa, .ref po, .int (nI np)]), (pa, AI cI 40 bp), (po, AI cI 40 cp), (qt, AI cI 10 ti), (qc, OB 0 [.ref ce, .ref cf, .int (nI nw), .int (nI np)]), (ce, AJ cJ 40 (wvF ri ti bp bw nw fe i)), (cf, AI cI 41 ff)])) (fun _ => rfl) (fun r_9 u h_10 => ?_)
              subst h_10
              refine x_if_eq C 91 dX4_weave_79 (by decide) (fun h_11 => ?_) (fun h_11 => ?_)
              ·
                refine xn_iinc C (j + 1) [(6, .int (nI (j + 1))), (0, .ref x), (1, .int (nI i)), (2, .long (suA ri ti (bp i))), (4, .long (mkB (fun y0 => hbit (suA ri ti (bp i)) (bw y0)) j))] dX4_weave_91 4 rfl (by rw [show Int32.ofInt 1 = nI 1 from by decide +kernel]; exact nI_add _ _) (by decide) rfl ?_
                refine x_goto C 53 dX4_weave_94 (by decide) ?_
                refine x_lv [(0, .ref x), (1, .int (nI i)), (2, .long (suA ri ti (bp i))), (4, .long (mkB (fun y0 => hbit (suA ri ti (bp i)) (bw y0)) (j + 1))), (6, .int (nI (j + 1)))] [1, 2, 3, 4, 0] (by rw [show mkB (fun y0 => hbit (suA ri ti (bp i)) (bw y0)) (j + 1) = mkB (fun y0 => hbit (suA ri ti (bp i)) (bw y0)) j from by first | exact mkB_y (bI_ne0 (by assumption)) | exact mkB_n (bI_eq0 (by assumption))]; rfl) ?_
                exact ih_LJ_6 (j + 1) (by first | assumption | omega) (by omega)
              ·
                refine x_lload C dX4_weave_82 3 rfl ?_
                refine x_lconst C (1 : Int64) dX4_weave_84 rfl ?_
                refine x_iload C dX4_weave_85 4 rfl ?_
                refine x_lshl C _ dX4_weave_87 rfl ?_
                refine x_lor C _ dX4_weave_88 rfl ?_
                refine x_lstore C [(4, .long ((mkB (fun y0 => hbit (suA ri ti (bp i)) (bw y0)) j) ||| ((1 : Int64) <<< ((nI j).toInt64 &&& 63)))), (0, .ref x), (1, .int (nI i)), (2, .long (suA ri ti (bp i))), (6, .int (nI j))] dX4_weave_89 (by decide) rfl ?_
                refine xn_iinc C (j + 1) [(6, .int (nI (j + 1))), (4, .long ((mkB (fun y0 => hbit (suA ri ti (bp i)) (bw y0)) j) ||| ((1 : Int64) <<< ((nI j).toInt64 &&& 63)))), (0, .ref x), (1, .int (nI i)), (2, .long (suA ri ti (bp i)))] dX4_weave_91 4 rfl (by rw [show Int32.ofInt 1 = nI 1 from by decide +kernel]; exact nI_add _ _) (by decide) rfl ?_
                refine x_goto C 53 dX4_weave_94 (by decide) ?_
                refine x_lv [(0, .ref x), (1, .int (nI i)), (2, .long (suA ri ti (bp i))), (4, .long (mkB (fun y0 => hbit (suA ri ti (bp i)) (bw y0)) (j + 1))), (6, .int (nI (j + 1)))] [2, 3, 4, 1, 0] (by rw [show mkB (fun y0 => hbit (suA ri ti (bp i)) (bw y0)) (j + 1) = (mkB (fun y0 => hbit (suA ri ti (bp i)) (bw y0)) j) ||| ((1 : Int64) <<< ((nI j).toInt64 &&& 63)) from by first | exact mkB_y (bI_ne0 (by assumption)) | exact mkB_n (bI_eq0 (by assumption))]; rfl) ?_
                exact ih_LJ_6 (j + 1) (by first | assumption | omega) (by omega)
        refine x_lv [(0, .ref x), (1, .int (nI i)), (2, .long (suA ri ti (bp i))), (4, .long (mkB (fun y0 => hbit (suA ri ti (bp i)) (bw y0)) 0)), (6, .int (nI 0))] [3, 4, 2, 1, 0] (by rw [show mkB (fun y0 => hbit (suA ri ti (bp i)) (bw y0)) 0 = (0 : Int64) from by rfl]; rfl) ?_
        exact LJ_6 (nw - 0 + 1) 0 (by first | assumption | omega) (Nat.lt_succ_self _)
  refine x_lv [(0, .ref x), (1, .int (nI 0))] [1, 0] rfl ?_
  refine x_ws [(x, OB 4 [.ref qw, .ref qv, .ref qt, .int ri, .ref qd, .ref qc, .ref ql]), (qw, OB 3 [.ref wa, .ref wo, .int (nI nw)]), (wa, AI cI 40 bw), (wo, AI cI 40 cw), (qv, OB 3 [.ref pa, .ref po, .int (nI np)]), (pa, AI cI 40 bp), (po, AI cI 40 cp), (qt, AI cI 10 ti), (qc, OB 0 [.ref ce, .ref cf, .int (nI nw), .int (nI np)]), (ce, AJ cJ 40 (wvF ri ti bp bw nw fe 0)), (cf, AI cI 41 ff)] (by rw [wvF_0]) ?_
  exact LI_1 (np - 0 + 1) 0 (by first | assumption | omega) (Nat.lt_succ_self _)
abbrev rm_setRising : Room := { frames := 0, cells := 0, slots := 0, locals := 0 }
set_option maxRecDepth 100000 in
set_option maxHeartbeats 4000000 in
theorem c_setRising (l : Launch) (D : va_G) (tys : List (ClassId × FieldType)) (cI cJ : ClassId) (hI : tys[0]? = some (cI, .int)) (hJ : tys[1]? = some (cJ, .long)) (x : Nat) (qw : Nat) (qv : Nat) (qt : Nat) (ri : Int32) (qd : Nat) (qc : Nat) (ql : Nat) (v : Int32) (hv : v = 0 ∨ v = 1) (hri : ri = 0 ∨ ri = 1) : MI l yX4_setRising wsX4_setRising rm_setRising D tys [.ref x, .int v] [(x, OB 4 [.ref qw, .ref qv, .ref qt, .int ri, .ref qd, .ref qc, .ref ql])] Unit (fun r (_ : Unit) => r = ri) (fun (_ : Unit) => [(x, OB 4 [.ref qw, .ref qv, .ref qt, .int v, .ref qd, .ref qc, .ref ql])]) 0 0 := by
  intro sz
  refine x_met (cc := cX4_setRising) (maxL := 3) (ret := (some .boolean)) (by decide +kernel) rfl (by show _ ≤ _; simp [lg_sl, Value.category]) [(0, .ref x), (1, .int v)] rfl ?_
  intro p e s m args below meth c Q A H0 C hK hNW hlk hrt hnm hQ hH0 hAA hA
  refine x_aload_n C dX4_setRising_0 rfl 0 rfl ?_
  refine x_get C hK in_X4_setRising_X4 0 rfl rfl 3 (by decide) (by decide +kernel) rfl rfl dX4_setRising_1 ?_
  refine x_istore_n C [(2, .int ri), (0, .ref x), (1, .int v)] dX4_setRising_4 rfl (by decide) rfl ?_
  refine x_aload_n C dX4_setRising_5 rfl 1 rfl ?_
  refine x_iload_n C dX4_setRising_6 rfl 2 rfl ?_
  refine x_put C hK in_X4_setRising_X4 tyX4 tyX4_ok nmX4 0 rfl rfl 3 (by decide) (by decide +kernel) rfl rfl (tyX4_ok 3 (by decide)) (gx_nz hv) (gx_fz hv) (Nat.le_of_ble_eq_true rfl) [(x, OB 4 [.ref qw, .ref qv, .ref qt, .int v, .ref qd, .ref qc, .ref ql])] rfl dX4_setRising_7 ?_
  refine x_iload_n C dX4_setRising_10 rfl 0 rfl ?_
  refine x_zret C hK hlk hrt hQ hH0 hAA () (by exact hri) ?_ [0] (by decide) rfl (by first | decide | omega) (by first | decide | omega) dX4_setRising_11
  first | rfl | (exact ⟨rfl, rfl⟩) | trivial | assumption | omega
abbrev rm_count1 : Room := { frames := 1, cells := 0, slots := 0, locals := 21 }
set_option maxRecDepth 100000 in
set_option maxHeartbeats 4000000 in
theorem c_count1 (l : Launch) (D : va_G) (tys : List (ClassId × FieldType)) (cI cJ : ClassId) (hI : tys[0]? = some (cI, .int)) (hJ : tys[1]? = some (cJ, .long)) (x : Nat) (qw : Nat) (qv : Nat) (qt : Nat) (ri : Int32) (qd : Nat) (qc : Nat) (ql : Nat) (wa : Nat) (wo : Nat) (nw : Nat) (bw : Nat → Int32) (cw : Nat → Int32)  : MI l yX4_count wsX4_count rm_count1 D tys [.ref x, .int (nI 1)] [(x, OB 4 [.ref qw, .ref qv, .ref qt, .int ri, .ref qd, .ref qc, .ref ql]), (qw, OB 3 [.ref wa, .ref wo, .int (nI nw)]), (wa, AI cI 40 bw), (wo, AI cI 40 cw)] Unit (fun r (_ : Unit) => r = nI nw) (fun (_ : Unit) => [(x, OB 4 [.ref qw, .ref qv, .ref qt, .int ri, .ref qd, .ref qc, .ref ql]), (qw, OB 3 [.ref wa, .ref wo, .int (nI nw)]), (wa, AI cI 40 bw), (wo, AI cI 40 cw)]) 0 0 := by
  intro sz
  refine x_met (cc := cX4_count) (maxL := 2) (ret := (some .int)) (by decide +kernel) rfl (by show _ ≤ _; simp [lg_sl, Value.category]) [(0, .ref x), (1, .int (nI 1))] rfl ?_
  intro p e s m args below meth c Q A H0 C hK hNW hlk hrt hnm hQ hH0 hAA hA
  refine x_aload_n C dX4_count_0 rfl 0 rfl ?_
  refine x_iload_n C dX4_count_1 rfl 1 rfl ?_
  refine x_callrq (x_runV C hK hNW (c_rowOf1 l D tys cI cJ hI hJ x qw qv qt ri qd qc ql ) (cwV 1 C.2.2.2.2 gX4_count_X4_rowOf rfl rfl rfl (by decide +kernel) ⟨by decide, by decide⟩) [0] rfl (by decide) 0 4 rfl rfl rfl (st := []) rfl rfl (Nat.le_of_ble_eq_true rfl) dX4_count_2 ⟨by first | decide | omega, by first | decide | omega⟩) hA [0] rfl [1, 2, 3] [(qw, OB 3 [.ref wa, .ref wo, .int (nI nw)]), (wa, AI cI 40 bw), (wo, AI cI 40 cw)] rfl (by decide) (by decide) [3, 0, 1, 2] (by decide) rfl ?_
  refine x_getN C hK hNW in_X4_count_X3 1 rfl rfl 2 (by decide) 31 rfl rfl rfl dX4_count_5 ?_
  refine x_iret C hK hlk hrt hQ hH0 hAA () ?_ [0, 1, 2, 3] (by decide) rfl (by first | decide | omega) (by first | decide | omega) dX4_count_8
  first | rfl | (exact ⟨rfl, rfl⟩) | trivial | assumption | omega
abbrev rm_count0 : Room := { frames := 1, cells := 0, slots := 0, locals := 21 }
set_option maxRecDepth 100000 in
set_option maxHeartbeats 4000000 in
theorem c_count0 (l : Launch) (D : va_G) (tys : List (ClassId × FieldType)) (cI cJ : ClassId) (hI : tys[0]? = some (cI, .int)) (hJ : tys[1]? = some (cJ, .long)) (x : Nat) (qw : Nat) (qv : Nat) (qt : Nat) (ri : Int32) (qd : Nat) (qc : Nat) (ql : Nat) (pa : Nat) (po : Nat) (np : Nat) (bp : Nat → Int32) (cp : Nat → Int32)  : MI l yX4_count wsX4_count rm_count0 D tys [.ref x, .int (nI 0)] [(x, OB 4 [.ref qw, .ref qv, .ref qt, .int ri, .ref qd, .ref qc, .ref ql]), (qv, OB 3 [.ref pa, .ref po, .int (nI np)]), (pa, AI cI 40 bp), (po, AI cI 40 cp)] Unit (fun r (_ : Unit) => r = nI np) (fun (_ : Unit) => [(x, OB 4 [.ref qw, .ref qv, .ref qt, .int ri, .ref qd, .ref qc, .ref ql]), (qv, OB 3 [.ref pa, .ref po, .int (nI np)]), (pa, AI cI 40 bp), (po, AI cI 40 cp)]) 0 0 := by
  intro sz
  refine x_met (cc := cX4_count) (maxL := 2) (ret := (some .int)) (by decide +kernel) rfl (by show _ ≤ _; simp [lg_sl, Value.category]) [(0, .ref x), (1, .int (nI 0))] rfl ?_
  intro p e s m args below meth c Q A H0 C hK hNW hlk hrt hnm hQ hH0 hAA hA
  refine x_aload_n C dX4_count_0 rfl 0 rfl ?_
  refine x_iload_n C dX4_count_1 rfl 1 rfl ?_
  refine x_callrq (x_runV C hK hNW (c_rowOf0 l D tys cI cJ hI hJ x qw qv qt ri qd qc ql ) (cwV 1 C.2.2.2.2 gX4_count_X4_rowOf rfl rfl rfl (by decide +kernel) ⟨by decide, by decide⟩) [0] rfl (by decide) 0 4 rfl rfl rfl (st := []) rfl rfl (Nat.le_of_ble_eq_true rfl) dX4_count_2 ⟨by first | decide | omega, by first | decide | omega⟩) hA [0] rfl [1, 2, 3] [(qv, OB 3 [.ref pa, .ref po, .int (nI np)]), (pa, AI cI 40 bp), (po, AI cI 40 cp)] rfl (by decide) (by decide) [3, 0, 1, 2] (by decide) rfl ?_
  refine x_getN C hK hNW in_X4_count_X3 1 rfl rfl 2 (by decide) 31 rfl rfl rfl dX4_count_5 ?_
  refine x_iret C hK hlk hrt hQ hH0 hAA () ?_ [0, 1, 2, 3] (by decide) rfl (by first | decide | omega) (by first | decide | omega) dX4_count_8
  first | rfl | (exact ⟨rfl, rfl⟩) | trivial | assumption | omega
abbrev rm_reverse1 : Room := { frames := 2, cells := 0, slots := 0, locals := 48 }
set_option maxRecDepth 100000 in
set_option maxHeartbeats 4000000 in
theorem c_reverse1 (l : Launch) (D : va_G) (tys : List (ClassId × FieldType)) (cI cJ : ClassId) (hI : tys[0]? = some (cI, .int)) (hJ : tys[1]? = some (cJ, .long)) (x : Nat) (qw : Nat) (qv : Nat) (qt : Nat) (ri : Int32) (qd : Nat) (qc : Nat) (ql : Nat) (wa : Nat) (wo : Nat) (nw : Nat) (bw : Nat → Int32) (cw : Nat → Int32) (hnw : nw ≤ 40) (h0 : 0 < nw) : MI l yX4_reverse wsX4_reverse rm_reverse1 D tys [.ref x, .int (nI 1)] [(x, OB 4 [.ref qw, .ref qv, .ref qt, .int ri, .ref qd, .ref qc, .ref ql]), (qw, OB 3 [.ref wa, .ref wo, .int (nI nw)]), (wa, AI cI 40 bw), (wo, AI cI 40 cw)] Unit (fun r (_ : Unit) => r = nI nw) (fun (_ : Unit) => [(x, OB 4 [.ref qw, .ref qv, .ref qt, .int ri, .ref qd, .ref qc, .ref ql]), (qw, OB 3 [.ref wa, .ref wo, .int (nI nw)]), (wa, AI cI 40 (rvF bw 0 nw)), (wo, AI cI 40 (rvF cw 0 nw))]) 0 0 := by
  intro sz
  refine x_met (cc := cX4_reverse) (maxL := 3) (ret := (some .int)) (by decide +kernel) rfl (by show _ ≤ _; simp [lg_sl, Value.category]) [(0, .ref x), (1, .int (nI 1))] rfl ?_
  intro p e s m args below meth c Q A H0 C hK hNW hlk hrt hnm hQ hH0 hAA hA
  refine x_aload_n C dX4_reverse_0 rfl 0 rfl ?_
  refine x_iload_n C dX4_reverse_1 rfl 1 rfl ?_
  refine x_callrq (x_runV C hK hNW (c_rowOf1 l D tys cI cJ hI hJ x qw qv qt ri qd qc ql ) (cwV 1 C.2.2.2.2 gX4_reverse_X4_rowOf rfl rfl rfl (by decide +kernel) ⟨by decide, by decide⟩) [0] rfl (by decide) 0 4 rfl rfl rfl (st := []) rfl rfl (Nat.le_of_ble_eq_true rfl) dX4_reverse_2 ⟨by first | decide | omega, by first | decide | omega⟩) hA [0] rfl [1, 2, 3] [(qw, OB 3 [.ref wa, .ref wo, .int (nI nw)]), (wa, AI cI 40 bw), (wo, AI cI 40 cw)] rfl (by decide) (by decide) [3, 0, 1, 2] (by decide) rfl ?_
  refine x_astore_n C [(2, .ref qw), (0, .ref x), (1, .int (nI 1))] dX4_reverse_5 rfl (by decide) rfl ?_
  refine x_aload_n C dX4_reverse_6 rfl 0 rfl ?_
  refine x_iconst C (nI 0) dX4_reverse_7 (by decide +kernel) ?_
  refine x_aload_n C dX4_reverse_8 rfl 0 rfl ?_
  refine x_getN C hK hNW in_X4_reverse_X3 1 rfl rfl 2 (by decide) 31 rfl rfl rfl dX4_reverse_9 ?_
  refine x_callv (x_runVN C hK hNW (c_tr_turn l D tys cI cJ hI hJ qw wa wo nw bw cw 0 nw (by first | omega | assumption) (by first | omega | assumption) (by first | omega | assumption)) ⟨va_cnB 2 C.2.2.2.2 gX4_reverse_X3_turn_n94 rfl rfl rfl (hNW.at 4 rfl) (C.2.2.2.2 (.initialized RX3) (by decide +kernel)) (by decide +kernel) ⟨by decide, by decide⟩, C.2.2.2.2 (.instanceMethod yX3_turn) (by decide +kernel), C.2.2.2.2 (.selects RX3 yX3_turn yX3_turn) (by decide +kernel)⟩ [1, 2, 3] rfl (by decide) 1 3 rfl rfl rfl (st := []) rfl rfl (Nat.le_of_ble_eq_true rfl) dX4_reverse_12 ⟨by first | decide | omega, by first | decide | omega⟩) hA [1, 2, 3] rfl [0] [(x, OB 4 [.ref qw, .ref qv, .ref qt, .int ri, .ref qd, .ref qc, .ref ql])] rfl (by decide) (by decide) [0, 1, 2, 3] (by decide) (wf := (fun (u : Unit) => [(x, OB 4 [.ref qw, .ref qv, .ref qt, .int ri, .ref qd, .ref qc, .ref ql]), (qw, OB 3 [.ref wa, .ref wo, .int (nI nw)]), (wa, AI cI 40 (rvF bw 0 nw)), (wo, AI cI 40 (rvF cw 0 nw))])) (fun _ => rfl) (fun u h_4 => ?_)
  refine x_aload_n C dX4_reverse_15 rfl 0 rfl ?_
  refine x_getN C hK hNW in_X4_reverse_X3 1 rfl rfl 2 (by decide) 31 rfl rfl rfl dX4_reverse_16 ?_
  refine x_iret C hK hlk hrt hQ hH0 hAA () ?_ [0, 1, 2, 3] (by decide) rfl (by first | decide | omega) (by first | decide | omega) dX4_reverse_19
  first | rfl | (exact ⟨rfl, rfl⟩) | trivial | assumption | omega
abbrev rm_reverseZ1 : Room := { frames := 1, cells := 0, slots := 0, locals := 24 }
set_option maxRecDepth 100000 in
set_option maxHeartbeats 4000000 in
theorem c_reverseZ1 (l : Launch) (D : va_G) (tys : List (ClassId × FieldType)) (cI cJ : ClassId) (hI : tys[0]? = some (cI, .int)) (hJ : tys[1]? = some (cJ, .long)) (x : Nat) (qw : Nat) (qv : Nat) (qt : Nat) (ri : Int32) (qd : Nat) (qc : Nat) (ql : Nat) (wa : Nat) (wo : Nat) (bw : Nat → Int32) (cw : Nat → Int32)  : MI l yX4_reverse wsX4_reverse rm_reverseZ1 D tys [.ref x, .int (nI 1)] [(x, OB 4 [.ref qw, .ref qv, .ref qt, .int ri, .ref qd, .ref qc, .ref ql]), (qw, OB 3 [.ref wa, .ref wo, .int (nI 0)]), (wa, AI cI 40 bw), (wo, AI cI 40 cw)] Unit (fun r (_ : Unit) => r = nI 0) (fun (_ : Unit) => [(x, OB 4 [.ref qw, .ref qv, .ref qt, .int ri, .ref qd, .ref qc, .ref ql]), (qw, OB 3 [.ref wa, .ref wo, .int (nI 0)]), (wa, AI cI 40 bw), (wo, AI cI 40 cw)]) 0 0 := by
  intro sz
  refine x_met (cc := cX4_reverse) (maxL := 3) (ret := (some .int)) (by decide +kernel) rfl (by show _ ≤ _; simp [lg_sl, Value.category]) [(0, .ref x), (1, .int (nI 1))] rfl ?_
  intro p e s m args below meth c Q A H0 C hK hNW hlk hrt hnm hQ hH0 hAA hA
  refine x_aload_n C dX4_reverse_0 rfl 0 rfl ?_
  refine x_iload_n C dX4_reverse_1 rfl 1 rfl ?_
  refine x_callrq (x_runV C hK hNW (c_rowOf1 l D tys cI cJ hI hJ x qw qv qt ri qd qc ql ) (cwV 1 C.2.2.2.2 gX4_reverse_X4_rowOf rfl rfl rfl (by decide +kernel) ⟨by decide, by decide⟩) [0] rfl (by decide) 0 4 rfl rfl rfl (st := []) rfl rfl (Nat.le_of_ble_eq_true rfl) dX4_reverse_2 ⟨by first | decide | omega, by first | decide | omega⟩) hA [0] rfl [1, 2, 3] [(qw, OB 3 [.ref wa, .ref wo, .int (nI 0)]), (wa, AI cI 40 bw), (wo, AI cI 40 cw)] rfl (by decide) (by decide) [3, 0, 1, 2] (by decide) rfl ?_
  refine x_astore_n C [(2, .ref qw), (0, .ref x), (1, .int (nI 1))] dX4_reverse_5 rfl (by decide) rfl ?_
  refine x_aload_n C dX4_reverse_6 rfl 0 rfl ?_
  refine x_iconst C (nI 0) dX4_reverse_7 (by decide +kernel) ?_
  refine x_aload_n C dX4_reverse_8 rfl 0 rfl ?_
  refine x_getN C hK hNW in_X4_reverse_X3 1 rfl rfl 2 (by decide) 31 rfl rfl rfl dX4_reverse_9 ?_
  refine x_callv (x_runVN C hK hNW (c_tr_turn0 l D tys cI cJ hI hJ qw wa wo 0 bw cw ) ⟨va_cnB 2 C.2.2.2.2 gX4_reverse_X3_turn_n94 rfl rfl rfl (hNW.at 4 rfl) (C.2.2.2.2 (.initialized RX3) (by decide +kernel)) (by decide +kernel) ⟨by decide, by decide⟩, C.2.2.2.2 (.instanceMethod yX3_turn) (by decide +kernel), C.2.2.2.2 (.selects RX3 yX3_turn yX3_turn) (by decide +kernel)⟩ [1, 2, 3] rfl (by decide) 1 3 rfl rfl rfl (st := []) rfl rfl (Nat.le_of_ble_eq_true rfl) dX4_reverse_12 ⟨by first | decide | omega, by first | decide | omega⟩) hA [1, 2, 3] rfl [0] [(x, OB 4 [.ref qw, .ref qv, .ref qt, .int ri, .ref qd, .ref qc, .ref ql])] rfl (by decide) (by decide) [0, 1, 2, 3] (by decide) (wf := (fun (u : Unit) => [(x, OB 4 [.ref qw, .ref qv, .ref qt, .int ri, .ref qd, .ref qc, .ref ql]), (qw, OB 3 [.ref wa, .ref wo, .int (nI 0)]), (wa, AI cI 40 bw), (wo, AI cI 40 cw)])) (fun _ => rfl) (fun u h_4 => ?_)
  refine x_aload_n C dX4_reverse_15 rfl 0 rfl ?_
  refine x_getN C hK hNW in_X4_reverse_X3 1 rfl rfl 2 (by decide) 31 rfl rfl rfl dX4_reverse_16 ?_
  refine x_iret C hK hlk hrt hQ hH0 hAA () ?_ [0, 1, 2, 3] (by decide) rfl (by first | decide | omega) (by first | decide | omega) dX4_reverse_19
  first | rfl | (exact ⟨rfl, rfl⟩) | trivial | assumption | omega
abbrev rm_reverse0 : Room := { frames := 2, cells := 0, slots := 0, locals := 48 }
set_option maxRecDepth 100000 in
set_option maxHeartbeats 4000000 in
theorem c_reverse0 (l : Launch) (D : va_G) (tys : List (ClassId × FieldType)) (cI cJ : ClassId) (hI : tys[0]? = some (cI, .int)) (hJ : tys[1]? = some (cJ, .long)) (x : Nat) (qw : Nat) (qv : Nat) (qt : Nat) (ri : Int32) (qd : Nat) (qc : Nat) (ql : Nat) (pa : Nat) (po : Nat) (np : Nat) (bp : Nat → Int32) (cp : Nat → Int32) (hnp : np ≤ 40) (h0 : 0 < np) : MI l yX4_reverse wsX4_reverse rm_reverse0 D tys [.ref x, .int (nI 0)] [(x, OB 4 [.ref qw, .ref qv, .ref qt, .int ri, .ref qd, .ref qc, .ref ql]), (qv, OB 3 [.ref pa, .ref po, .int (nI np)]), (pa, AI cI 40 bp), (po, AI cI 40 cp)] Unit (fun r (_ : Unit) => r = nI np) (fun (_ : Unit) => [(x, OB 4 [.ref qw, .ref qv, .ref qt, .int ri, .ref qd, .ref qc, .ref ql]), (qv, OB 3 [.ref pa, .ref po, .int (nI np)]), (pa, AI cI 40 (rvF bp 0 np)), (po, AI cI 40 (rvF cp 0 np))]) 0 0 := by
  intro sz
  refine x_met (cc := cX4_reverse) (maxL := 3) (ret := (some .int)) (by decide +kernel) rfl (by show _ ≤ _; simp [lg_sl, Value.category]) [(0, .ref x), (1, .int (nI 0))] rfl ?_
  intro p e s m args below meth c Q A H0 C hK hNW hlk hrt hnm hQ hH0 hAA hA
  refine x_aload_n C dX4_reverse_0 rfl 0 rfl ?_
  refine x_iload_n C dX4_reverse_1 rfl 1 rfl ?_
  refine x_callrq (x_runV C hK hNW (c_rowOf0 l D tys cI cJ hI hJ x qw qv qt ri qd qc ql ) (cwV 1 C.2.2.2.2 gX4_reverse_X4_rowOf rfl rfl rfl (by decide +kernel) ⟨by decide, by decide⟩) [0] rfl (by decide) 0 4 rfl rfl rfl (st := []) rfl rfl (Nat.le_of_ble_eq_true rfl) dX4_reverse_2 ⟨by first | decide | omega, by first | decide | omega⟩) hA [0] rfl [1, 2, 3] [(qv, OB 3 [.ref pa, .ref po, .int (nI np)]), (pa, AI cI 40 bp), (po, AI cI 40 cp)] rfl (by decide) (by decide) [3, 0, 1, 2] (by decide) rfl ?_
  refine x_astore_n C [(2, .ref qv), (0, .ref x), (1, .int (nI 0))] dX4_reverse_5 rfl (by decide) rfl ?_
  refine x_aload_n C dX4_reverse_6 rfl 0 rfl ?_
  refine x_iconst C (nI 0) dX4_reverse_7 (by decide +kernel) ?_
  refine x_aload_n C dX4_reverse_8 rfl 0 rfl ?_
  refine x_getN C hK hNW in_X4_reverse_X3 1 rfl rfl 2 (by decide) 31 rfl rfl rfl dX4_reverse_9 ?_
  refine x_callv (x_runVN C hK hNW (c_tr_turn l D tys cI cJ hI hJ qv pa po np bp cp 0 np (by first | omega | assumption) (by first | omega | assumption) (by first | omega | assumption)) ⟨va_cnB 2 C.2.2.2.2 gX4_reverse_X3_turn_n94 rfl rfl rfl (hNW.at 4 rfl) (C.2.2.2.2 (.initialized RX3) (by decide +kernel)) (by decide +kernel) ⟨by decide, by decide⟩, C.2.2.2.2 (.instanceMethod yX3_turn) (by decide +kernel), C.2.2.2.2 (.selects RX3 yX3_turn yX3_turn) (by decide +kernel)⟩ [1, 2, 3] rfl (by decide) 1 3 rfl rfl rfl (st := []) rfl rfl (Nat.le_of_ble_eq_true rfl) dX4_reverse_12 ⟨by first | decide | omega, by first | decide | omega⟩) hA [1, 2, 3] rfl [0] [(x, OB 4 [.ref qw, .ref qv, .ref qt, .int ri, .ref qd, .ref qc, .ref ql])] rfl (by decide) (by decide) [0, 1, 2, 3] (by decide) (wf := (fun (u : Unit) => [(x, OB 4 [.ref qw, .ref qv, .ref qt, .int ri, .ref qd, .ref qc, .ref ql]), (qv, OB 3 [.ref pa, .ref po, .int (nI np)]), (pa, AI cI 40 (rvF bp 0 np)), (po, AI cI 40 (rvF cp 0 np))])) (fun _ => rfl) (fun u h_4 => ?_)
  refine x_aload_n C dX4_reverse_15 rfl 0 rfl ?_
  refine x_getN C hK hNW in_X4_reverse_X3 1 rfl rfl 2 (by decide) 31 rfl rfl rfl dX4_reverse_16 ?_
  refine x_iret C hK hlk hrt hQ hH0 hAA () ?_ [0, 1, 2, 3] (by decide) rfl (by first | decide | omega) (by first | decide | omega) dX4_reverse_19
  first | rfl | (exact ⟨rfl, rfl⟩) | trivial | assumption | omega
abbrev rm_reverseZ0 : Room := { frames := 1, cells := 0, slots := 0, locals := 24 }
set_option maxRecDepth 100000 in
set_option maxHeartbeats 4000000 in
theorem c_reverseZ0 (l : Launch) (D : va_G) (tys : List (ClassId × FieldType)) (cI cJ : ClassId) (hI : tys[0]? = some (cI, .int)) (hJ : tys[1]? = some (cJ, .long)) (x : Nat) (qw : Nat) (qv : Nat) (qt : Nat) (ri : Int32) (qd : Nat) (qc : Nat) (ql : Nat) (pa : Nat) (po : Nat) (bp : Nat → Int32) (cp : Nat → Int32)  : MI l yX4_reverse wsX4_reverse rm_reverseZ0 D tys [.ref x, .int (nI 0)] [(x, OB 4 [.ref qw, .ref qv, .ref qt, .int ri, .ref qd, .ref qc, .ref ql]), (qv, OB 3 [.ref pa, .ref po, .int (nI 0)]), (pa, AI cI 40 bp), (po, AI cI 40 cp)] Unit (fun r (_ : Unit) => r = nI 0) (fun (_ : Unit) => [(x, OB 4 [.ref qw, .ref qv, .ref qt, .int ri, .ref qd, .ref qc, .ref ql]), (qv, OB 3 [.ref pa, .ref po, .int (nI 0)]), (pa, AI cI 40 bp), (po, AI cI 40 cp)]) 0 0 := by
  intro sz
  refine x_met (cc := cX4_reverse) (maxL := 3) (ret := (some .int)) (by decide +kernel) rfl (by show _ ≤ _; simp [lg_sl, Value.category]) [(0, .ref x), (1, .int (nI 0))] rfl ?_
  intro p e s m args below meth c Q A H0 C hK hNW hlk hrt hnm hQ hH0 hAA hA
  refine x_aload_n C dX4_reverse_0 rfl 0 rfl ?_
  refine x_iload_n C dX4_reverse_1 rfl 1 rfl ?_
  refine x_callrq (x_runV C hK hNW (c_rowOf0 l D tys cI cJ hI hJ x qw qv qt ri qd qc ql ) (cwV 1 C.2.2.2.2 gX4_reverse_X4_rowOf rfl rfl rfl (by decide +kernel) ⟨by decide, by decide⟩) [0] rfl (by decide) 0 4 rfl rfl rfl (st := []) rfl rfl (Nat.le_of_ble_eq_true rfl) dX4_reverse_2 ⟨by first | decide | omega, by first | decide | omega⟩) hA [0] rfl [1, 2, 3] [(qv, OB 3 [.ref pa, .ref po, .int (nI 0)]), (pa, AI cI 40 bp), (po, AI cI 40 cp)] rfl (by decide) (by decide) [3, 0, 1, 2] (by decide) rfl ?_
  refine x_astore_n C [(2, .ref qv), (0, .ref x), (1, .int (nI 0))] dX4_reverse_5 rfl (by decide) rfl ?_
  refine x_aload_n C dX4_reverse_6 rfl 0 rfl ?_
  refine x_iconst C (nI 0) dX4_reverse_7 (by decide +kernel) ?_
  refine x_aload_n C dX4_reverse_8 rfl 0 rfl ?_
  refine x_getN C hK hNW in_X4_reverse_X3 1 rfl rfl 2 (by decide) 31 rfl rfl rfl dX4_reverse_9 ?_
  refine x_callv (x_runVN C hK hNW (c_tr_turn0 l D tys cI cJ hI hJ qv pa po 0 bp cp ) ⟨va_cnB 2 C.2.2.2.2 gX4_reverse_X3_turn_n94 rfl rfl rfl (hNW.at 4 rfl) (C.2.2.2.2 (.initialized RX3) (by decide +kernel)) (by decide +kernel) ⟨by decide, by decide⟩, C.2.2.2.2 (.instanceMethod yX3_turn) (by decide +kernel), C.2.2.2.2 (.selects RX3 yX3_turn yX3_turn) (by decide +kernel)⟩ [1, 2, 3] rfl (by decide) 1 3 rfl rfl rfl (st := []) rfl rfl (Nat.le_of_ble_eq_true rfl) dX4_reverse_12 ⟨by first | decide | omega, by first | decide | omega⟩) hA [1, 2, 3] rfl [0] [(x, OB 4 [.ref qw, .ref qv, .ref qt, .int ri, .ref qd, .ref qc, .ref ql])] rfl (by decide) (by decide) [0, 1, 2, 3] (by decide) (wf := (fun (u : Unit) => [(x, OB 4 [.ref qw, .ref qv, .ref qt, .int ri, .ref qd, .ref qc, .ref ql]), (qv, OB 3 [.ref pa, .ref po, .int (nI 0)]), (pa, AI cI 40 bp), (po, AI cI 40 cp)])) (fun _ => rfl) (fun u h_4 => ?_)
  refine x_aload_n C dX4_reverse_15 rfl 0 rfl ?_
  refine x_getN C hK hNW in_X4_reverse_X3 1 rfl rfl 2 (by decide) 31 rfl rfl rfl dX4_reverse_16 ?_
  refine x_iret C hK hlk hrt hQ hH0 hAA () ?_ [0, 1, 2, 3] (by decide) rfl (by first | decide | omega) (by first | decide | omega) dX4_reverse_19
  first | rfl | (exact ⟨rfl, rfl⟩) | trivial | assumption | omega
abbrev rm_rotateZ1 : Room := { frames := 1, cells := 0, slots := 0, locals := 22 }
set_option maxRecDepth 100000 in
set_option maxHeartbeats 4000000 in
theorem c_rotateZ1 (l : Launch) (D : va_G) (tys : List (ClassId × FieldType)) (cI cJ : ClassId) (hI : tys[0]? = some (cI, .int)) (hJ : tys[1]? = some (cJ, .long)) (x : Nat) (qw : Nat) (qv : Nat) (qt : Nat) (ri : Int32) (qd : Nat) (qc : Nat) (ql : Nat) (wa : Nat) (wo : Nat) (bw : Nat → Int32) (cw : Nat → Int32) (pl : Nat) (hpl : pl ≤ 40) : MI l yX4_rotate wsX4_rotate rm_rotateZ1 D tys [.ref x, .int (nI 1), .int (nI pl)] [(x, OB 4 [.ref qw, .ref qv, .ref qt, .int ri, .ref qd, .ref qc, .ref ql]), (qw, OB 3 [.ref wa, .ref wo, .int (nI 0)]), (wa, AI cI 40 bw), (wo, AI cI 40 cw)] Unit (fun r (_ : Unit) => r = nI 0) (fun (_ : Unit) => [(x, OB 4 [.ref qw, .ref qv, .ref qt, .int ri, .ref qd, .ref qc, .ref ql]), (qw, OB 3 [.ref wa, .ref wo, .int (nI 0)]), (wa, AI cI 40 bw), (wo, AI cI 40 cw)]) 0 0 := by
  intro sz
  refine x_met (cc := cX4_rotate) (maxL := 4) (ret := (some .int)) (by decide +kernel) rfl (by show _ ≤ _; simp [lg_sl, Value.category]) [(0, .ref x), (1, .int (nI 1)), (2, .int (nI pl))] rfl ?_
  intro p e s m args below meth c Q A H0 C hK hNW hlk hrt hnm hQ hH0 hAA hA
  refine x_iload_n C dX4_rotate_0 rfl 2 rfl ?_
  refine xn_if_lt C 10 (by omega) dX4_rotate_1 (by decide) (fun h_1 => ?_) (fun h_1 => ?_)
  ·
    exact absurd h_1 (by omega)
  ·
    refine x_iload_n C dX4_rotate_4 rfl 2 rfl ?_
    refine x_bipush C (nI 40) dX4_rotate_5 (by decide +kernel) ?_
    refine xn_icmp_le C 18 (by omega) (by omega) dX4_rotate_7 (by decide) (fun h_2 => ?_) (fun h_2 => ?_)
    ·
      refine x_aload_n C dX4_rotate_18 rfl 0 rfl ?_
      refine x_iload_n C dX4_rotate_19 rfl 1 rfl ?_
      refine x_callrq (x_runV C hK hNW (c_rowOf1 l D tys cI cJ hI hJ x qw qv qt ri qd qc ql ) (cwV 1 C.2.2.2.2 gX4_rotate_X4_rowOf rfl rfl rfl (by decide +kernel) ⟨by decide, by decide⟩) [0] rfl (by decide) 0 4 rfl rfl rfl (st := []) rfl rfl (Nat.le_of_ble_eq_true rfl) dX4_rotate_20 ⟨by first | decide | omega, by first | decide | omega⟩) hA [0] rfl [1, 2, 3] [(qw, OB 3 [.ref wa, .ref wo, .int (nI 0)]), (wa, AI cI 40 bw), (wo, AI cI 40 cw)] rfl (by decide) (by decide) [3, 0, 1, 2] (by decide) rfl ?_
      refine x_astore_n C [(3, .ref qw), (0, .ref x), (1, .int (nI 1)), (2, .int (nI pl))] dX4_rotate_23 rfl (by decide) rfl ?_
      refine x_aload_n C dX4_rotate_24 rfl 0 rfl ?_
      refine x_iload_n C dX4_rotate_25 rfl 3 rfl ?_
      refine x_callv (x_runVN C hK hNW (c_tr_moveOn0 l D tys cI cJ hI hJ qw wa wo 0 bw cw pl (by first | omega | assumption)) ⟨va_cnB 1 C.2.2.2.2 gX4_rotate_X3_moveOn_n98 rfl rfl rfl (hNW.at 23 rfl) (C.2.2.2.2 (.initialized RX3) (by decide +kernel)) (by decide +kernel) ⟨by decide, by decide⟩, C.2.2.2.2 (.instanceMethod yX3_moveOn) (by decide +kernel), C.2.2.2.2 (.selects RX3 yX3_moveOn yX3_moveOn) (by decide +kernel)⟩ [1, 2, 3] rfl (by decide) 1 3 rfl rfl rfl (st := []) rfl rfl (Nat.le_of_ble_eq_true rfl) dX4_rotate_26 ⟨by first | decide | omega, by first | decide | omega⟩) hA [1, 2, 3] rfl [0] [(x, OB 4 [.ref qw, .ref qv, .ref qt, .int ri, .ref qd, .ref qc, .ref ql])] rfl (by decide) (by decide) [0, 1, 2, 3] (by decide) (wf := (fun (u : Unit) => [(x, OB 4 [.ref qw, .ref qv, .ref qt, .int ri, .ref qd, .ref qc, .ref ql]), (qw, OB 3 [.ref wa, .ref wo, .int (nI 0)]), (wa, AI cI 40 bw), (wo, AI cI 40 cw)])) (fun _ => rfl) (fun u h_6 => ?_)
      refine x_aload_n C dX4_rotate_29 rfl 0 rfl ?_
      refine x_getN C hK hNW in_X4_rotate_X3 1 rfl rfl 2 (by decide) 31 rfl rfl rfl dX4_rotate_30 ?_
      refine x_iret C hK hlk hrt hQ hH0 hAA () ?_ [0, 1, 2, 3] (by decide) rfl (by first | decide | omega) (by first | decide | omega) dX4_rotate_33
      first | rfl | (exact ⟨rfl, rfl⟩) | trivial | assumption | omega
    ·
      exact absurd h_2 (by omega)
abbrev rm_rotateA1 : Room := { frames := 3, cells := 0, slots := 0, locals := 70 }
set_option maxRecDepth 100000 in
set_option maxHeartbeats 4000000 in
theorem c_rotateA1 (l : Launch) (D : va_G) (tys : List (ClassId × FieldType)) (cI cJ : ClassId) (hI : tys[0]? = some (cI, .int)) (hJ : tys[1]? = some (cJ, .long)) (x : Nat) (qw : Nat) (qv : Nat) (qt : Nat) (ri : Int32) (qd : Nat) (qc : Nat) (ql : Nat) (wa : Nat) (wo : Nat) (nw : Nat) (bw : Nat → Int32) (cw : Nat → Int32) (pl : Nat) (hnw : nw ≤ 40) (hpl : pl ≤ 40) (h0 : 0 < nw) (hm : 0 < pl % nw) : MI l yX4_rotate wsX4_rotate rm_rotateA1 D tys [.ref x, .int (nI 1), .int (nI pl)] [(x, OB 4 [.ref qw, .ref qv, .ref qt, .int ri, .ref qd, .ref qc, .ref ql]), (qw, OB 3 [.ref wa, .ref wo, .int (nI nw)]), (wa, AI cI 40 bw), (wo, AI cI 40 cw)] Unit (fun r (_ : Unit) => r = nI nw) (fun (_ : Unit) => [(x, OB 4 [.ref qw, .ref qv, .ref qt, .int ri, .ref qd, .ref qc, .ref ql]), (qw, OB 3 [.ref wa, .ref wo, .int (nI nw)]), (wa, AI cI 40 (rvF (rvF (rvF bw 0 nw) 0 (pl % nw)) (pl % nw) nw)), (wo, AI cI 40 (rvF (rvF (rvF cw 0 nw) 0 (pl % nw)) (pl % nw) nw))]) 0 0 := by
  intro sz
  refine x_met (cc := cX4_rotate) (maxL := 4) (ret := (some .int)) (by decide +kernel) rfl (by show _ ≤ _; simp [lg_sl, Value.category]) [(0, .ref x), (1, .int (nI 1)), (2, .int (nI pl))] rfl ?_
  intro p e s m args below meth c Q A H0 C hK hNW hlk hrt hnm hQ hH0 hAA hA
  refine x_iload_n C dX4_rotate_0 rfl 2 rfl ?_
  refine xn_if_lt C 10 (by omega) dX4_rotate_1 (by decide) (fun h_1 => ?_) (fun h_1 => ?_)
  ·
    exact absurd h_1 (by omega)
  ·
    refine x_iload_n C dX4_rotate_4 rfl 2 rfl ?_
    refine x_bipush C (nI 40) dX4_rotate_5 (by decide +kernel) ?_
    refine xn_icmp_le C 18 (by omega) (by omega) dX4_rotate_7 (by decide) (fun h_2 => ?_) (fun h_2 => ?_)
    ·
      refine x_aload_n C dX4_rotate_18 rfl 0 rfl ?_
      refine x_iload_n C dX4_rotate_19 rfl 1 rfl ?_
      refine x_callrq (x_runV C hK hNW (c_rowOf1 l D tys cI cJ hI hJ x qw qv qt ri qd qc ql ) (cwV 1 C.2.2.2.2 gX4_rotate_X4_rowOf rfl rfl rfl (by decide +kernel) ⟨by decide, by decide⟩) [0] rfl (by decide) 0 4 rfl rfl rfl (st := []) rfl rfl (Nat.le_of_ble_eq_true rfl) dX4_rotate_20 ⟨by first | decide | omega, by first | decide | omega⟩) hA [0] rfl [1, 2, 3] [(qw, OB 3 [.ref wa, .ref wo, .int (nI nw)]), (wa, AI cI 40 bw), (wo, AI cI 40 cw)] rfl (by decide) (by decide) [3, 0, 1, 2] (by decide) rfl ?_
      refine x_astore_n C [(3, .ref qw), (0, .ref x), (1, .int (nI 1)), (2, .int (nI pl))] dX4_rotate_23 rfl (by decide) rfl ?_
      refine x_aload_n C dX4_rotate_24 rfl 0 rfl ?_
      refine x_iload_n C dX4_rotate_25 rfl 3 rfl ?_
      refine x_callv (x_runVN C hK hNW (c_tr_moveOn l D tys cI cJ hI hJ qw wa wo nw bw cw pl (by first | omega | assumption) (by first | omega | assumption) (by first | omega | assumption) (by first | omega | assumption)) ⟨va_cnB 1 C.2.2.2.2 gX4_rotate_X3_moveOn_n98 rfl rfl rfl (hNW.at 23 rfl) (C.2.2.2.2 (.initialized RX3) (by decide +kernel)) (by decide +kernel) ⟨by decide, by decide⟩, C.2.2.2.2 (.instanceMethod yX3_moveOn) (by decide +kernel), C.2.2.2.2 (.selects RX3 yX3_moveOn yX3_moveOn) (by decide +kernel)⟩ [1, 2, 3] rfl (by decide) 1 3 rfl rfl rfl (st := []) rfl rfl (Nat.le_of_ble_eq_true rfl) dX4_rotate_26 ⟨by first | decide | omega, by first | decide | omega⟩) hA [1, 2, 3] rfl [0] [(x, OB 4 [.ref qw, .ref qv, .ref qt, .int ri, .ref qd, .ref qc, .ref ql])] rfl (by decide) (by decide) [0, 1, 2, 3] (by decide) (wf := (fun (u : Unit) => [(x, OB 4 [.ref qw, .ref qv, .ref qt, .int ri, .ref qd, .ref qc, .ref ql]), (qw, OB 3 [.ref wa, .ref wo, .int (nI nw)]), (wa, AI cI 40 (rvF (rvF (rvF bw 0 nw) 0 (pl % nw)) (pl % nw) nw)), (wo, AI cI 40 (rvF (rvF (rvF cw 0 nw) 0 (pl % nw)) (pl % nw) nw))])) (fun _ => rfl) (fun u h_6 => ?_)
      refine x_aload_n C dX4_rotate_29 rfl 0 rfl ?_
      refine x_getN C hK hNW in_X4_rotate_X3 1 rfl rfl 2 (by decide) 31 rfl rfl rfl dX4_rotate_30 ?_
      refine x_iret C hK hlk hrt hQ hH0 hAA () ?_ [0, 1, 2, 3] (by decide) rfl (by first | decide | omega) (by first | decide | omega) dX4_rotate_33
      first | rfl | (exact ⟨rfl, rfl⟩) | trivial | assumption | omega
    ·
      exact absurd h_2 (by omega)
abbrev rm_rotateB1 : Room := { frames := 3, cells := 0, slots := 0, locals := 70 }
set_option maxRecDepth 100000 in
set_option maxHeartbeats 4000000 in
theorem c_rotateB1 (l : Launch) (D : va_G) (tys : List (ClassId × FieldType)) (cI cJ : ClassId) (hI : tys[0]? = some (cI, .int)) (hJ : tys[1]? = some (cJ, .long)) (x : Nat) (qw : Nat) (qv : Nat) (qt : Nat) (ri : Int32) (qd : Nat) (qc : Nat) (ql : Nat) (wa : Nat) (wo : Nat) (nw : Nat) (bw : Nat → Int32) (cw : Nat → Int32) (pl : Nat) (hnw : nw ≤ 40) (hpl : pl ≤ 40) (h0 : 0 < nw) (hm : pl % nw = 0) : MI l yX4_rotate wsX4_rotate rm_rotateB1 D tys [.ref x, .int (nI 1), .int (nI pl)] [(x, OB 4 [.ref qw, .ref qv, .ref qt, .int ri, .ref qd, .ref qc, .ref ql]), (qw, OB 3 [.ref wa, .ref wo, .int (nI nw)]), (wa, AI cI 40 bw), (wo, AI cI 40 cw)] Unit (fun r (_ : Unit) => r = nI nw) (fun (_ : Unit) => [(x, OB 4 [.ref qw, .ref qv, .ref qt, .int ri, .ref qd, .ref qc, .ref ql]), (qw, OB 3 [.ref wa, .ref wo, .int (nI nw)]), (wa, AI cI 40 (rvF (rvF bw 0 nw) 0 nw)), (wo, AI cI 40 (rvF (rvF cw 0 nw) 0 nw))]) 0 0 := by
  intro sz
  refine x_met (cc := cX4_rotate) (maxL := 4) (ret := (some .int)) (by decide +kernel) rfl (by show _ ≤ _; simp [lg_sl, Value.category]) [(0, .ref x), (1, .int (nI 1)), (2, .int (nI pl))] rfl ?_
  intro p e s m args below meth c Q A H0 C hK hNW hlk hrt hnm hQ hH0 hAA hA
  refine x_iload_n C dX4_rotate_0 rfl 2 rfl ?_
  refine xn_if_lt C 10 (by omega) dX4_rotate_1 (by decide) (fun h_1 => ?_) (fun h_1 => ?_)
  ·
    exact absurd h_1 (by omega)
  ·
    refine x_iload_n C dX4_rotate_4 rfl 2 rfl ?_
    refine x_bipush C (nI 40) dX4_rotate_5 (by decide +kernel) ?_
    refine xn_icmp_le C 18 (by omega) (by omega) dX4_rotate_7 (by decide) (fun h_2 => ?_) (fun h_2 => ?_)
    ·
      refine x_aload_n C dX4_rotate_18 rfl 0 rfl ?_
      refine x_iload_n C dX4_rotate_19 rfl 1 rfl ?_
      refine x_callrq (x_runV C hK hNW (c_rowOf1 l D tys cI cJ hI hJ x qw qv qt ri qd qc ql ) (cwV 1 C.2.2.2.2 gX4_rotate_X4_rowOf rfl rfl rfl (by decide +kernel) ⟨by decide, by decide⟩) [0] rfl (by decide) 0 4 rfl rfl rfl (st := []) rfl rfl (Nat.le_of_ble_eq_true rfl) dX4_rotate_20 ⟨by first | decide | omega, by first | decide | omega⟩) hA [0] rfl [1, 2, 3] [(qw, OB 3 [.ref wa, .ref wo, .int (nI nw)]), (wa, AI cI 40 bw), (wo, AI cI 40 cw)] rfl (by decide) (by decide) [3, 0, 1, 2] (by decide) rfl ?_
      refine x_astore_n C [(3, .ref qw), (0, .ref x), (1, .int (nI 1)), (2, .int (nI pl))] dX4_rotate_23 rfl (by decide) rfl ?_
      refine x_aload_n C dX4_rotate_24 rfl 0 rfl ?_
      refine x_iload_n C dX4_rotate_25 rfl 3 rfl ?_
      refine x_callv (x_runVN C hK hNW (c_tr_moveOnZ l D tys cI cJ hI hJ qw wa wo nw bw cw pl (by first | omega | assumption) (by first | omega | assumption) (by first | omega | assumption) (by first | omega | assumption)) ⟨va_cnB 1 C.2.2.2.2 gX4_rotate_X3_moveOn_n98 rfl rfl rfl (hNW.at 23 rfl) (C.2.2.2.2 (.initialized RX3) (by decide +kernel)) (by decide +kernel) ⟨by decide, by decide⟩, C.2.2.2.2 (.instanceMethod yX3_moveOn) (by decide +kernel), C.2.2.2.2 (.selects RX3 yX3_moveOn yX3_moveOn) (by decide +kernel)⟩ [1, 2, 3] rfl (by decide) 1 3 rfl rfl rfl (st := []) rfl rfl (Nat.le_of_ble_eq_true rfl) dX4_rotate_26 ⟨by first | decide | omega, by first | decide | omega⟩) hA [1, 2, 3] rfl [0] [(x, OB 4 [.ref qw, .ref qv, .ref qt, .int ri, .ref qd, .ref qc, .ref ql])] rfl (by decide) (by decide) [0, 1, 2, 3] (by decide) (wf := (fun (u : Unit) => [(x, OB 4 [.ref qw, .ref qv, .ref qt, .int ri, .ref qd, .ref qc, .ref ql]), (qw, OB 3 [.ref wa, .ref wo, .int (nI nw)]), (wa, AI cI 40 (rvF (rvF bw 0 nw) 0 nw)), (wo, AI cI 40 (rvF (rvF cw 0 nw) 0 nw))])) (fun _ => rfl) (fun u h_6 => ?_)
      refine x_aload_n C dX4_rotate_29 rfl 0 rfl ?_
      refine x_getN C hK hNW in_X4_rotate_X3 1 rfl rfl 2 (by decide) 31 rfl rfl rfl dX4_rotate_30 ?_
      refine x_iret C hK hlk hrt hQ hH0 hAA () ?_ [0, 1, 2, 3] (by decide) rfl (by first | decide | omega) (by first | decide | omega) dX4_rotate_33
      first | rfl | (exact ⟨rfl, rfl⟩) | trivial | assumption | omega
    ·
      exact absurd h_2 (by omega)
abbrev rm_rotateZ0 : Room := { frames := 1, cells := 0, slots := 0, locals := 22 }
set_option maxRecDepth 100000 in
set_option maxHeartbeats 4000000 in
theorem c_rotateZ0 (l : Launch) (D : va_G) (tys : List (ClassId × FieldType)) (cI cJ : ClassId) (hI : tys[0]? = some (cI, .int)) (hJ : tys[1]? = some (cJ, .long)) (x : Nat) (qw : Nat) (qv : Nat) (qt : Nat) (ri : Int32) (qd : Nat) (qc : Nat) (ql : Nat) (pa : Nat) (po : Nat) (bp : Nat → Int32) (cp : Nat → Int32) (pl : Nat) (hpl : pl ≤ 40) : MI l yX4_rotate wsX4_rotate rm_rotateZ0 D tys [.ref x, .int (nI 0), .int (nI pl)] [(x, OB 4 [.ref qw, .ref qv, .ref qt, .int ri, .ref qd, .ref qc, .ref ql]), (qv, OB 3 [.ref pa, .ref po, .int (nI 0)]), (pa, AI cI 40 bp), (po, AI cI 40 cp)] Unit (fun r (_ : Unit) => r = nI 0) (fun (_ : Unit) => [(x, OB 4 [.ref qw, .ref qv, .ref qt, .int ri, .ref qd, .ref qc, .ref ql]), (qv, OB 3 [.ref pa, .ref po, .int (nI 0)]), (pa, AI cI 40 bp), (po, AI cI 40 cp)]) 0 0 := by
  intro sz
  refine x_met (cc := cX4_rotate) (maxL := 4) (ret := (some .int)) (by decide +kernel) rfl (by show _ ≤ _; simp [lg_sl, Value.category]) [(0, .ref x), (1, .int (nI 0)), (2, .int (nI pl))] rfl ?_
  intro p e s m args below meth c Q A H0 C hK hNW hlk hrt hnm hQ hH0 hAA hA
  refine x_iload_n C dX4_rotate_0 rfl 2 rfl ?_
  refine xn_if_lt C 10 (by omega) dX4_rotate_1 (by decide) (fun h_1 => ?_) (fun h_1 => ?_)
  ·
    exact absurd h_1 (by omega)
  ·
    refine x_iload_n C dX4_rotate_4 rfl 2 rfl ?_
    refine x_bipush C (nI 40) dX4_rotate_5 (by decide +kernel) ?_
    refine xn_icmp_le C 18 (by omega) (by omega) dX4_rotate_7 (by decide) (fun h_2 => ?_) (fun h_2 => ?_)
    ·
      refine x_aload_n C dX4_rotate_18 rfl 0 rfl ?_
      refine x_iload_n C dX4_rotate_19 rfl 1 rfl ?_
      refine x_callrq (x_runV C hK hNW (c_rowOf0 l D tys cI cJ hI hJ x qw qv qt ri qd qc ql ) (cwV 1 C.2.2.2.2 gX4_rotate_X4_rowOf rfl rfl rfl (by decide +kernel) ⟨by decide, by decide⟩) [0] rfl (by decide) 0 4 rfl rfl rfl (st := []) rfl rfl (Nat.le_of_ble_eq_true rfl) dX4_rotate_20 ⟨by first | decide | omega, by first | decide | omega⟩) hA [0] rfl [1, 2, 3] [(qv, OB 3 [.ref pa, .ref po, .int (nI 0)]), (pa, AI cI 40 bp), (po, AI cI 40 cp)] rfl (by decide) (by decide) [3, 0, 1, 2] (by decide) rfl ?_
      refine x_astore_n C [(3, .ref qv), (0, .ref x), (1, .int (nI 0)), (2, .int (nI pl))] dX4_rotate_23 rfl (by decide) rfl ?_
      refine x_aload_n C dX4_rotate_24 rfl 0 rfl ?_
      refine x_iload_n C dX4_rotate_25 rfl 3 rfl ?_
      refine x_callv (x_runVN C hK hNW (c_tr_moveOn0 l D tys cI cJ hI hJ qv pa po 0 bp cp pl (by first | omega | assumption)) ⟨va_cnB 1 C.2.2.2.2 gX4_rotate_X3_moveOn_n98 rfl rfl rfl (hNW.at 23 rfl) (C.2.2.2.2 (.initialized RX3) (by decide +kernel)) (by decide +kernel) ⟨by decide, by decide⟩, C.2.2.2.2 (.instanceMethod yX3_moveOn) (by decide +kernel), C.2.2.2.2 (.selects RX3 yX3_moveOn yX3_moveOn) (by decide +kernel)⟩ [1, 2, 3] rfl (by decide) 1 3 rfl rfl rfl (st := []) rfl rfl (Nat.le_of_ble_eq_true rfl) dX4_rotate_26 ⟨by first | decide | omega, by first | decide | omega⟩) hA [1, 2, 3] rfl [0] [(x, OB 4 [.ref qw, .ref qv, .ref qt, .int ri, .ref qd, .ref qc, .ref ql])] rfl (by decide) (by decide) [0, 1, 2, 3] (by decide) (wf := (fun (u : Unit) => [(x, OB 4 [.ref qw, .ref qv, .ref qt, .int ri, .ref qd, .ref qc, .ref ql]), (qv, OB 3 [.ref pa, .ref po, .int (nI 0)]), (pa, AI cI 40 bp), (po, AI cI 40 cp)])) (fun _ => rfl) (fun u h_6 => ?_)
      refine x_aload_n C dX4_rotate_29 rfl 0 rfl ?_
      refine x_getN C hK hNW in_X4_rotate_X3 1 rfl rfl 2 (by decide) 31 rfl rfl rfl dX4_rotate_30 ?_
      refine x_iret C hK hlk hrt hQ hH0 hAA () ?_ [0, 1, 2, 3] (by decide) rfl (by first | decide | omega) (by first | decide | omega) dX4_rotate_33
      first | rfl | (exact ⟨rfl, rfl⟩) | trivial | assumption | omega
    ·
      exact absurd h_2 (by omega)
abbrev rm_rotateA0 : Room := { frames := 3, cells := 0, slots := 0, locals := 70 }
set_option maxRecDepth 100000 in
set_option maxHeartbeats 4000000 in
theorem c_rotateA0 (l : Launch) (D : va_G) (tys : List (ClassId × FieldType)) (cI cJ : ClassId) (hI : tys[0]? = some (cI, .int)) (hJ : tys[1]? = some (cJ, .long)) (x : Nat) (qw : Nat) (qv : Nat) (qt : Nat) (ri : Int32) (qd : Nat) (qc : Nat) (ql : Nat) (pa : Nat) (po : Nat) (np : Nat) (bp : Nat → Int32) (cp : Nat → Int32) (pl : Nat) (hnp : np ≤ 40) (hpl : pl ≤ 40) (h0 : 0 < np) (hm : 0 < pl % np) : MI l yX4_rotate wsX4_rotate rm_rotateA0 D tys [.ref x, .int (nI 0), .int (nI pl)] [(x, OB 4 [.ref qw, .ref qv, .ref qt, .int ri, .ref qd, .ref qc, .ref ql]), (qv, OB 3 [.ref pa, .ref po, .int (nI np)]), (pa, AI cI 40 bp), (po, AI cI 40 cp)] Unit (fun r (_ : Unit) => r = nI np) (fun (_ : Unit) => [(x, OB 4 [.ref qw, .ref qv, .ref qt, .int ri, .ref qd, .ref qc, .ref ql]), (qv, OB 3 [.ref pa, .ref po, .int (nI np)]), (pa, AI cI 40 (rvF (rvF (rvF bp 0 np) 0 (pl % np)) (pl % np) np)), (po, AI cI 40 (rvF (rvF (rvF cp 0 np) 0 (pl % np)) (pl % np) np))]) 0 0 := by
  intro sz
  refine x_met (cc := cX4_rotate) (maxL := 4) (ret := (some .int)) (by decide +kernel) rfl (by show _ ≤ _; simp [lg_sl, Value.category]) [(0, .ref x), (1, .int (nI 0)), (2, .int (nI pl))] rfl ?_
  intro p e s m args below meth c Q A H0 C hK hNW hlk hrt hnm hQ hH0 hAA hA
  refine x_iload_n C dX4_rotate_0 rfl 2 rfl ?_
  refine xn_if_lt C 10 (by omega) dX4_rotate_1 (by decide) (fun h_1 => ?_) (fun h_1 => ?_)
  ·
    exact absurd h_1 (by omega)
  ·
    refine x_iload_n C dX4_rotate_4 rfl 2 rfl ?_
    refine x_bipush C (nI 40) dX4_rotate_5 (by decide +kernel) ?_
    refine xn_icmp_le C 18 (by omega) (by omega) dX4_rotate_7 (by decide) (fun h_2 => ?_) (fun h_2 => ?_)
    ·
      refine x_aload_n C dX4_rotate_18 rfl 0 rfl ?_
      refine x_iload_n C dX4_rotate_19 rfl 1 rfl ?_
      refine x_callrq (x_runV C hK hNW (c_rowOf0 l D tys cI cJ hI hJ x qw qv qt ri qd qc ql ) (cwV 1 C.2.2.2.2 gX4_rotate_X4_rowOf rfl rfl rfl (by decide +kernel) ⟨by decide, by decide⟩) [0] rfl (by decide) 0 4 rfl rfl rfl (st := []) rfl rfl (Nat.le_of_ble_eq_true rfl) dX4_rotate_20 ⟨by first | decide | omega, by first | decide | omega⟩) hA [0] rfl [1, 2, 3] [(qv, OB 3 [.ref pa, .ref po, .int (nI np)]), (pa, AI cI 40 bp), (po, AI cI 40 cp)] rfl (by decide) (by decide) [3, 0, 1, 2] (by decide) rfl ?_
      refine x_astore_n C [(3, .ref qv), (0, .ref x), (1, .int (nI 0)), (2, .int (nI pl))] dX4_rotate_23 rfl (by decide) rfl ?_
      refine x_aload_n C dX4_rotate_24 rfl 0 rfl ?_
      refine x_iload_n C dX4_rotate_25 rfl 3 rfl ?_
      refine x_callv (x_runVN C hK hNW (c_tr_moveOn l D tys cI cJ hI hJ qv pa po np bp cp pl (by first | omega | assumption) (by first | omega | assumption) (by first | omega | assumption) (by first | omega | assumption)) ⟨va_cnB 1 C.2.2.2.2 gX4_rotate_X3_moveOn_n98 rfl rfl rfl (hNW.at 23 rfl) (C.2.2.2.2 (.initialized RX3) (by decide +kernel)) (by decide +kernel) ⟨by decide, by decide⟩, C.2.2.2.2 (.instanceMethod yX3_moveOn) (by decide +kernel), C.2.2.2.2 (.selects RX3 yX3_moveOn yX3_moveOn) (by decide +kernel)⟩ [1, 2, 3] rfl (by decide) 1 3 rfl rfl rfl (st := []) rfl rfl (Nat.le_of_ble_eq_true rfl) dX4_rotate_26 ⟨by first | decide | omega, by first | decide | omega⟩) hA [1, 2, 3] rfl [0] [(x, OB 4 [.ref qw, .ref qv, .ref qt, .int ri, .ref qd, .ref qc, .ref ql])] rfl (by decide) (by decide) [0, 1, 2, 3] (by decide) (wf := (fun (u : Unit) => [(x, OB 4 [.ref qw, .ref qv, .ref qt, .int ri, .ref qd, .ref qc, .ref ql]), (qv, OB 3 [.ref pa, .ref po, .int (nI np)]), (pa, AI cI 40 (rvF (rvF (rvF bp 0 np) 0 (pl % np)) (pl % np) np)), (po, AI cI 40 (rvF (rvF (rvF cp 0 np) 0 (pl % np)) (pl % np) np))])) (fun _ => rfl) (fun u h_6 => ?_)
      refine x_aload_n C dX4_rotate_29 rfl 0 rfl ?_
      refine x_getN C hK hNW in_X4_rotate_X3 1 rfl rfl 2 (by decide) 31 rfl rfl rfl dX4_rotate_30 ?_
      refine x_iret C hK hlk hrt hQ hH0 hAA () ?_ [0, 1, 2, 3] (by decide) rfl (by first | decide | omega) (by first | decide | omega) dX4_rotate_33
      first | rfl | (exact ⟨rfl, rfl⟩) | trivial | assumption | omega
    ·
      exact absurd h_2 (by omega)
abbrev rm_rotateB0 : Room := { frames := 3, cells := 0, slots := 0, locals := 70 }
set_option maxRecDepth 100000 in
set_option maxHeartbeats 4000000 in
theorem c_rotateB0 (l : Launch) (D : va_G) (tys : List (ClassId × FieldType)) (cI cJ : ClassId) (hI : tys[0]? = some (cI, .int)) (hJ : tys[1]? = some (cJ, .long)) (x : Nat) (qw : Nat) (qv : Nat) (qt : Nat) (ri : Int32) (qd : Nat) (qc : Nat) (ql : Nat) (pa : Nat) (po : Nat) (np : Nat) (bp : Nat → Int32) (cp : Nat → Int32) (pl : Nat) (hnp : np ≤ 40) (hpl : pl ≤ 40) (h0 : 0 < np) (hm : pl % np = 0) : MI l yX4_rotate wsX4_rotate rm_rotateB0 D tys [.ref x, .int (nI 0), .int (nI pl)] [(x, OB 4 [.ref qw, .ref qv, .ref qt, .int ri, .ref qd, .ref qc, .ref ql]), (qv, OB 3 [.ref pa, .ref po, .int (nI np)]), (pa, AI cI 40 bp), (po, AI cI 40 cp)] Unit (fun r (_ : Unit) => r = nI np) (fun (_ : Unit) => [(x, OB 4 [.ref qw, .ref qv, .ref qt, .int ri, .ref qd, .ref qc, .ref ql]), (qv, OB 3 [.ref pa, .ref po, .int (nI np)]), (pa, AI cI 40 (rvF (rvF bp 0 np) 0 np)), (po, AI cI 40 (rvF (rvF cp 0 np) 0 np))]) 0 0 := by
  intro sz
  refine x_met (cc := cX4_rotate) (maxL := 4) (ret := (some .int)) (by decide +kernel) rfl (by show _ ≤ _; simp [lg_sl, Value.category]) [(0, .ref x), (1, .int (nI 0)), (2, .int (nI pl))] rfl ?_
  intro p e s m args below meth c Q A H0 C hK hNW hlk hrt hnm hQ hH0 hAA hA
  refine x_iload_n C dX4_rotate_0 rfl 2 rfl ?_
  refine xn_if_lt C 10 (by omega) dX4_rotate_1 (by decide) (fun h_1 => ?_) (fun h_1 => ?_)
  ·
    exact absurd h_1 (by omega)
  ·
    refine x_iload_n C dX4_rotate_4 rfl 2 rfl ?_
    refine x_bipush C (nI 40) dX4_rotate_5 (by decide +kernel) ?_
    refine xn_icmp_le C 18 (by omega) (by omega) dX4_rotate_7 (by decide) (fun h_2 => ?_) (fun h_2 => ?_)
    ·
      refine x_aload_n C dX4_rotate_18 rfl 0 rfl ?_
      refine x_iload_n C dX4_rotate_19 rfl 1 rfl ?_
      refine x_callrq (x_runV C hK hNW (c_rowOf0 l D tys cI cJ hI hJ x qw qv qt ri qd qc ql ) (cwV 1 C.2.2.2.2 gX4_rotate_X4_rowOf rfl rfl rfl (by decide +kernel) ⟨by decide, by decide⟩) [0] rfl (by decide) 0 4 rfl rfl rfl (st := []) rfl rfl (Nat.le_of_ble_eq_true rfl) dX4_rotate_20 ⟨by first | decide | omega, by first | decide | omega⟩) hA [0] rfl [1, 2, 3] [(qv, OB 3 [.ref pa, .ref po, .int (nI np)]), (pa, AI cI 40 bp), (po, AI cI 40 cp)] rfl (by decide) (by decide) [3, 0, 1, 2] (by decide) rfl ?_
      refine x_astore_n C [(3, .ref qv), (0, .ref x), (1, .int (nI 0)), (2, .int (nI pl))] dX4_rotate_23 rfl (by decide) rfl ?_
      refine x_aload_n C dX4_rotate_24 rfl 0 rfl ?_
      refine x_iload_n C dX4_rotate_25 rfl 3 rfl ?_
      refine x_callv (x_runVN C hK hNW (c_tr_moveOnZ l D tys cI cJ hI hJ qv pa po np bp cp pl (by first | omega | assumption) (by first | omega | assumption) (by first | omega | assumption) (by first | omega | assumption)) ⟨va_cnB 1 C.2.2.2.2 gX4_rotate_X3_moveOn_n98 rfl rfl rfl (hNW.at 23 rfl) (C.2.2.2.2 (.initialized RX3) (by decide +kernel)) (by decide +kernel) ⟨by decide, by decide⟩, C.2.2.2.2 (.instanceMethod yX3_moveOn) (by decide +kernel), C.2.2.2.2 (.selects RX3 yX3_moveOn yX3_moveOn) (by decide +kernel)⟩ [1, 2, 3] rfl (by decide) 1 3 rfl rfl rfl (st := []) rfl rfl (Nat.le_of_ble_eq_true rfl) dX4_rotate_26 ⟨by first | decide | omega, by first | decide | omega⟩) hA [1, 2, 3] rfl [0] [(x, OB 4 [.ref qw, .ref qv, .ref qt, .int ri, .ref qd, .ref qc, .ref ql])] rfl (by decide) (by decide) [0, 1, 2, 3] (by decide) (wf := (fun (u : Unit) => [(x, OB 4 [.ref qw, .ref qv, .ref qt, .int ri, .ref qd, .ref qc, .ref ql]), (qv, OB 3 [.ref pa, .ref po, .int (nI np)]), (pa, AI cI 40 (rvF (rvF bp 0 np) 0 np)), (po, AI cI 40 (rvF (rvF cp 0 np) 0 np))])) (fun _ => rfl) (fun u h_6 => ?_)
      refine x_aload_n C dX4_rotate_29 rfl 0 rfl ?_
      refine x_getN C hK hNW in_X4_rotate_X3 1 rfl rfl 2 (by decide) 31 rfl rfl rfl dX4_rotate_30 ?_
      refine x_iret C hK hlk hrt hQ hH0 hAA () ?_ [0, 1, 2, 3] (by decide) rfl (by first | decide | omega) (by first | decide | omega) dX4_rotate_33
      first | rfl | (exact ⟨rfl, rfl⟩) | trivial | assumption | omega
    ·
      exact absurd h_2 (by omega)
abbrev rm_rotateX : Room := { frames := 6, cells := 1, slots := 6, locals := 81 }
set_option maxRecDepth 100000 in
set_option maxHeartbeats 4000000 in
theorem c_rotateX (l : Launch) (hl0 : l.stackTraces = false) (D : va_G) (tys : List (ClassId × FieldType)) (cI cJ : ClassId) (hI : tys[0]? = some (cI, .int)) (hJ : tys[1]? = some (cJ, .long)) (x : Nat) (qw : Nat) (qv : Nat) (qt : Nat) (ri : Int32) (qd : Nat) (qc : Nat) (ql : Nat) (w0 : Int32) (pl : Int32) (hpl : below pl 41 = false) : XI l yX4_rotate wsX4_rotate rm_rotateX D tys [.ref x, .int w0, .int pl] [(x, OB 4 [.ref qw, .ref qv, .ref qt, .int ri, .ref qd, .ref qc, .ref ql])] Unit (fun _ _ => False) (fun _ => [(x, OB 4 [.ref qw, .ref qv, .ref qt, .int ri, .ref qd, .ref qc, .ref ql])]) [(x, OB 4 [.ref qw, .ref qv, .ref qt, .int ri, .ref qd, .ref qc, .ref ql])] (fun E => E = "java/lang/IllegalArgumentException") 1 6 := by
  intro sz
  refine x_metX (cc := cX4_rotate) (maxL := 4) (ret := (some .int)) (by decide +kernel) rfl (by show _ ≤ _; simp [lg_sl, Value.category]) [(0, .ref x), (1, .int w0), (2, .int pl)] rfl ?_
  intro p e s m args below meth c Q A H0 C hK hNW hlk hrt hnm hQ hH0 hAA hA hZ htab
  refine x_iload_n C dX4_rotate_0 rfl 2 rfl ?_
  refine x_if_lt C 10 dX4_rotate_1 (by decide) (fun h_1 => ?_) (fun h_1 => ?_)
  ·
    exact x_throw0 C hK hNW hl0 hlk htab hQ hH0 hAA hZ (cls := "java/lang/IllegalArgumentException") (names := ["java/lang/RuntimeException", "java/lang/Exception"]) (ik := 52) (ic := 54) (S := Unit) (by decide +kernel) (by decide +kernel) (by decide +kernel) (by decide +kernel) (by decide +kernel) (by decide +kernel) (by decide +kernel) dX4_rotate_10 dX4_rotate_13 dX4_rotate_14 dX4_rotate_17 (by decide) (by decide) (by decide) (by decide) rfl [0] (by decide) rfl (by decide) (by decide)
  ·
    refine x_iload_n C dX4_rotate_4 rfl 2 rfl ?_
    refine x_bipush C (nI 40) dX4_rotate_5 (by decide +kernel) ?_
    refine x_icmp_le C 18 dX4_rotate_7 (by decide) (fun h_2 => ?_) (fun h_2 => ?_)
    ·
      exact absurd ((below_le (by assumption) h_2).symm.trans hpl) (by decide)
    ·
      exact x_throw0 C hK hNW hl0 hlk htab hQ hH0 hAA hZ (cls := "java/lang/IllegalArgumentException") (names := ["java/lang/RuntimeException", "java/lang/Exception"]) (ik := 52) (ic := 54) (S := Unit) (by decide +kernel) (by decide +kernel) (by decide +kernel) (by decide +kernel) (by decide +kernel) (by decide +kernel) (by decide +kernel) dX4_rotate_10 dX4_rotate_13 dX4_rotate_14 dX4_rotate_17 (by decide) (by decide) (by decide) (by decide) rfl [0] (by decide) rfl (by decide) (by decide)
abbrev rm_repeat1 : Room := { frames := 2, cells := 0, slots := 0, locals := 45 }
set_option maxRecDepth 100000 in
set_option maxHeartbeats 4000000 in
theorem c_repeat1 (l : Launch) (D : va_G) (tys : List (ClassId × FieldType)) (cI cJ : ClassId) (hI : tys[0]? = some (cI, .int)) (hJ : tys[1]? = some (cJ, .long)) (x : Nat) (qw : Nat) (qv : Nat) (qt : Nat) (ri : Int32) (qd : Nat) (qc : Nat) (ql : Nat) (wa : Nat) (wo : Nat) (nw : Nat) (bw : Nat → Int32) (cw : Nat → Int32) (h2 : 2 * nw ≤ 40) : MI l yX4_repeat wsX4_repeat rm_repeat1 D tys [.ref x, .int (nI 1)] [(x, OB 4 [.ref qw, .ref qv, .ref qt, .int ri, .ref qd, .ref qc, .ref ql]), (qw, OB 3 [.ref wa, .ref wo, .int (nI nw)]), (wa, AI cI 40 bw), (wo, AI cI 40 cw)] Unit (fun r (_ : Unit) => r = nI (nw + nw)) (fun (_ : Unit) => [(x, OB 4 [.ref qw, .ref qv, .ref qt, .int ri, .ref qd, .ref qc, .ref ql]), (qw, OB 3 [.ref wa, .ref wo, .int (nI (nw + nw))]), (wa, AI cI 40 (rpF bw nw nw)), (wo, AI cI 40 (rpF cw nw nw))]) 0 0 := by
  intro sz
  refine x_met (cc := cX4_repeat) (maxL := 3) (ret := (some .int)) (by decide +kernel) rfl (by show _ ≤ _; simp [lg_sl, Value.category]) [(0, .ref x), (1, .int (nI 1))] rfl ?_
  intro p e s m args below meth c Q A H0 C hK hNW hlk hrt hnm hQ hH0 hAA hA
  refine x_aload_n C dX4_repeat_0 rfl 0 rfl ?_
  refine x_iload_n C dX4_repeat_1 rfl 1 rfl ?_
  refine x_callrq (x_runV C hK hNW (c_rowOf1 l D tys cI cJ hI hJ x qw qv qt ri qd qc ql ) (cwV 1 C.2.2.2.2 gX4_repeat_X4_rowOf rfl rfl rfl (by decide +kernel) ⟨by decide, by decide⟩) [0] rfl (by decide) 0 4 rfl rfl rfl (st := []) rfl rfl (Nat.le_of_ble_eq_true rfl) dX4_repeat_2 ⟨by first | decide | omega, by first | decide | omega⟩) hA [0] rfl [1, 2, 3] [(qw, OB 3 [.ref wa, .ref wo, .int (nI nw)]), (wa, AI cI 40 bw), (wo, AI cI 40 cw)] rfl (by decide) (by decide) [3, 0, 1, 2] (by decide) rfl ?_
  refine x_astore_n C [(2, .ref qw), (0, .ref x), (1, .int (nI 1))] dX4_repeat_5 rfl (by decide) rfl ?_
  refine x_aload_n C dX4_repeat_6 rfl 0 rfl ?_
  refine x_getN C hK hNW in_X4_repeat_X3 1 rfl rfl 2 (by decide) 31 rfl rfl rfl dX4_repeat_7 ?_
  refine x_iconst C (nI 2) dX4_repeat_10 (by decide +kernel) ?_
  refine xn_imul C dX4_repeat_11 ?_
  refine x_bipush C (nI 40) dX4_repeat_12 (by decide +kernel) ?_
  refine xn_icmp_le C 25 (by omega) (by omega) dX4_repeat_14 (by decide) (fun h_3 => ?_) (fun h_3 => ?_)
  ·
    refine x_aload_n C dX4_repeat_25 rfl 0 rfl ?_
    refine x_callv (x_runVN C hK hNW (c_tr_addCopy l D tys cI cJ hI hJ qw wa wo nw bw cw (by first | omega | assumption)) ⟨va_cnB 0 C.2.2.2.2 gX4_repeat_X3_addCopy_n102 rfl rfl rfl (hNW.at 24 rfl) (C.2.2.2.2 (.initialized RX3) (by decide +kernel)) (by decide +kernel) ⟨by decide, by decide⟩, C.2.2.2.2 (.instanceMethod yX3_addCopy) (by decide +kernel), C.2.2.2.2 (.selects RX3 yX3_addCopy yX3_addCopy) (by decide +kernel)⟩ [1, 2, 3] rfl (by decide) 1 3 rfl rfl rfl (st := []) rfl rfl (Nat.le_of_ble_eq_true rfl) dX4_repeat_26 ⟨by first | decide | omega, by first | decide | omega⟩) hA [1, 2, 3] rfl [0] [(x, OB 4 [.ref qw, .ref qv, .ref qt, .int ri, .ref qd, .ref qc, .ref ql])] rfl (by decide) (by decide) [0, 1, 2, 3] (by decide) (wf := (fun (u : Unit) => [(x, OB 4 [.ref qw, .ref qv, .ref qt, .int ri, .ref qd, .ref qc, .ref ql]), (qw, OB 3 [.ref wa, .ref wo, .int (nI (nw + nw))]), (wa, AI cI 40 (rpF bw nw nw)), (wo, AI cI 40 (rpF cw nw nw))])) (fun _ => rfl) (fun u h_5 => ?_)
    refine x_aload_n C dX4_repeat_29 rfl 0 rfl ?_
    refine x_getN C hK hNW in_X4_repeat_X3 1 rfl rfl 2 (by decide) 31 rfl rfl rfl dX4_repeat_30 ?_
    refine x_iret C hK hlk hrt hQ hH0 hAA () ?_ [0, 1, 2, 3] (by decide) rfl (by first | decide | omega) (by first | decide | omega) dX4_repeat_33
    first | rfl | (exact ⟨rfl, rfl⟩) | trivial | assumption | omega
  ·
    exact absurd h_3 (by omega)
abbrev rm_repeatX1 : Room := { frames := 6, cells := 1, slots := 6, locals := 81 }
set_option maxRecDepth 100000 in
set_option maxHeartbeats 4000000 in
theorem c_repeatX1 (l : Launch) (hl0 : l.stackTraces = false) (D : va_G) (tys : List (ClassId × FieldType)) (cI cJ : ClassId) (hI : tys[0]? = some (cI, .int)) (hJ : tys[1]? = some (cJ, .long)) (x : Nat) (qw : Nat) (qv : Nat) (qt : Nat) (ri : Int32) (qd : Nat) (qc : Nat) (ql : Nat) (wa : Nat) (wo : Nat) (nw : Nat) (bw : Nat → Int32) (cw : Nat → Int32) (hnw : nw ≤ 40) (h2 : 40 < 2 * nw) : XI l yX4_repeat wsX4_repeat rm_repeatX1 D tys [.ref x, .int (nI 1)] [(x, OB 4 [.ref qw, .ref qv, .ref qt, .int ri, .ref qd, .ref qc, .ref ql]), (qw, OB 3 [.ref wa, .ref wo, .int (nI nw)]), (wa, AI cI 40 bw), (wo, AI cI 40 cw)] Unit (fun _ _ => False) (fun _ => [(x, OB 4 [.ref qw, .ref qv, .ref qt, .int ri, .ref qd, .ref qc, .ref ql]), (qw, OB 3 [.ref wa, .ref wo, .int (nI nw)]), (wa, AI cI 40 bw), (wo, AI cI 40 cw)]) [(x, OB 4 [.ref qw, .ref qv, .ref qt, .int ri, .ref qd, .ref qc, .ref ql]), (qw, OB 3 [.ref wa, .ref wo, .int (nI nw)]), (wa, AI cI 40 bw), (wo, AI cI 40 cw)] (fun E => E = "java/lang/IllegalStateException") 1 6 := by
  intro sz
  refine x_metX (cc := cX4_repeat) (maxL := 3) (ret := (some .int)) (by decide +kernel) rfl (by show _ ≤ _; simp [lg_sl, Value.category]) [(0, .ref x), (1, .int (nI 1))] rfl ?_
  intro p e s m args below meth c Q A H0 C hK hNW hlk hrt hnm hQ hH0 hAA hA hZ htab
  refine x_aload_n C dX4_repeat_0 rfl 0 rfl ?_
  refine x_iload_n C dX4_repeat_1 rfl 1 rfl ?_
  refine x_callrq (x_runV C hK hNW (c_rowOf1 l D tys cI cJ hI hJ x qw qv qt ri qd qc ql ) (cwV 1 C.2.2.2.2 gX4_repeat_X4_rowOf rfl rfl rfl (by decide +kernel) ⟨by decide, by decide⟩) [0] rfl (by decide) 0 4 rfl rfl rfl (st := []) rfl rfl (Nat.le_of_ble_eq_true rfl) dX4_repeat_2 ⟨by first | decide | omega, by first | decide | omega⟩) hA [0] rfl [1, 2, 3] [(qw, OB 3 [.ref wa, .ref wo, .int (nI nw)]), (wa, AI cI 40 bw), (wo, AI cI 40 cw)] rfl (by decide) (by decide) [3, 0, 1, 2] (by decide) rfl ?_
  refine x_astore_n C [(2, .ref qw), (0, .ref x), (1, .int (nI 1))] dX4_repeat_5 rfl (by decide) rfl ?_
  refine x_aload_n C dX4_repeat_6 rfl 0 rfl ?_
  refine x_getN C hK hNW in_X4_repeat_X3 1 rfl rfl 2 (by decide) 31 rfl rfl rfl dX4_repeat_7 ?_
  refine x_iconst C (nI 2) dX4_repeat_10 (by decide +kernel) ?_
  refine xn_imul C dX4_repeat_11 ?_
  refine x_bipush C (nI 40) dX4_repeat_12 (by decide +kernel) ?_
  refine xn_icmp_le C 25 (by omega) (by omega) dX4_repeat_14 (by decide) (fun h_3 => ?_) (fun h_3 => ?_)
  ·
    exact absurd h_3 (by omega)
  ·
    exact x_throw0 C hK hNW hl0 hlk htab hQ hH0 hAA hZ (cls := "java/lang/IllegalStateException") (names := ["java/lang/RuntimeException", "java/lang/Exception"]) (ik := 59) (ic := 61) (S := Unit) (by decide +kernel) (by decide +kernel) (by decide +kernel) (by decide +kernel) (by decide +kernel) (by decide +kernel) (by decide +kernel) dX4_repeat_17 dX4_repeat_20 dX4_repeat_21 dX4_repeat_24 (by decide) (by decide) (by decide) (by decide) rfl [0, 1, 2, 3] (by decide) rfl (by decide) (by decide)
abbrev rm_repeat0 : Room := { frames := 2, cells := 0, slots := 0, locals := 45 }
set_option maxRecDepth 100000 in
set_option maxHeartbeats 4000000 in
theorem c_repeat0 (l : Launch) (D : va_G) (tys : List (ClassId × FieldType)) (cI cJ : ClassId) (hI : tys[0]? = some (cI, .int)) (hJ : tys[1]? = some (cJ, .long)) (x : Nat) (qw : Nat) (qv : Nat) (qt : Nat) (ri : Int32) (qd : Nat) (qc : Nat) (ql : Nat) (pa : Nat) (po : Nat) (np : Nat) (bp : Nat → Int32) (cp : Nat → Int32) (h2 : 2 * np ≤ 40) : MI l yX4_repeat wsX4_repeat rm_repeat0 D tys [.ref x, .int (nI 0)] [(x, OB 4 [.ref qw, .ref qv, .ref qt, .int ri, .ref qd, .ref qc, .ref ql]), (qv, OB 3 [.ref pa, .ref po, .int (nI np)]), (pa, AI cI 40 bp), (po, AI cI 40 cp)] Unit (fun r (_ : Unit) => r = nI (np + np)) (fun (_ : Unit) => [(x, OB 4 [.ref qw, .ref qv, .ref qt, .int ri, .ref qd, .ref qc, .ref ql]), (qv, OB 3 [.ref pa, .ref po, .int (nI (np + np))]), (pa, AI cI 40 (rpF bp np np)), (po, AI cI 40 (rpF cp np np))]) 0 0 := by
  intro sz
  refine x_met (cc := cX4_repeat) (maxL := 3) (ret := (some .int)) (by decide +kernel) rfl (by show _ ≤ _; simp [lg_sl, Value.category]) [(0, .ref x), (1, .int (nI 0))] rfl ?_
  intro p e s m args below meth c Q A H0 C hK hNW hlk hrt hnm hQ hH0 hAA hA
  refine x_aload_n C dX4_repeat_0 rfl 0 rfl ?_
  refine x_iload_n C dX4_repeat_1 rfl 1 rfl ?_
  refine x_callrq (x_runV C hK hNW (c_rowOf0 l D tys cI cJ hI hJ x qw qv qt ri qd qc ql ) (cwV 1 C.2.2.2.2 gX4_repeat_X4_rowOf rfl rfl rfl (by decide +kernel) ⟨by decide, by decide⟩) [0] rfl (by decide) 0 4 rfl rfl rfl (st := []) rfl rfl (Nat.le_of_ble_eq_true rfl) dX4_repeat_2 ⟨by first | decide | omega, by first | decide | omega⟩) hA [0] rfl [1, 2, 3] [(qv, OB 3 [.ref pa, .ref po, .int (nI np)]), (pa, AI cI 40 bp), (po, AI cI 40 cp)] rfl (by decide) (by decide) [3, 0, 1, 2] (by decide) rfl ?_
  refine x_astore_n C [(2, .ref qv), (0, .ref x), (1, .int (nI 0))] dX4_repeat_5 rfl (by decide) rfl ?_
  refine x_aload_n C dX4_repeat_6 rfl 0 rfl ?_
  refine x_getN C hK hNW in_X4_repeat_X3 1 rfl rfl 2 (by decide) 31 rfl rfl rfl dX4_repeat_7 ?_
  refine x_iconst C (nI 2) dX4_repeat_10 (by decide +kernel) ?_
  refine xn_imul C dX4_repeat_11 ?_
  refine x_bipush C (nI 40) dX4_repeat_12 (by decide +kernel) ?_
  refine xn_icmp_le C 25 (by omega) (by omega) dX4_repeat_14 (by decide) (fun h_3 => ?_) (fun h_3 => ?_)
  ·
    refine x_aload_n C dX4_repeat_25 rfl 0 rfl ?_
    refine x_callv (x_runVN C hK hNW (c_tr_addCopy l D tys cI cJ hI hJ qv pa po np bp cp (by first | omega | assumption)) ⟨va_cnB 0 C.2.2.2.2 gX4_repeat_X3_addCopy_n102 rfl rfl rfl (hNW.at 24 rfl) (C.2.2.2.2 (.initialized RX3) (by decide +kernel)) (by decide +kernel) ⟨by decide, by decide⟩, C.2.2.2.2 (.instanceMethod yX3_addCopy) (by decide +kernel), C.2.2.2.2 (.selects RX3 yX3_addCopy yX3_addCopy) (by decide +kernel)⟩ [1, 2, 3] rfl (by decide) 1 3 rfl rfl rfl (st := []) rfl rfl (Nat.le_of_ble_eq_true rfl) dX4_repeat_26 ⟨by first | decide | omega, by first | decide | omega⟩) hA [1, 2, 3] rfl [0] [(x, OB 4 [.ref qw, .ref qv, .ref qt, .int ri, .ref qd, .ref qc, .ref ql])] rfl (by decide) (by decide) [0, 1, 2, 3] (by decide) (wf := (fun (u : Unit) => [(x, OB 4 [.ref qw, .ref qv, .ref qt, .int ri, .ref qd, .ref qc, .ref ql]), (qv, OB 3 [.ref pa, .ref po, .int (nI (np + np))]), (pa, AI cI 40 (rpF bp np np)), (po, AI cI 40 (rpF cp np np))])) (fun _ => rfl) (fun u h_5 => ?_)
    refine x_aload_n C dX4_repeat_29 rfl 0 rfl ?_
    refine x_getN C hK hNW in_X4_repeat_X3 1 rfl rfl 2 (by decide) 31 rfl rfl rfl dX4_repeat_30 ?_
    refine x_iret C hK hlk hrt hQ hH0 hAA () ?_ [0, 1, 2, 3] (by decide) rfl (by first | decide | omega) (by first | decide | omega) dX4_repeat_33
    first | rfl | (exact ⟨rfl, rfl⟩) | trivial | assumption | omega
  ·
    exact absurd h_3 (by omega)
abbrev rm_repeatX0 : Room := { frames := 6, cells := 1, slots := 6, locals := 81 }
set_option maxRecDepth 100000 in
set_option maxHeartbeats 4000000 in
theorem c_repeatX0 (l : Launch) (hl0 : l.stackTraces = false) (D : va_G) (tys : List (ClassId × FieldType)) (cI cJ : ClassId) (hI : tys[0]? = some (cI, .int)) (hJ : tys[1]? = some (cJ, .long)) (x : Nat) (qw : Nat) (qv : Nat) (qt : Nat) (ri : Int32) (qd : Nat) (qc : Nat) (ql : Nat) (pa : Nat) (po : Nat) (np : Nat) (bp : Nat → Int32) (cp : Nat → Int32) (hnp : np ≤ 40) (h2 : 40 < 2 * np) : XI l yX4_repeat wsX4_repeat rm_repeatX0 D tys [.ref x, .int (nI 0)] [(x, OB 4 [.ref qw, .ref qv, .ref qt, .int ri, .ref qd, .ref qc, .ref ql]), (qv, OB 3 [.ref pa, .ref po, .int (nI np)]), (pa, AI cI 40 bp), (po, AI cI 40 cp)] Unit (fun _ _ => False) (fun _ => [(x, OB 4 [.ref qw, .ref qv, .ref qt, .int ri, .ref qd, .ref qc, .ref ql]), (qv, OB 3 [.ref pa, .ref po, .int (nI np)]), (pa, AI cI 40 bp), (po, AI cI 40 cp)]) [(x, OB 4 [.ref qw, .ref qv, .ref qt, .int ri, .ref qd, .ref qc, .ref ql]), (qv, OB 3 [.ref pa, .ref po, .int (nI np)]), (pa, AI cI 40 bp), (po, AI cI 40 cp)] (fun E => E = "java/lang/IllegalStateException") 1 6 := by
  intro sz
  refine x_metX (cc := cX4_repeat) (maxL := 3) (ret := (some .int)) (by decide +kernel) rfl (by show _ ≤ _; simp [lg_sl, Value.category]) [(0, .ref x), (1, .int (nI 0))] rfl ?_
  intro p e s m args below meth c Q A H0 C hK hNW hlk hrt hnm hQ hH0 hAA hA hZ htab
  refine x_aload_n C dX4_repeat_0 rfl 0 rfl ?_
  refine x_iload_n C dX4_repeat_1 rfl 1 rfl ?_
  refine x_callrq (x_runV C hK hNW (c_rowOf0 l D tys cI cJ hI hJ x qw qv qt ri qd qc ql ) (cwV 1 C.2.2.2.2 gX4_repeat_X4_rowOf rfl rfl rfl (by decide +kernel) ⟨by decide, by decide⟩) [0] rfl (by decide) 0 4 rfl rfl rfl (st := []) rfl rfl (Nat.le_of_ble_eq_true rfl) dX4_repeat_2 ⟨by first | decide | omega, by first | decide | omega⟩) hA [0] rfl [1, 2, 3] [(qv, OB 3 [.ref pa, .ref po, .int (nI np)]), (pa, AI cI 40 bp), (po, AI cI 40 cp)] rfl (by decide) (by decide) [3, 0, 1, 2] (by decide) rfl ?_
  refine x_astore_n C [(2, .ref qv), (0, .ref x), (1, .int (nI 0))] dX4_repeat_5 rfl (by decide) rfl ?_
  refine x_aload_n C dX4_repeat_6 rfl 0 rfl ?_
  refine x_getN C hK hNW in_X4_repeat_X3 1 rfl rfl 2 (by decide) 31 rfl rfl rfl dX4_repeat_7 ?_
  refine x_iconst C (nI 2) dX4_repeat_10 (by decide +kernel) ?_
  refine xn_imul C dX4_repeat_11 ?_
  refine x_bipush C (nI 40) dX4_repeat_12 (by decide +kernel) ?_
  refine xn_icmp_le C 25 (by omega) (by omega) dX4_repeat_14 (by decide) (fun h_3 => ?_) (fun h_3 => ?_)
  ·
    exact absurd h_3 (by omega)
  ·
    exact x_throw0 C hK hNW hl0 hlk htab hQ hH0 hAA hZ (cls := "java/lang/IllegalStateException") (names := ["java/lang/RuntimeException", "java/lang/Exception"]) (ik := 59) (ic := 61) (S := Unit) (by decide +kernel) (by decide +kernel) (by decide +kernel) (by decide +kernel) (by decide +kernel) (by decide +kernel) (by decide +kernel) dX4_repeat_17 dX4_repeat_20 dX4_repeat_21 dX4_repeat_24 (by decide) (by decide) (by decide) (by decide) rfl [0, 1, 2, 3] (by decide) rfl (by decide) (by decide)
abbrev rm_cut1 : Room := { frames := 1, cells := 0, slots := 0, locals := 21 }
set_option maxRecDepth 100000 in
set_option maxHeartbeats 4000000 in
theorem c_cut1 (l : Launch) (D : va_G) (tys : List (ClassId × FieldType)) (cI cJ : ClassId) (hI : tys[0]? = some (cI, .int)) (hJ : tys[1]? = some (cJ, .long)) (x : Nat) (qw : Nat) (qv : Nat) (qt : Nat) (ri : Int32) (qd : Nat) (qc : Nat) (ql : Nat) (wa : Nat) (wo : Nat) (nw : Nat) (bw : Nat → Int32) (cw : Nat → Int32) (lf : Nat) (hnw : nw ≤ 40) (hlf : lf ≤ nw) : MI l yX4_cut wsX4_cut rm_cut1 D tys [.ref x, .int (nI 1), .int (nI lf)] [(x, OB 4 [.ref qw, .ref qv, .ref qt, .int ri, .ref qd, .ref qc, .ref ql]), (qw, OB 3 [.ref wa, .ref wo, .int (nI nw)]), (wa, AI cI 40 bw), (wo, AI cI 40 cw)] Unit (fun r (_ : Unit) => r = nI (nw - lf)) (fun (_ : Unit) => [(x, OB 4 [.ref qw, .ref qv, .ref qt, .int ri, .ref qd, .ref qc, .ref ql]), (qw, OB 3 [.ref wa, .ref wo, .int (nI lf)]), (wa, AI cI 40 bw), (wo, AI cI 40 cw)]) 0 0 := by
  intro sz
  refine x_met (cc := cX4_cut) (maxL := 5) (ret := (some .int)) (by decide +kernel) rfl (by show _ ≤ _; simp [lg_sl, Value.category]) [(0, .ref x), (1, .int (nI 1)), (2, .int (nI lf))] rfl ?_
  intro p e s m args below meth c Q A H0 C hK hNW hlk hrt hnm hQ hH0 hAA hA
  refine x_aload_n C dX4_cut_0 rfl 0 rfl ?_
  refine x_iload_n C dX4_cut_1 rfl 1 rfl ?_
  refine x_callrq (x_runV C hK hNW (c_rowOf1 l D tys cI cJ hI hJ x qw qv qt ri qd qc ql ) (cwV 1 C.2.2.2.2 gX4_cut_X4_rowOf rfl rfl rfl (by decide +kernel) ⟨by decide, by decide⟩) [0] rfl (by decide) 0 4 rfl rfl rfl (st := []) rfl rfl (Nat.le_of_ble_eq_true rfl) dX4_cut_2 ⟨by first | decide | omega, by first | decide | omega⟩) hA [0] rfl [1, 2, 3] [(qw, OB 3 [.ref wa, .ref wo, .int (nI nw)]), (wa, AI cI 40 bw), (wo, AI cI 40 cw)] rfl (by decide) (by decide) [3, 0, 1, 2] (by decide) rfl ?_
  refine x_astore_n C [(3, .ref qw), (0, .ref x), (1, .int (nI 1)), (2, .int (nI lf))] dX4_cut_5 rfl (by decide) rfl ?_
  refine x_iload_n C dX4_cut_6 rfl 3 rfl ?_
  refine xn_if_lt C 18 (by omega) dX4_cut_7 (by decide) (fun h_3 => ?_) (fun h_3 => ?_)
  ·
    exact absurd h_3 (by omega)
  ·
    refine x_iload_n C dX4_cut_10 rfl 3 rfl ?_
    refine x_aload_n C dX4_cut_11 rfl 0 rfl ?_
    refine x_getN C hK hNW in_X4_cut_X3 1 rfl rfl 2 (by decide) 31 rfl rfl rfl dX4_cut_12 ?_
    refine xn_icmp_le C 26 (by omega) (by omega) dX4_cut_15 (by decide) (fun h_4 => ?_) (fun h_4 => ?_)
    ·
      refine x_aload_n C dX4_cut_26 rfl 0 rfl ?_
      refine x_getN C hK hNW in_X4_cut_X3 1 rfl rfl 2 (by decide) 31 rfl rfl rfl dX4_cut_27 ?_
      refine x_iload_n C dX4_cut_30 rfl 3 rfl ?_
      refine xn_isub C (by omega) dX4_cut_31 ?_
      refine x_istore C [(4, .int (nI (nw - lf))), (3, .ref qw), (0, .ref x), (1, .int (nI 1)), (2, .int (nI lf))] dX4_cut_32 (by decide) rfl ?_
      refine x_aload_n C dX4_cut_34 rfl 1 rfl ?_
      refine x_iload_n C dX4_cut_35 rfl 4 rfl ?_
      refine x_putN C hK hNW in_X4_cut_X3 tyX3 tyX3_ok nmX3 1 rfl rfl 2 (by decide) 31 rfl rfl rfl (tyX3_ok 2 (by decide)) rfl rfl (Nat.le_of_ble_eq_true rfl) [(x, OB 4 [.ref qw, .ref qv, .ref qt, .int ri, .ref qd, .ref qc, .ref ql]), (qw, OB 3 [.ref wa, .ref wo, .int (nI lf)]), (wa, AI cI 40 bw), (wo, AI cI 40 cw)] rfl dX4_cut_36 ?_
      refine x_iload C dX4_cut_39 0 rfl ?_
      refine x_iret C hK hlk hrt hQ hH0 hAA () ?_ [0, 1, 2, 3] (by decide) rfl (by first | decide | omega) (by first | decide | omega) dX4_cut_41
      first | rfl | (exact ⟨rfl, rfl⟩) | trivial | assumption | omega
    ·
      exact absurd h_4 (by omega)
abbrev rm_cutX1 : Room := { frames := 6, cells := 1, slots := 6, locals := 81 }
set_option maxRecDepth 100000 in
set_option maxHeartbeats 4000000 in
theorem c_cutX1 (l : Launch) (hl0 : l.stackTraces = false) (D : va_G) (tys : List (ClassId × FieldType)) (cI cJ : ClassId) (hI : tys[0]? = some (cI, .int)) (hJ : tys[1]? = some (cJ, .long)) (x : Nat) (qw : Nat) (qv : Nat) (qt : Nat) (ri : Int32) (qd : Nat) (qc : Nat) (ql : Nat) (wa : Nat) (wo : Nat) (nw : Nat) (bw : Nat → Int32) (cw : Nat → Int32) (lf : Int32) (hnw : nw ≤ 40) (hlf : below lf (nw + 1) = false) : XI l yX4_cut wsX4_cut rm_cutX1 D tys [.ref x, .int (nI 1), .int lf] [(x, OB 4 [.ref qw, .ref qv, .ref qt, .int ri, .ref qd, .ref qc, .ref ql]), (qw, OB 3 [.ref wa, .ref wo, .int (nI nw)]), (wa, AI cI 40 bw), (wo, AI cI 40 cw)] Unit (fun _ _ => False) (fun _ => [(x, OB 4 [.ref qw, .ref qv, .ref qt, .int ri, .ref qd, .ref qc, .ref ql]), (qw, OB 3 [.ref wa, .ref wo, .int (nI nw)]), (wa, AI cI 40 bw), (wo, AI cI 40 cw)]) [(x, OB 4 [.ref qw, .ref qv, .ref qt, .int ri, .ref qd, .ref qc, .ref ql]), (qw, OB 3 [.ref wa, .ref wo, .int (nI nw)]), (wa, AI cI 40 bw), (wo, AI cI 40 cw)] (fun E => E = "java/lang/IllegalArgumentException") 1 6 := by
  intro sz
  refine x_metX (cc := cX4_cut) (maxL := 5) (ret := (some .int)) (by decide +kernel) rfl (by show _ ≤ _; simp [lg_sl, Value.category]) [(0, .ref x), (1, .int (nI 1)), (2, .int lf)] rfl ?_
  intro p e s m args below meth c Q A H0 C hK hNW hlk hrt hnm hQ hH0 hAA hA hZ htab
  refine x_aload_n C dX4_cut_0 rfl 0 rfl ?_
  refine x_iload_n C dX4_cut_1 rfl 1 rfl ?_
  refine x_callrq (x_runV C hK hNW (c_rowOf1 l D tys cI cJ hI hJ x qw qv qt ri qd qc ql ) (cwV 1 C.2.2.2.2 gX4_cut_X4_rowOf rfl rfl rfl (by decide +kernel) ⟨by decide, by decide⟩) [0] rfl (by decide) 0 4 rfl rfl rfl (st := []) rfl rfl (Nat.le_of_ble_eq_true rfl) dX4_cut_2 ⟨by first | decide | omega, by first | decide | omega⟩) hA [0] rfl [1, 2, 3] [(qw, OB 3 [.ref wa, .ref wo, .int (nI nw)]), (wa, AI cI 40 bw), (wo, AI cI 40 cw)] rfl (by decide) (by decide) [3, 0, 1, 2] (by decide) rfl ?_
  refine x_astore_n C [(3, .ref qw), (0, .ref x), (1, .int (nI 1)), (2, .int lf)] dX4_cut_5 rfl (by decide) rfl ?_
  refine x_iload_n C dX4_cut_6 rfl 3 rfl ?_
  refine x_if_lt C 18 dX4_cut_7 (by decide) (fun h_3 => ?_) (fun h_3 => ?_)
  ·
    exact x_throw0 C hK hNW hl0 hlk htab hQ hH0 hAA hZ (cls := "java/lang/IllegalArgumentException") (names := ["java/lang/RuntimeException", "java/lang/Exception"]) (ik := 52) (ic := 54) (S := Unit) (by decide +kernel) (by decide +kernel) (by decide +kernel) (by decide +kernel) (by decide +kernel) (by decide +kernel) (by decide +kernel) dX4_cut_18 dX4_cut_21 dX4_cut_22 dX4_cut_25 (by decide) (by decide) (by decide) (by decide) rfl [0, 1, 2, 3] (by decide) rfl (by decide) (by decide)
  ·
    refine x_iload_n C dX4_cut_10 rfl 3 rfl ?_
    refine x_aload_n C dX4_cut_11 rfl 0 rfl ?_
    refine x_getN C hK hNW in_X4_cut_X3 1 rfl rfl 2 (by decide) 31 rfl rfl rfl dX4_cut_12 ?_
    refine x_icmp_le C 26 dX4_cut_15 (by decide) (fun h_4 => ?_) (fun h_4 => ?_)
    ·
      exact absurd ((below_le (by assumption) h_4).symm.trans hlf) (by decide)
    ·
      exact x_throw0 C hK hNW hl0 hlk htab hQ hH0 hAA hZ (cls := "java/lang/IllegalArgumentException") (names := ["java/lang/RuntimeException", "java/lang/Exception"]) (ik := 52) (ic := 54) (S := Unit) (by decide +kernel) (by decide +kernel) (by decide +kernel) (by decide +kernel) (by decide +kernel) (by decide +kernel) (by decide +kernel) dX4_cut_18 dX4_cut_21 dX4_cut_22 dX4_cut_25 (by decide) (by decide) (by decide) (by decide) rfl [0, 1, 2, 3] (by decide) rfl (by decide) (by decide)
abbrev rm_cut0 : Room := { frames := 1, cells := 0, slots := 0, locals := 21 }
set_option maxRecDepth 100000 in
set_option maxHeartbeats 4000000 in
theorem c_cut0 (l : Launch) (D : va_G) (tys : List (ClassId × FieldType)) (cI cJ : ClassId) (hI : tys[0]? = some (cI, .int)) (hJ : tys[1]? = some (cJ, .long)) (x : Nat) (qw : Nat) (qv : Nat) (qt : Nat) (ri : Int32) (qd : Nat) (qc : Nat) (ql : Nat) (pa : Nat) (po : Nat) (np : Nat) (bp : Nat → Int32) (cp : Nat → Int32) (lf : Nat) (hnp : np ≤ 40) (hlf : lf ≤ np) : MI l yX4_cut wsX4_cut rm_cut0 D tys [.ref x, .int (nI 0), .int (nI lf)] [(x, OB 4 [.ref qw, .ref qv, .ref qt, .int ri, .ref qd, .ref qc, .ref ql]), (qv, OB 3 [.ref pa, .ref po, .int (nI np)]), (pa, AI cI 40 bp), (po, AI cI 40 cp)] Unit (fun r (_ : Unit) => r = nI (np - lf)) (fun (_ : Unit) => [(x, OB 4 [.ref qw, .ref qv, .ref qt, .int ri, .ref qd, .ref qc, .ref ql]), (qv, OB 3 [.ref pa, .ref po, .int (nI lf)]), (pa, AI cI 40 bp), (po, AI cI 40 cp)]) 0 0 := by
  intro sz
  refine x_met (cc := cX4_cut) (maxL := 5) (ret := (some .int)) (by decide +kernel) rfl (by show _ ≤ _; simp [lg_sl, Value.category]) [(0, .ref x), (1, .int (nI 0)), (2, .int (nI lf))] rfl ?_
  intro p e s m args below meth c Q A H0 C hK hNW hlk hrt hnm hQ hH0 hAA hA
  refine x_aload_n C dX4_cut_0 rfl 0 rfl ?_
  refine x_iload_n C dX4_cut_1 rfl 1 rfl ?_
  refine x_callrq (x_runV C hK hNW (c_rowOf0 l D tys cI cJ hI hJ x qw qv qt ri qd qc ql ) (cwV 1 C.2.2.2.2 gX4_cut_X4_rowOf rfl rfl rfl (by decide +kernel) ⟨by decide, by decide⟩) [0] rfl (by decide) 0 4 rfl rfl rfl (st := []) rfl rfl (Nat.le_of_ble_eq_true rfl) dX4_cut_2 ⟨by first | decide | omega, by first | decide | omega⟩) hA [0] rfl [1, 2, 3] [(qv, OB 3 [.ref pa, .ref po, .int (nI np)]), (pa, AI cI 40 bp), (po, AI cI 40 cp)] rfl (by decide) (by decide) [3, 0, 1, 2] (by decide) rfl ?_
  refine x_astore_n C [(3, .ref qv), (0, .ref x), (1, .int (nI 0)), (2, .int (nI lf))] dX4_cut_5 rfl (by decide) rfl ?_
  refine x_iload_n C dX4_cut_6 rfl 3 rfl ?_
  refine xn_if_lt C 18 (by omega) dX4_cut_7 (by decide) (fun h_3 => ?_) (fun h_3 => ?_)
  ·
    exact absurd h_3 (by omega)
  ·
    refine x_iload_n C dX4_cut_10 rfl 3 rfl ?_
    refine x_aload_n C dX4_cut_11 rfl 0 rfl ?_
    refine x_getN C hK hNW in_X4_cut_X3 1 rfl rfl 2 (by decide) 31 rfl rfl rfl dX4_cut_12 ?_
    refine xn_icmp_le C 26 (by omega) (by omega) dX4_cut_15 (by decide) (fun h_4 => ?_) (fun h_4 => ?_)
    ·
      refine x_aload_n C dX4_cut_26 rfl 0 rfl ?_
      refine x_getN C hK hNW in_X4_cut_X3 1 rfl rfl 2 (by decide) 31 rfl rfl rfl dX4_cut_27 ?_
      refine x_iload_n C dX4_cut_30 rfl 3 rfl ?_
      refine xn_isub C (by omega) dX4_cut_31 ?_
      refine x_istore C [(4, .int (nI (np - lf))), (3, .ref qv), (0, .ref x), (1, .int (nI 0)), (2, .int (nI lf))] dX4_cut_32 (by decide) rfl ?_
      refine x_aload_n C dX4_cut_34 rfl 1 rfl ?_
      refine x_iload_n C dX4_cut_35 rfl 4 rfl ?_
      refine x_putN C hK hNW in_X4_cut_X3 tyX3 tyX3_ok nmX3 1 rfl rfl 2 (by decide) 31 rfl rfl rfl (tyX3_ok 2 (by decide)) rfl rfl (Nat.le_of_ble_eq_true rfl) [(x, OB 4 [.ref qw, .ref qv, .ref qt, .int ri, .ref qd, .ref qc, .ref ql]), (qv, OB 3 [.ref pa, .ref po, .int (nI lf)]), (pa, AI cI 40 bp), (po, AI cI 40 cp)] rfl dX4_cut_36 ?_
      refine x_iload C dX4_cut_39 0 rfl ?_
      refine x_iret C hK hlk hrt hQ hH0 hAA () ?_ [0, 1, 2, 3] (by decide) rfl (by first | decide | omega) (by first | decide | omega) dX4_cut_41
      first | rfl | (exact ⟨rfl, rfl⟩) | trivial | assumption | omega
    ·
      exact absurd h_4 (by omega)
abbrev rm_cutX0 : Room := { frames := 6, cells := 1, slots := 6, locals := 81 }
set_option maxRecDepth 100000 in
set_option maxHeartbeats 4000000 in
theorem c_cutX0 (l : Launch) (hl0 : l.stackTraces = false) (D : va_G) (tys : List (ClassId × FieldType)) (cI cJ : ClassId) (hI : tys[0]? = some (cI, .int)) (hJ : tys[1]? = some (cJ, .long)) (x : Nat) (qw : Nat) (qv : Nat) (qt : Nat) (ri : Int32) (qd : Nat) (qc : Nat) (ql : Nat) (pa : Nat) (po : Nat) (np : Nat) (bp : Nat → Int32) (cp : Nat → Int32) (lf : Int32) (hnp : np ≤ 40) (hlf : below lf (np + 1) = false) : XI l yX4_cut wsX4_cut rm_cutX0 D tys [.ref x, .int (nI 0), .int lf] [(x, OB 4 [.ref qw, .ref qv, .ref qt, .int ri, .ref qd, .ref qc, .ref ql]), (qv, OB 3 [.ref pa, .ref po, .int (nI np)]), (pa, AI cI 40 bp), (po, AI cI 40 cp)] Unit (fun _ _ => False) (fun _ => [(x, OB 4 [.ref qw, .ref qv, .ref qt, .int ri, .ref qd, .ref qc, .ref ql]), (qv, OB 3 [.ref pa, .ref po, .int (nI np)]), (pa, AI cI 40 bp), (po, AI cI 40 cp)]) [(x, OB 4 [.ref qw, .ref qv, .ref qt, .int ri, .ref qd, .ref qc, .ref ql]), (qv, OB 3 [.ref pa, .ref po, .int (nI np)]), (pa, AI cI 40 bp), (po, AI cI 40 cp)] (fun E => E = "java/lang/IllegalArgumentException") 1 6 := by
  intro sz
  refine x_metX (cc := cX4_cut) (maxL := 5) (ret := (some .int)) (by decide +kernel) rfl (by show _ ≤ _; simp [lg_sl, Value.category]) [(0, .ref x), (1, .int (nI 0)), (2, .int lf)] rfl ?_
  intro p e s m args below meth c Q A H0 C hK hNW hlk hrt hnm hQ hH0 hAA hA hZ htab
  refine x_aload_n C dX4_cut_0 rfl 0 rfl ?_
  refine x_iload_n C dX4_cut_1 rfl 1 rfl ?_
  refine x_callrq (x_runV C hK hNW (c_rowOf0 l D tys cI cJ hI hJ x qw qv qt ri qd qc ql ) (cwV 1 C.2.2.2.2 gX4_cut_X4_rowOf rfl rfl rfl (by decide +kernel) ⟨by decide, by decide⟩) [0] rfl (by decide) 0 4 rfl rfl rfl (st := []) rfl rfl (Nat.le_of_ble_eq_true rfl) dX4_cut_2 ⟨by first | decide | omega, by first | decide | omega⟩) hA [0] rfl [1, 2, 3] [(qv, OB 3 [.ref pa, .ref po, .int (nI np)]), (pa, AI cI 40 bp), (po, AI cI 40 cp)] rfl (by decide) (by decide) [3, 0, 1, 2] (by decide) rfl ?_
  refine x_astore_n C [(3, .ref qv), (0, .ref x), (1, .int (nI 0)), (2, .int lf)] dX4_cut_5 rfl (by decide) rfl ?_
  refine x_iload_n C dX4_cut_6 rfl 3 rfl ?_
  refine x_if_lt C 18 dX4_cut_7 (by decide) (fun h_3 => ?_) (fun h_3 => ?_)
  ·
    exact x_throw0 C hK hNW hl0 hlk htab hQ hH0 hAA hZ (cls := "java/lang/IllegalArgumentException") (names := ["java/lang/RuntimeException", "java/lang/Exception"]) (ik := 52) (ic := 54) (S := Unit) (by decide +kernel) (by decide +kernel) (by decide +kernel) (by decide +kernel) (by decide +kernel) (by decide +kernel) (by decide +kernel) dX4_cut_18 dX4_cut_21 dX4_cut_22 dX4_cut_25 (by decide) (by decide) (by decide) (by decide) rfl [0, 1, 2, 3] (by decide) rfl (by decide) (by decide)
  ·
    refine x_iload_n C dX4_cut_10 rfl 3 rfl ?_
    refine x_aload_n C dX4_cut_11 rfl 0 rfl ?_
    refine x_getN C hK hNW in_X4_cut_X3 1 rfl rfl 2 (by decide) 31 rfl rfl rfl dX4_cut_12 ?_
    refine x_icmp_le C 26 dX4_cut_15 (by decide) (fun h_4 => ?_) (fun h_4 => ?_)
    ·
      exact absurd ((below_le (by assumption) h_4).symm.trans hlf) (by decide)
    ·
      exact x_throw0 C hK hNW hl0 hlk htab hQ hH0 hAA hZ (cls := "java/lang/IllegalArgumentException") (names := ["java/lang/RuntimeException", "java/lang/Exception"]) (ik := 52) (ic := 54) (S := Unit) (by decide +kernel) (by decide +kernel) (by decide +kernel) (by decide +kernel) (by decide +kernel) (by decide +kernel) (by decide +kernel) dX4_cut_18 dX4_cut_21 dX4_cut_22 dX4_cut_25 (by decide) (by decide) (by decide) (by decide) rfl [0, 1, 2, 3] (by decide) rfl (by decide) (by decide)
