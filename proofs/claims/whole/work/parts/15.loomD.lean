/-! LoomDraft, fourth part -/
theorem in_X4_colourAppearingAs_X3 : ∀ w ∈ wsX30, w ∈ wsX4_colourAppearingAs := by decide +kernel
theorem in_X4_colourAppearingAs_X4 : ∀ w ∈ wsX40, w ∈ wsX4_colourAppearingAs := by decide +kernel
theorem in_X4_colourAt_X3 : ∀ w ∈ wsX30, w ∈ wsX4_colourAt := by decide +kernel
theorem in_X4_colourAt_X4 : ∀ w ∈ wsX40, w ∈ wsX4_colourAt := by decide +kernel
theorem in_X4_threadsOf_X3 : ∀ w ∈ wsX30, w ∈ wsX4_threadsOf := by decide +kernel
theorem in_X4_threadsOf_X4 : ∀ w ∈ wsX40, w ∈ wsX4_threadsOf := by decide +kernel
theorem in_X4_draw_X1 : ∀ w ∈ wsX10, w ∈ wsX4_draw := by decide +kernel
theorem in_X4_draw_X4 : ∀ w ∈ wsX40, w ∈ wsX4_draw := by decide +kernel
theorem in_X4_row_X1 : ∀ w ∈ wsX10, w ∈ wsX4_row := by decide +kernel
theorem in_X4_row_X4 : ∀ w ∈ wsX40, w ∈ wsX4_row := by decide +kernel
abbrev rm_casN : Room := { frames := 1, cells := 0, slots := 0, locals := 22 }
set_option maxRecDepth 100000 in
set_option maxHeartbeats 4000000 in
theorem c_casN (l : Launch) (D : va_G) (tys : List (ClassId × FieldType)) (cI cJ : ClassId) (hI : tys[0]? = some (cI, .int)) (hJ : tys[1]? = some (cJ, .long)) (x : Nat) (qw : Nat) (qv : Nat) (qt : Nat) (ri : Int32) (qd : Nat) (qc : Nat) (ql : Nat) (wa : Nat) (wo : Nat) (nw : Nat) (bw : Nat → Int32) (cw : Nat → Int32) (pa : Nat) (po : Nat) (np : Nat) (bp : Nat → Int32) (cp : Nat → Int32) (ix : Int32) (hnw : nw ≤ 40) (hnp : np ≤ 40) (hno : ∀ j, j < nw + np → hbit (seF (colF nw cw cp) j).toInt64 ((colF nw cw cp) j) = false → bc32 (seF (colF nw cw cp) j) ≠ ix) : MI l yX4_colourAppearingAs wsX4_colourAppearingAs rm_casN D tys [.ref x, .int ix] [(x, OB 4 [.ref qw, .ref qv, .ref qt, .int ri, .ref qd, .ref qc, .ref ql]), (qw, OB 3 [.ref wa, .ref wo, .int (nI nw)]), (wa, AI cI 40 bw), (wo, AI cI 40 cw), (qv, OB 3 [.ref pa, .ref po, .int (nI np)]), (pa, AI cI 40 bp), (po, AI cI 40 cp)] Unit (fun r (_ : Unit) => r = -1) (fun (_ : Unit) => [(x, OB 4 [.ref qw, .ref qv, .ref qt, .int ri, .ref qd, .ref qc, .ref ql]), (qw, OB 3 [.ref wa, .ref wo, .int (nI nw)]), (wa, AI cI 40 bw), (wo, AI cI 40 cw), (qv, OB 3 [.ref pa, .ref po, .int (nI np)]), (pa, AI cI 40 bp), (po, AI cI 40 cp)]) 0 0 := by
  intro sz
  refine x_met (cc := cX4_colourAppearingAs) (maxL := 6) (ret := (some .int)) (by decide +kernel) rfl (by show _ ≤ _; simp [lg_sl, Value.category]) [(0, .ref x), (1, .int ix)] rfl ?_
  intro p e s m args below meth c Q A H0 C hK hNW hlk hrt hnm hQ hH0 hAA hA
  refine x_iconst C (nI 0) dX4_colourAppearingAs_0 (by decide +kernel) ?_
  refine x_istore_n C [(2, .int (nI 0)), (0, .ref x), (1, .int ix)] dX4_colourAppearingAs_1 rfl (by decide) rfl ?_
  refine x_aload_n C dX4_colourAppearingAs_2 rfl 1 rfl ?_
  refine x_get C hK in_X4_colourAppearingAs_X4 0 rfl rfl 0 (by decide) (by decide +kernel) rfl rfl dX4_colourAppearingAs_3 ?_
  refine x_getN C hK hNW in_X4_colourAppearingAs_X3 1 rfl rfl 2 (by decide) 31 rfl rfl rfl dX4_colourAppearingAs_6 ?_
  refine x_aload_n C dX4_colourAppearingAs_9 rfl 1 rfl ?_
  refine x_get C hK in_X4_colourAppearingAs_X4 0 rfl rfl 1 (by decide) (by decide +kernel) rfl rfl dX4_colourAppearingAs_10 ?_
  refine x_getN C hK hNW in_X4_colourAppearingAs_X3 4 rfl rfl 2 (by decide) 31 rfl rfl rfl dX4_colourAppearingAs_13 ?_
  refine xn_iadd C dX4_colourAppearingAs_16 ?_
  refine x_istore_n C [(3, .int (nI (nw + np))), (2, .int (nI 0)), (0, .ref x), (1, .int ix)] dX4_colourAppearingAs_17 rfl (by decide) rfl ?_
  refine x_iconst C (nI 0) dX4_colourAppearingAs_18 (by decide +kernel) ?_
  refine x_istore C [(4, .int (nI 0)), (3, .int (nI (nw + np))), (2, .int (nI 0)), (0, .ref x), (1, .int ix)] dX4_colourAppearingAs_19 (by decide) rfl ?_
  have K_1 : ∀ (fuel : Nat) (i : Nat), (i ≤ nw + np) → nw + np - i < fuel → X_ p l e rm_casN s m args below meth c Q D A H0 6 0 0 [(x, OB 4 [.ref qw, .ref qv, .ref qt, .int ri, .ref qd, .ref qc, .ref ql]), (qw, OB 3 [.ref wa, .ref wo, .int (nI nw)]), (wa, AI cI 40 bw), (wo, AI cI 40 cw), (qv, OB 3 [.ref pa, .ref po, .int (nI np)]), (pa, AI cI 40 bp), (po, AI cI 40 cp)] [(0, .ref x), (1, .int ix), (2, .int (seF (colF nw cw cp) i)), (3, .int (nI (nw + np))), (4, .int (nI i))] 21 [] := by
    intro fuel
    induction fuel with
    | zero =>
      intros
      exact absurd (by assumption) (Nat.not_lt_zero _)
    | succ fuel ih_K_1 =>
      intro i hi hm_2
      refine x_iload C dX4_colourAppearingAs_21 4 rfl ?_
      refine x_iload_n C dX4_colourAppearingAs_23 rfl 3 rfl ?_
      refine xn_icmp_ge C 106 (by omega) (by omega) dX4_colourAppearingAs_24 (by decide) (fun h_3 => ?_) (fun h_3 => ?_)
      ·
        refine x_iconst C (-1 : Int32) dX4_colourAppearingAs_106 (by decide +kernel) ?_
        refine x_iret C hK hlk hrt hQ hH0 hAA () ?_ [0, 1, 2, 3, 4, 5, 6] (by decide) rfl (by first | decide | omega) (by first | decide | omega) dX4_colourAppearingAs_107
        first | rfl | (exact ⟨rfl, rfl⟩) | trivial | assumption | omega
      ·
        refine x_iload C dX4_colourAppearingAs_27 4 rfl ?_
        refine x_aload_n C dX4_colourAppearingAs_29 rfl 0 rfl ?_
        refine x_get C hK in_X4_colourAppearingAs_X4 0 rfl rfl 0 (by decide) (by decide +kernel) rfl rfl dX4_colourAppearingAs_30 ?_
        refine x_getN C hK hNW in_X4_colourAppearingAs_X3 1 rfl rfl 2 (by decide) 31 rfl rfl rfl dX4_colourAppearingAs_33 ?_
        refine xn_icmp_ge C 52 (by omega) (by omega) dX4_colourAppearingAs_36 (by decide) (fun h_4 => ?_) (fun h_4 => ?_)
        ·
          refine x_aload_n C dX4_colourAppearingAs_52 rfl 0 rfl ?_
          refine x_get C hK in_X4_colourAppearingAs_X4 0 rfl rfl 1 (by decide) (by decide +kernel) rfl rfl dX4_colourAppearingAs_53 ?_
          refine x_getN C hK hNW in_X4_colourAppearingAs_X3 4 rfl rfl 1 (by decide) 30 rfl rfl rfl dX4_colourAppearingAs_56 ?_
          refine x_iload C dX4_colourAppearingAs_59 4 rfl ?_
          refine x_aload_n C dX4_colourAppearingAs_61 rfl 0 rfl ?_
          refine x_get C hK in_X4_colourAppearingAs_X4 0 rfl rfl 0 (by decide) (by decide +kernel) rfl rfl dX4_colourAppearingAs_62 ?_
          refine x_getN C hK hNW in_X4_colourAppearingAs_X3 1 rfl rfl 2 (by decide) 31 rfl rfl rfl dX4_colourAppearingAs_65 ?_
          refine xn_isub C (by omega) dX4_colourAppearingAs_68 ?_
          refine x_iald C hK 6 0 rfl hI (by omega) (by omega) dX4_colourAppearingAs_69 ?_
          refine x_topi (colF nw cw cp i) (by first | exact colF_w (by omega) | exact colF_p (by omega)) ?_
          refine x_istore C [(5, .int (colF nw cw cp i)), (0, .ref x), (1, .int ix), (2, .int (seF (colF nw cw cp) i)), (3, .int (nI (nw + np))), (4, .int (nI i))] dX4_colourAppearingAs_70 (by decide) rfl ?_
          refine x_iload_n C dX4_colourAppearingAs_72 rfl 3 rfl ?_
          refine x_i2l C _ dX4_colourAppearingAs_73 rfl ?_
          refine x_iload C dX4_colourAppearingAs_74 0 rfl ?_
          refine x_calli (x_runS C hK hNW (c_hasBit l D tys cI cJ hI hJ ((seF (colF nw cw cp) i).toInt64) (colF nw cw cp i) ) (va_cwS 2 C.2.2.2.2 gX4_colourAppearingAs_X4_hasBit rfl rfl rfl (by decide +kernel) ⟨by decide, by decide⟩) [] rfl (by decide) (st := []) rfl rfl (Nat.le_of_ble_eq_true rfl) dX4_colourAppearingAs_76 ⟨by first | decide | omega, by first | decide | omega⟩) hA [] rfl [0, 1, 2, 3, 4, 5, 6] [(x, OB 4 [.ref qw, .ref qv, .ref qt, .int ri, .ref qd, .ref qc, .ref ql]), (qw, OB 3 [.ref wa, .ref wo, .int (nI nw)]), (wa, AI cI 40 bw), (wo, AI cI 40 cw), (qv, OB 3 [.ref pa, .ref po, .int (nI np)]), (pa, AI cI 40 bp), (po, AI cI 40 cp)] rfl (by decide) (by decide) [0, 1, 2, 3, 4, 5, 6] (by decide) (wf := (fun (u : Unit) => [(x, OB 4 [.ref qw, .ref qv, .ref qt, .int ri, .ref qd, .ref qc, .ref ql]), (qw, OB 3 [.ref wa, .ref wo, .int (nI nw)]), (wa, AI cI 40 bw), (wo, AI cI 40 cw), (qv, OB 3 [.ref pa, .ref po, .int (nI np)]), (pa, AI cI 40 bp), (po, AI cI 40 cp)])) (fun _ => rfl) (fun r_5 u h_6 => ?_)
          subst h_6
          refine x_if_ne C 100 dX4_colourAppearingAs_79 (by decide) (fun h_7 => ?_) (fun h_7 => ?_)
          ·
            refine xn_iinc C (i + 1) [(4, .int (nI (i + 1))), (5, .int (colF nw cw cp i)), (0, .ref x), (1, .int ix), (2, .int (seF (colF nw cw cp) i)), (3, .int (nI (nw + np)))] dX4_colourAppearingAs_100 5 rfl (by rw [show Int32.ofInt 1 = nI 1 from by decide +kernel]; exact nI_add _ _) (by decide) rfl ?_
            refine x_goto C 21 dX4_colourAppearingAs_103 (by decide) ?_
            refine x_lv [(0, .ref x), (1, .int ix), (2, .int (seF (colF nw cw cp) (i + 1))), (3, .int (nI (nw + np))), (4, .int (nI (i + 1)))] [2, 3, 4, 5, 0] (by rw [show seF (colF nw cw cp) (i + 1) = seF (colF nw cw cp) i from by first | exact seF_y (bI_ne0 (by assumption)) | exact seF_n (bI_eq0 (by assumption))]; rfl) ?_
            exact ih_K_1 (i + 1) (by first | assumption | omega) (by omega)
          ·
            refine x_iload_n C dX4_colourAppearingAs_82 rfl 3 rfl ?_
            refine x_calli (x_runS C hK hNW (c_bit32 l D tys cI cJ hI hJ (seF (colF nw cw cp) i) ) (va_cwS 1 C.2.2.2.2 gX4_colourAppearingAs_J6_bitCount_0f7a4 rfl rfl rfl (by decide +kernel) ⟨by decide, by decide⟩) [] rfl (by decide) (st := []) rfl rfl (Nat.le_of_ble_eq_true rfl) dX4_colourAppearingAs_83 ⟨by first | decide | omega, by first | decide | omega⟩) hA [] rfl [0, 1, 2, 3, 4, 5, 6] [(x, OB 4 [.ref qw, .ref qv, .ref qt, .int ri, .ref qd, .ref qc, .ref ql]), (qw, OB 3 [.ref wa, .ref wo, .int (nI nw)]), (wa, AI cI 40 bw), (wo, AI cI 40 cw), (qv, OB 3 [.ref pa, .ref po, .int (nI np)]), (pa, AI cI 40 bp), (po, AI cI 40 cp)] rfl (by decide) (by decide) [0, 1, 2, 3, 4, 5, 6] (by decide) (wf := (fun (u : Unit) => [(x, OB 4 [.ref qw, .ref qv, .ref qt, .int ri, .ref qd, .ref qc, .ref ql]), (qw, OB 3 [.ref wa, .ref wo, .int (nI nw)]), (wa, AI cI 40 bw), (wo, AI cI 40 cw), (qv, OB 3 [.ref pa, .ref po, .int (nI np)]), (pa, AI cI 40 bp), (po, AI cI 40 cp)])) (fun _ => rfl) (fun r_8 u h_9 => ?_)
            subst h_9
            refine x_iload_n C dX4_colourAppearingAs_86 rfl 2 rfl ?_
            refine x_icmp_ne C 93 dX4_colourAppearingAs_87 (by decide) (fun h_10 => ?_) (fun h_10 => ?_)
            ·
              refine x_iload_n C dX4_colourAppearingAs_93 rfl 3 rfl ?_
              refine x_iconst C (nI 1) dX4_colourAppearingAs_94 (by decide +kernel) ?_
              refine x_iload C dX4_colourAppearingAs_95 0 rfl ?_
              refine x_ishl C _ dX4_colourAppearingAs_97 rfl ?_
              refine x_ior C _ dX4_colourAppearingAs_98 rfl ?_
              refine x_istore_n C [(2, .int ((seF (colF nw cw cp) i) ||| ((nI 1) <<< ((colF nw cw cp i) &&& 31)))), (5, .int (colF nw cw cp i)), (0, .ref x), (1, .int ix), (3, .int (nI (nw + np))), (4, .int (nI i))] dX4_colourAppearingAs_99 rfl (by decide) rfl ?_
              refine xn_iinc C (i + 1) [(4, .int (nI (i + 1))), (2, .int ((seF (colF nw cw cp) i) ||| ((nI 1) <<< ((colF nw cw cp i) &&& 31)))), (5, .int (colF nw cw cp i)), (0, .ref x), (1, .int ix), (3, .int (nI (nw + np)))] dX4_colourAppearingAs_100 5 rfl (by rw [show Int32.ofInt 1 = nI 1 from by decide +kernel]; exact nI_add _ _) (by decide) rfl ?_
              refine x_goto C 21 dX4_colourAppearingAs_103 (by decide) ?_
              refine x_lv [(0, .ref x), (1, .int ix), (2, .int (seF (colF nw cw cp) (i + 1))), (3, .int (nI (nw + np))), (4, .int (nI (i + 1)))] [3, 4, 1, 5, 0] (by rw [show seF (colF nw cw cp) (i + 1) = (seF (colF nw cw cp) i) ||| ((nI 1) <<< ((colF nw cw cp i) &&& 31)) from by first | exact seF_y (bI_ne0 (by assumption)) | exact seF_n (bI_eq0 (by assumption))]; rfl) ?_
              exact ih_K_1 (i + 1) (by first | assumption | omega) (by omega)
            ·
              exact absurd h_10 (hno i (by omega) (bI_eq0 (by assumption)))
        ·
          refine x_aload_n C dX4_colourAppearingAs_39 rfl 0 rfl ?_
          refine x_get C hK in_X4_colourAppearingAs_X4 0 rfl rfl 0 (by decide) (by decide +kernel) rfl rfl dX4_colourAppearingAs_40 ?_
          refine x_getN C hK hNW in_X4_colourAppearingAs_X3 1 rfl rfl 1 (by decide) 30 rfl rfl rfl dX4_colourAppearingAs_43 ?_
          refine x_iload C dX4_colourAppearingAs_46 4 rfl ?_
          refine x_iald C hK 3 0 rfl hI (by omega) (by omega) dX4_colourAppearingAs_48 ?_
          refine x_goto C 70 dX4_colourAppearingAs_49 (by decide) ?_
          refine x_topi (colF nw cw cp i) (by first | exact colF_w (by omega) | exact colF_p (by omega)) ?_
          refine x_istore C [(5, .int (colF nw cw cp i)), (0, .ref x), (1, .int ix), (2, .int (seF (colF nw cw cp) i)), (3, .int (nI (nw + np))), (4, .int (nI i))] dX4_colourAppearingAs_70 (by decide) rfl ?_
          refine x_iload_n C dX4_colourAppearingAs_72 rfl 3 rfl ?_
          refine x_i2l C _ dX4_colourAppearingAs_73 rfl ?_
          refine x_iload C dX4_colourAppearingAs_74 0 rfl ?_
          refine x_calli (x_runS C hK hNW (c_hasBit l D tys cI cJ hI hJ ((seF (colF nw cw cp) i).toInt64) (colF nw cw cp i) ) (va_cwS 2 C.2.2.2.2 gX4_colourAppearingAs_X4_hasBit rfl rfl rfl (by decide +kernel) ⟨by decide, by decide⟩) [] rfl (by decide) (st := []) rfl rfl (Nat.le_of_ble_eq_true rfl) dX4_colourAppearingAs_76 ⟨by first | decide | omega, by first | decide | omega⟩) hA [] rfl [0, 1, 2, 3, 4, 5, 6] [(x, OB 4 [.ref qw, .ref qv, .ref qt, .int ri, .ref qd, .ref qc, .ref ql]), (qw, OB 3 [.ref wa, .ref wo, .int (nI nw)]), (wa, AI cI 40 bw), (wo, AI cI 40 cw), (qv, OB 3 [.ref pa, .ref po, .int (nI np)]), (pa, AI cI 40 bp), (po, AI cI 40 cp)] rfl (by decide) (by decide) [0, 1, 2, 3, 4, 5, 6] (by decide) (wf := (fun (u : Unit) => [(x, OB 4 [.ref qw, .ref qv, .ref qt, .int ri, .ref qd, .ref qc, .ref ql]), (qw, OB 3 [.ref wa, .ref wo, .int (nI nw)]), (wa, AI cI 40 bw), (wo, AI cI 40 cw), (qv, OB 3 [.ref pa, .ref po, .int (nI np)]), (pa, AI cI 40 bp), (po, AI cI 40 cp)])) (fun _ => rfl) (fun r_11 u h_12 => ?_)
          subst h_12
          refine x_if_ne C 100 dX4_colourAppearingAs_79 (by decide) (fun h_13 => ?_) (fun h_13 => ?_)
          ·
            refine xn_iinc C (i + 1) [(4, .int (nI (i + 1))), (5, .int (colF nw cw cp i)), (0, .ref x), (1, .int ix), (2, .int (seF (colF nw cw cp) i)), (3, .int (nI (nw + np)))] dX4_colourAppearingAs_100 5 rfl (by rw [show Int32.ofInt 1 = nI 1 from by decide +kernel]; exact nI_add _ _) (by decide) rfl ?_
            refine x_goto C 21 dX4_colourAppearingAs_103 (by decide) ?_
            refine x_lv [(0, .ref x), (1, .int ix), (2, .int (seF (colF nw cw cp) (i + 1))), (3, .int (nI (nw + np))), (4, .int (nI (i + 1)))] [2, 3, 4, 5, 0] (by rw [show seF (colF nw cw cp) (i + 1) = seF (colF nw cw cp) i from by first | exact seF_y (bI_ne0 (by assumption)) | exact seF_n (bI_eq0 (by assumption))]; rfl) ?_
            exact ih_K_1 (i + 1) (by first | assumption | omega) (by omega)
          ·
            refine x_iload_n C dX4_colourAppearingAs_82 rfl 3 rfl ?_
            refine x_calli (x_runS C hK hNW (c_bit32 l D tys cI cJ hI hJ (seF (colF nw cw cp) i) ) (va_cwS 1 C.2.2.2.2 gX4_colourAppearingAs_J6_bitCount_0f7a4 rfl rfl rfl (by decide +kernel) ⟨by decide, by decide⟩) [] rfl (by decide) (st := []) rfl rfl (Nat.le_of_ble_eq_true rfl) dX4_colourAppearingAs_83 ⟨by first | decide | omega, by first | decide | omega⟩) hA [] rfl [0, 1, 2, 3, 4, 5, 6] [(x, OB 4 [.ref qw, .ref qv, .ref qt, .int ri, .ref qd, .ref qc, .ref ql]), (qw, OB 3 [.ref wa, .ref wo, .int (nI nw)]), (wa, AI cI 40 bw), (wo, AI cI 40 cw), (qv, OB 3 [.ref pa, .ref po, .int (nI np)]), (pa, AI cI 40 bp), (po, AI cI 40 cp)] rfl (by decide) (by decide) [0, 1, 2, 3, 4, 5, 6] (by decide) (wf := (fun (u : Unit) => [(x, OB 4 [.ref qw, .ref qv, .ref qt, .int ri, .ref qd, .ref qc, .ref ql]), (qw, OB 3 [.ref wa, .ref wo, .int (nI nw)]), (wa, AI cI 40 bw), (wo, AI cI 40 cw), (qv, OB 3 [.ref pa, .ref po, .int (nI np)]), (pa, AI cI 40 bp), (po, AI cI 40 cp)])) (fun _ => rfl) (fun r_14 u h_15 => ?_)
            subst h_15
            refine x_iload_n C dX4_colourAppearingAs_86 rfl 2 rfl ?_
            refine x_icmp_ne C 93 dX4_colourAppearingAs_87 (by decide) (fun h_16 => ?_) (fun h_16 => ?_)
            ·
              refine x_iload_n C dX4_colourAppearingAs_93 rfl 3 rfl ?_
              refine x_iconst C (nI 1) dX4_colourAppearingAs_94 (by decide +kernel) ?_
              refine x_iload C dX4_colourAppearingAs_95 0 rfl ?_
              refine x_ishl C _ dX4_colourAppearingAs_97 rfl ?_
              refine x_ior C _ dX4_colourAppearingAs_98 rfl ?_
              refine x_istore_n C [(2, .int ((seF (colF nw cw cp) i) ||| ((nI 1) <<< ((colF nw cw cp i) &&& 31)))), (5, .int (colF nw cw cp i)), (0, .ref x), (1, .int ix), (3, .int (nI (nw + np))), (4, .int (nI i))] dX4_colourAppearingAs_99 rfl (by decide) rfl ?_
              refine xn_iinc C (i + 1) [(4, .int (nI (i + 1))), (2, .int ((seF (colF nw cw cp) i) ||| ((nI 1) <<< ((colF nw cw cp i) &&& 31)))), (5, .int (colF nw cw cp i)), (0, .ref x), (1, .int ix), (3, .int (nI (nw + np)))] dX4_colourAppearingAs_100 5 rfl (by rw [show Int32.ofInt 1 = nI 1 from by decide +kernel]; exact nI_add _ _) (by decide) rfl ?_
              refine x_goto C 21 dX4_colourAppearingAs_103 (by decide) ?_
              refine x_lv [(0, .ref x), (1, .int ix), (2, .int (seF (colF nw cw cp) (i + 1))), (3, .int (nI (nw + np))), (4, .int (nI (i + 1)))] [3, 4, 1, 5, 0] (by rw [show seF (colF nw cw cp) (i + 1) = (seF (colF nw cw cp) i) ||| ((nI 1) <<< ((colF nw cw cp i) &&& 31)) from by first | exact seF_y (bI_ne0 (by assumption)) | exact seF_n (bI_eq0 (by assumption))]; rfl) ?_
              exact ih_K_1 (i + 1) (by first | assumption | omega) (by omega)
            ·
              exact absurd h_16 (hno i (by omega) (bI_eq0 (by assumption)))
  refine x_lv [(0, .ref x), (1, .int ix), (2, .int (seF (colF nw cw cp) 0)), (3, .int (nI (nw + np))), (4, .int (nI 0))] [3, 4, 2, 1, 0] (by rw [show seF (colF nw cw cp) 0 = nI 0 from by rfl]; rfl) ?_
  exact K_1 (nw + np - 0 + 1) 0 (by first | assumption | omega) (Nat.lt_succ_self _)
abbrev rm_casF : Room := { frames := 1, cells := 0, slots := 0, locals := 22 }
set_option maxRecDepth 100000 in
set_option maxHeartbeats 4000000 in
theorem c_casF (l : Launch) (D : va_G) (tys : List (ClassId × FieldType)) (cI cJ : ClassId) (hI : tys[0]? = some (cI, .int)) (hJ : tys[1]? = some (cJ, .long)) (x : Nat) (qw : Nat) (qv : Nat) (qt : Nat) (ri : Int32) (qd : Nat) (qc : Nat) (ql : Nat) (wa : Nat) (wo : Nat) (nw : Nat) (bw : Nat → Int32) (cw : Nat → Int32) (pa : Nat) (po : Nat) (np : Nat) (bp : Nat → Int32) (cp : Nat → Int32) (ix : Int32) (fi : Nat) (hnw : nw ≤ 40) (hnp : np ≤ 40) (hfi : fi < nw + np) (hnew : hbit (seF (colF nw cw cp) fi).toInt64 ((colF nw cw cp) fi) = false) (hbc : bc32 (seF (colF nw cw cp) fi) = ix) (hno : ∀ j, j < fi → hbit (seF (colF nw cw cp) j).toInt64 ((colF nw cw cp) j) = false → bc32 (seF (colF nw cw cp) j) ≠ ix) : MI l yX4_colourAppearingAs wsX4_colourAppearingAs rm_casF D tys [.ref x, .int ix] [(x, OB 4 [.ref qw, .ref qv, .ref qt, .int ri, .ref qd, .ref qc, .ref ql]), (qw, OB 3 [.ref wa, .ref wo, .int (nI nw)]), (wa, AI cI 40 bw), (wo, AI cI 40 cw), (qv, OB 3 [.ref pa, .ref po, .int (nI np)]), (pa, AI cI 40 bp), (po, AI cI 40 cp)] Unit (fun r (_ : Unit) => r = (colF nw cw cp) fi) (fun (_ : Unit) => [(x, OB 4 [.ref qw, .ref qv, .ref qt, .int ri, .ref qd, .ref qc, .ref ql]), (qw, OB 3 [.ref wa, .ref wo, .int (nI nw)]), (wa, AI cI 40 bw), (wo, AI cI 40 cw), (qv, OB 3 [.ref pa, .ref po, .int (nI np)]), (pa, AI cI 40 bp), (po, AI cI 40 cp)]) 0 0 := by
  intro sz
  refine x_met (cc := cX4_colourAppearingAs) (maxL := 6) (ret := (some .int)) (by decide +kernel) rfl (by show _ ≤ _; simp [lg_sl, Value.category]) [(0, .ref x), (1, .int ix)] rfl ?_
  intro p e s m args below meth c Q A H0 C hK hNW hlk hrt hnm hQ hH0 hAA hA
  refine x_iconst C (nI 0) dX4_colourAppearingAs_0 (by decide +kernel) ?_
  refine x_istore_n C [(2, .int (nI 0)), (0, .ref x), (1, .int ix)] dX4_colourAppearingAs_1 rfl (by decide) rfl ?_
  refine x_aload_n C dX4_colourAppearingAs_2 rfl 1 rfl ?_
  refine x_get C hK in_X4_colourAppearingAs_X4 0 rfl rfl 0 (by decide) (by decide +kernel) rfl rfl dX4_colourAppearingAs_3 ?_
  refine x_getN C hK hNW in_X4_colourAppearingAs_X3 1 rfl rfl 2 (by decide) 31 rfl rfl rfl dX4_colourAppearingAs_6 ?_
  refine x_aload_n C dX4_colourAppearingAs_9 rfl 1 rfl ?_
  refine x_get C hK in_X4_colourAppearingAs_X4 0 rfl rfl 1 (by decide) (by decide +kernel) rfl rfl dX4_colourAppearingAs_10 ?_
  refine x_getN C hK hNW in_X4_colourAppearingAs_X3 4 rfl rfl 2 (by decide) 31 rfl rfl rfl dX4_colourAppearingAs_13 ?_
  refine xn_iadd C dX4_colourAppearingAs_16 ?_
  refine x_istore_n C [(3, .int (nI (nw + np))), (2, .int (nI 0)), (0, .ref x), (1, .int ix)] dX4_colourAppearingAs_17 rfl (by decide) rfl ?_
  refine x_iconst C (nI 0) dX4_colourAppearingAs_18 (by decide +kernel) ?_
  refine x_istore C [(4, .int (nI 0)), (3, .int (nI (nw + np))), (2, .int (nI 0)), (0, .ref x), (1, .int ix)] dX4_colourAppearingAs_19 (by decide) rfl ?_
  have K_1 : ∀ (fuel : Nat) (i : Nat), (i ≤ fi) → fi - i < fuel → X_ p l e rm_casF s m args below meth c Q D A H0 6 0 0 [(x, OB 4 [.ref qw, .ref qv, .ref qt, .int ri, .ref qd, .ref qc, .ref ql]), (qw, OB 3 [.ref wa, .ref wo, .int (nI nw)]), (wa, AI cI 40 bw), (wo, AI cI 40 cw), (qv, OB 3 [.ref pa, .ref po, .int (nI np)]), (pa, AI cI 40 bp), (po, AI cI 40 cp)] [(0, .ref x), (1, .int ix), (2, .int (seF (colF nw cw cp) i)), (3, .int (nI (nw + np))), (4, .int (nI i))] 21 [] := by
    intro fuel
    induction fuel with
    | zero =>
      intros
      exact absurd (by assumption) (Nat.not_lt_zero _)
    | succ fuel ih_K_1 =>
      intro i hi hm_2
      refine x_iload C dX4_colourAppearingAs_21 4 rfl ?_
      refine x_iload_n C dX4_colourAppearingAs_23 rfl 3 rfl ?_
      refine xn_icmp_ge C 106 (by omega) (by omega) dX4_colourAppearingAs_24 (by decide) (fun h_3 => ?_) (fun h_3 => ?_)
      ·
        exact False.elim (by omega)
      ·
        refine x_iload C dX4_colourAppearingAs_27 4 rfl ?_
        refine x_aload_n C dX4_colourAppearingAs_29 rfl 0 rfl ?_
        refine x_get C hK in_X4_colourAppearingAs_X4 0 rfl rfl 0 (by decide) (by decide +kernel) rfl rfl dX4_colourAppearingAs_30 ?_
        refine x_getN C hK hNW in_X4_colourAppearingAs_X3 1 rfl rfl 2 (by decide) 31 rfl rfl rfl dX4_colourAppearingAs_33 ?_
        refine xn_icmp_ge C 52 (by omega) (by omega) dX4_colourAppearingAs_36 (by decide) (fun h_4 => ?_) (fun h_4 => ?_)
        ·
          refine x_aload_n C dX4_colourAppearingAs_52 rfl 0 rfl ?_
          refine x_get C hK in_X4_colourAppearingAs_X4 0 rfl rfl 1 (by decide) (by decide +kernel) rfl rfl dX4_colourAppearingAs_53 ?_
          refine x_getN C hK hNW in_X4_colourAppearingAs_X3 4 rfl rfl 1 (by decide) 30 rfl rfl rfl dX4_colourAppearingAs_56 ?_
          refine x_iload C dX4_colourAppearingAs_59 4 rfl ?_
          refine x_aload_n C dX4_colourAppearingAs_61 rfl 0 rfl ?_
          refine x_get C hK in_X4_colourAppearingAs_X4 0 rfl rfl 0 (by decide) (by decide +kernel) rfl rfl dX4_colourAppearingAs_62 ?_
          refine x_getN C hK hNW in_X4_colourAppearingAs_X3 1 rfl rfl 2 (by decide) 31 rfl rfl rfl dX4_colourAppearingAs_65 ?_
          refine xn_isub C (by omega) dX4_colourAppearingAs_68 ?_
          refine x_iald C hK 6 0 rfl hI (by omega) (by omega) dX4_colourAppearingAs_69 ?_
          refine x_topi (colF nw cw cp i) (by first | exact colF_w (by omega) | exact colF_p (by omega)) ?_
          refine x_istore C [(5, .int (colF nw cw cp i)), (0, .ref x), (1, .int ix), (2, .int (seF (colF nw cw cp) i)), (3, .int (nI (nw + np))), (4, .int (nI i))] dX4_colourAppearingAs_70 (by decide) rfl ?_
          refine x_iload_n C dX4_colourAppearingAs_72 rfl 3 rfl ?_
          refine x_i2l C _ dX4_colourAppearingAs_73 rfl ?_
          refine x_iload C dX4_colourAppearingAs_74 0 rfl ?_
          refine x_calli (x_runS C hK hNW (c_hasBit l D tys cI cJ hI hJ ((seF (colF nw cw cp) i).toInt64) (colF nw cw cp i) ) (va_cwS 2 C.2.2.2.2 gX4_colourAppearingAs_X4_hasBit rfl rfl rfl (by decide +kernel) ⟨by decide, by decide⟩) [] rfl (by decide) (st := []) rfl rfl (Nat.le_of_ble_eq_true rfl) dX4_colourAppearingAs_76 ⟨by first | decide | omega, by first | decide | omega⟩) hA [] rfl [0, 1, 2, 3, 4, 5, 6] [(x, OB 4 [.ref qw, .ref qv, .ref qt, .int ri, .ref qd, .ref qc, .ref ql]), (qw, OB 3 [.ref wa, .ref wo, .int (nI nw)]), (wa, AI cI 40 bw), (wo, AI cI 40 cw), (qv, OB 3 [.ref pa, .ref po, .int (nI np)]), (pa, AI cI 40 bp), (po, AI cI 40 cp)] rfl (by decide) (by decide) [0, 1, 2, 3, 4, 5, 6] (by decide) (wf := (fun (u : Unit) => [(x, OB 4 [.ref qw, .ref qv, .ref qt, .int ri, .ref qd, .ref qc, .ref ql]), (qw, OB 3 [.ref wa, .ref wo, .int (nI nw)]), (wa, AI cI 40 bw), (wo, AI cI 40 cw), (qv, OB 3 [.ref pa, .ref po, .int (nI np)]), (pa, AI cI 40 bp), (po, AI cI 40 cp)])) (fun _ => rfl) (fun r_5 u h_6 => ?_)
          subst h_6
          refine x_if_ne C 100 dX4_colourAppearingAs_79 (by decide) (fun h_7 => ?_) (fun h_7 => ?_)
          ·
            refine xn_iinc C (i + 1) [(4, .int (nI (i + 1))), (5, .int (colF nw cw cp i)), (0, .ref x), (1, .int ix), (2, .int (seF (colF nw cw cp) i)), (3, .int (nI (nw + np)))] dX4_colourAppearingAs_100 5 rfl (by rw [show Int32.ofInt 1 = nI 1 from by decide +kernel]; exact nI_add _ _) (by decide) rfl ?_
            refine x_goto C 21 dX4_colourAppearingAs_103 (by decide) ?_
            refine x_lv [(0, .ref x), (1, .int ix), (2, .int (seF (colF nw cw cp) (i + 1))), (3, .int (nI (nw + np))), (4, .int (nI (i + 1)))] [2, 3, 4, 5, 0] (by rw [show seF (colF nw cw cp) (i + 1) = seF (colF nw cw cp) i from by first | exact seF_y (bI_ne0 (by assumption)) | exact seF_n (bI_eq0 (by assumption))]; rfl) ?_
            exact ih_K_1 (i + 1) (by rcases Nat.lt_or_ge i fi with q | q; { exact q }; have e9 : fi = i := (by omega); subst e9; first | exact absurd hbc (by assumption) | exact absurd ((bI_ne0 (by assumption)).symm.trans hnew) (by decide)) (by rcases Nat.lt_or_ge i fi with q | q; { omega }; have e9 : fi = i := (by omega); subst e9; first | exact absurd hbc (by assumption) | exact absurd ((bI_ne0 (by assumption)).symm.trans hnew) (by decide))
          ·
            refine x_iload_n C dX4_colourAppearingAs_82 rfl 3 rfl ?_
            refine x_calli (x_runS C hK hNW (c_bit32 l D tys cI cJ hI hJ (seF (colF nw cw cp) i) ) (va_cwS 1 C.2.2.2.2 gX4_colourAppearingAs_J6_bitCount_0f7a4 rfl rfl rfl (by decide +kernel) ⟨by decide, by decide⟩) [] rfl (by decide) (st := []) rfl rfl (Nat.le_of_ble_eq_true rfl) dX4_colourAppearingAs_83 ⟨by first | decide | omega, by first | decide | omega⟩) hA [] rfl [0, 1, 2, 3, 4, 5, 6] [(x, OB 4 [.ref qw, .ref qv, .ref qt, .int ri, .ref qd, .ref qc, .ref ql]), (qw, OB 3 [.ref wa, .ref wo, .int (nI nw)]), (wa, AI cI 40 bw), (wo, AI cI 40 cw), (qv, OB 3 [.ref pa, .ref po, .int (nI np)]), (pa, AI cI 40 bp), (po, AI cI 40 cp)] rfl (by decide) (by decide) [0, 1, 2, 3, 4, 5, 6] (by decide) (wf := (fun (u : Unit) => [(x, OB 4 [.ref qw, .ref qv, .ref qt, .int ri, .ref qd, .ref qc, .ref ql]), (qw, OB 3 [.ref wa, .ref wo, .int (nI nw)]), (wa, AI cI 40 bw), (wo, AI cI 40 cw), (qv, OB 3 [.ref pa, .ref po, .int (nI np)]), (pa, AI cI 40 bp), (po, AI cI 40 cp)])) (fun _ => rfl) (fun r_8 u h_9 => ?_)
            subst h_9
            refine x_iload_n C dX4_colourAppearingAs_86 rfl 2 rfl ?_
            refine x_icmp_ne C 93 dX4_colourAppearingAs_87 (by decide) (fun h_10 => ?_) (fun h_10 => ?_)
            ·
              refine x_iload_n C dX4_colourAppearingAs_93 rfl 3 rfl ?_
              refine x_iconst C (nI 1) dX4_colourAppearingAs_94 (by decide +kernel) ?_
              refine x_iload C dX4_colourAppearingAs_95 0 rfl ?_
              refine x_ishl C _ dX4_colourAppearingAs_97 rfl ?_
              refine x_ior C _ dX4_colourAppearingAs_98 rfl ?_
              refine x_istore_n C [(2, .int ((seF (colF nw cw cp) i) ||| ((nI 1) <<< ((colF nw cw cp i) &&& 31)))), (5, .int (colF nw cw cp i)), (0, .ref x), (1, .int ix), (3, .int (nI (nw + np))), (4, .int (nI i))] dX4_colourAppearingAs_99 rfl (by decide) rfl ?_
              refine xn_iinc C (i + 1) [(4, .int (nI (i + 1))), (2, .int ((seF (colF nw cw cp) i) ||| ((nI 1) <<< ((colF nw cw cp i) &&& 31)))), (5, .int (colF nw cw cp i)), (0, .ref x), (1, .int ix), (3, .int (nI (nw + np)))] dX4_colourAppearingAs_100 5 rfl (by rw [show Int32.ofInt 1 = nI 1 from by decide +kernel]; exact nI_add _ _) (by decide) rfl ?_
              refine x_goto C 21 dX4_colourAppearingAs_103 (by decide) ?_
              refine x_lv [(0, .ref x), (1, .int ix), (2, .int (seF (colF nw cw cp) (i + 1))), (3, .int (nI (nw + np))), (4, .int (nI (i + 1)))] [3, 4, 1, 5, 0] (by rw [show seF (colF nw cw cp) (i + 1) = (seF (colF nw cw cp) i) ||| ((nI 1) <<< ((colF nw cw cp i) &&& 31)) from by first | exact seF_y (bI_ne0 (by assumption)) | exact seF_n (bI_eq0 (by assumption))]; rfl) ?_
              exact ih_K_1 (i + 1) (by rcases Nat.lt_or_ge i fi with q | q; { exact q }; have e9 : fi = i := (by omega); subst e9; first | exact absurd hbc (by assumption) | exact absurd ((bI_ne0 (by assumption)).symm.trans hnew) (by decide)) (by rcases Nat.lt_or_ge i fi with q | q; { omega }; have e9 : fi = i := (by omega); subst e9; first | exact absurd hbc (by assumption) | exact absurd ((bI_ne0 (by assumption)).symm.trans hnew) (by decide))
            ·
              refine x_iload C dX4_colourAppearingAs_90 0 rfl ?_
              refine x_iret C hK hlk hrt hQ hH0 hAA () ?_ [0, 1, 2, 3, 4, 5, 6] (by decide) rfl (by first | decide | omega) (by first | decide | omega) dX4_colourAppearingAs_92
              rcases Nat.lt_or_ge i fi with q | q
              · exact absurd (by assumption) (hno i q (bI_eq0 (by assumption)))
              · rw [show i = fi by omega]
        ·
          refine x_aload_n C dX4_colourAppearingAs_39 rfl 0 rfl ?_
          refine x_get C hK in_X4_colourAppearingAs_X4 0 rfl rfl 0 (by decide) (by decide +kernel) rfl rfl dX4_colourAppearingAs_40 ?_
          refine x_getN C hK hNW in_X4_colourAppearingAs_X3 1 rfl rfl 1 (by decide) 30 rfl rfl rfl dX4_colourAppearingAs_43 ?_
          refine x_iload C dX4_colourAppearingAs_46 4 rfl ?_
          refine x_iald C hK 3 0 rfl hI (by omega) (by omega) dX4_colourAppearingAs_48 ?_
          refine x_goto C 70 dX4_colourAppearingAs_49 (by decide) ?_
          refine x_topi (colF nw cw cp i) (by first | exact colF_w (by omega) | exact colF_p (by omega)) ?_
          refine x_istore C [(5, .int (colF nw cw cp i)), (0, .ref x), (1, .int ix), (2, .int (seF (colF nw cw cp) i)), (3, .int (nI (nw + np))), (4, .int (nI i))] dX4_colourAppearingAs_70 (by decide) rfl ?_
          refine x_iload_n C dX4_colourAppearingAs_72 rfl 3 rfl ?_
          refine x_i2l C _ dX4_colourAppearingAs_73 rfl ?_
          refine x_iload C dX4_colourAppearingAs_74 0 rfl ?_
          refine x_calli (x_runS C hK hNW (c_hasBit l D tys cI cJ hI hJ ((seF (colF nw cw cp) i).toInt64) (colF nw cw cp i) ) (va_cwS 2 C.2.2.2.2 gX4_colourAppearingAs_X4_hasBit rfl rfl rfl (by decide +kernel) ⟨by decide, by decide⟩) [] rfl (by decide) (st := []) rfl rfl (Nat.le_of_ble_eq_true rfl) dX4_colourAppearingAs_76 ⟨by first | decide | omega, by first | decide | omega⟩) hA [] rfl [0, 1, 2, 3, 4, 5, 6] [(x, OB 4 [.ref qw, .ref qv, .ref qt, .int ri, .ref qd, .ref qc, .ref ql]), (qw, OB 3 [.ref wa, .ref wo, .int (nI nw)]), (wa, AI cI 40 bw), (wo, AI cI 40 cw), (qv, OB 3 [.ref pa, .ref po, .int (nI np)]), (pa, AI cI 40 bp), (po, AI cI 40 cp)] rfl (by decide) (by decide) [0, 1, 2, 3, 4, 5, 6] (by decide) (wf := (fun (u : Unit) => [(x, OB 4 [.ref qw, .ref qv, .ref qt, .int ri, .ref qd, .ref qc, .ref ql]), (qw, OB 3 [.ref wa, .ref wo, .int (nI nw)]), (wa, AI cI 40 bw), (wo, AI cI 40 cw), (qv, OB 3 [.ref pa, .ref po, .int (nI np)]), (pa, AI cI 40 bp), (po, AI cI 40 cp)])) (fun _ => rfl) (fun r_11 u h_12 => ?_)
          subst h_12
          refine x_if_ne C 100 dX4_colourAppearingAs_79 (by decide) (fun h_13 => ?_) (fun h_13 => ?_)
          ·
            refine xn_iinc C (i + 1) [(4, .int (nI (i + 1))), (5, .int (colF nw cw cp i)), (0, .ref x), (1, .int ix), (2, .int (seF (colF nw cw cp) i)), (3, .int (nI (nw + np)))] dX4_colourAppearingAs_100 5 rfl (by rw [show Int32.ofInt 1 = nI 1 from by decide +kernel]; exact nI_add _ _) (by decide) rfl ?_
            refine x_goto C 21 dX4_colourAppearingAs_103 (by decide) ?_
            refine x_lv [(0, .ref x), (1, .int ix), (2, .int (seF (colF nw cw cp) (i + 1))), (3, .int (nI (nw + np))), (4, .int (nI (i + 1)))] [2, 3, 4, 5, 0] (by rw [show seF (colF nw cw cp) (i + 1) = seF (colF nw cw cp) i from by first | exact seF_y (bI_ne0 (by assumption)) | exact seF_n (bI_eq0 (by assumption))]; rfl) ?_
            exact ih_K_1 (i + 1) (by rcases Nat.lt_or_ge i fi with q | q; { exact q }; have e9 : fi = i := (by omega); subst e9; first | exact absurd hbc (by assumption) | exact absurd ((bI_ne0 (by assumption)).symm.trans hnew) (by decide)) (by rcases Nat.lt_or_ge i fi with q | q; { omega }; have e9 : fi = i := (by omega); subst e9; first | exact absurd hbc (by assumption) | exact absurd ((bI_ne0 (by assumption)).symm.trans hnew) (by decide))
          ·
            refine x_iload_n C dX4_colourAppearingAs_82 rfl 3 rfl ?_
            refine x_calli (x_runS C hK hNW (c_bit32 l D tys cI cJ hI hJ (seF (colF nw cw cp) i) ) (va_cwS 1 C.2.2.2.2 gX4_colourAppearingAs_J6_bitCount_0f7a4 rfl rfl rfl (by decide +kernel) ⟨by decide, by decide⟩) [] rfl (by decide) (st := []) rfl rfl (Nat.le_of_ble_eq_true rfl) dX4_colourAppearingAs_83 ⟨by first | decide | omega, by first | decide | omega⟩) hA [] rfl [0, 1, 2, 3, 4, 5, 6] [(x, OB 4 [.ref qw, .ref qv, .ref qt, .int ri, .ref qd, .ref qc, .ref ql]), (qw, OB 3 [.ref wa, .ref wo, .int (nI nw)]), (wa, AI cI 40 bw), (wo, AI cI 40 cw), (qv, OB 3 [.ref pa, .ref po, .int (nI np)]), (pa, AI cI 40 bp), (po, AI cI 40 cp)] rfl (by decide) (by decide) [0, 1, 2, 3, 4, 5, 6] (by decide) (wf := (fun (u : Unit) => [(x, OB 4 [.ref qw, .ref qv, .ref qt, .int ri, .ref qd, .ref qc, .ref ql]), (qw, OB 3 [.ref wa, .ref wo, .int (nI nw)]), (wa, AI cI 40 bw), (wo, AI cI 40 cw), (qv, OB 3 [.ref pa, .ref po, .int (nI np)]), (pa, AI cI 40 bp), (po, AI cI 40 cp)])) (fun _ => rfl) (fun r_14 u h_15 => ?_)
            subst h_15
            refine x_iload_n C dX4_colourAppearingAs_86 rfl 2 rfl ?_
            refine x_icmp_ne C 93 dX4_colourAppearingAs_87 (by decide) (fun h_16 => ?_) (fun h_16 => ?_)
            ·
              refine x_iload_n C dX4_colourAppearingAs_93 rfl 3 rfl ?_
              refine x_iconst C (nI 1) dX4_colourAppearingAs_94 (by decide +kernel) ?_
              refine x_iload C dX4_colourAppearingAs_95 0 rfl ?_
              refine x_ishl C _ dX4_colourAppearingAs_97 rfl ?_
              refine x_ior C _ dX4_colourAppearingAs_98 rfl ?_
              refine x_istore_n C [(2, .int ((seF (colF nw cw cp) i) ||| ((nI 1) <<< ((colF nw cw cp i) &&& 31)))), (5, .int (colF nw cw cp i)), (0, .ref x), (1, .int ix), (3, .int (nI (nw + np))), (4, .int (nI i))] dX4_colourAppearingAs_99 rfl (by decide) rfl ?_
              refine xn_iinc C (i + 1) [(4, .int (nI (i + 1))), (2, .int ((seF (colF nw cw cp) i) ||| ((nI 1) <<< ((colF nw cw cp i) &&& 31)))), (5, .int (colF nw cw cp i)), (0, .ref x), (1, .int ix), (3, .int (nI (nw + np)))] dX4_colourAppearingAs_100 5 rfl (by rw [show Int32.ofInt 1 = nI 1 from by decide +kernel]; exact nI_add _ _) (by decide) rfl ?_
              refine x_goto C 21 dX4_colourAppearingAs_103 (by decide) ?_
              refine x_lv [(0, .ref x), (1, .int ix), (2, .int (seF (colF nw cw cp) (i + 1))), (3, .int (nI (nw + np))), (4, .int (nI (i + 1)))] [3, 4, 1, 5, 0] (by rw [show seF (colF nw cw cp) (i + 1) = (seF (colF nw cw cp) i) ||| ((nI 1) <<< ((colF nw cw cp i) &&& 31)) from by first | exact seF_y (bI_ne0 (by assumption)) | exact seF_n (bI_eq0 (by assumption))]; rfl) ?_
              exact ih_K_1 (i + 1) (by rcases Nat.lt_or_ge i fi with q | q; { exact q }; have e9 : fi = i := (by omega); subst e9; first | exact absurd hbc (by assumption) | exact absurd ((bI_ne0 (by assumption)).symm.trans hnew) (by decide)) (by rcases Nat.lt_or_ge i fi with q | q; { omega }; have e9 : fi = i := (by omega); subst e9; first | exact absurd hbc (by assumption) | exact absurd ((bI_ne0 (by assumption)).symm.trans hnew) (by decide))
            ·
              refine x_iload C dX4_colourAppearingAs_90 0 rfl ?_
              refine x_iret C hK hlk hrt hQ hH0 hAA () ?_ [0, 1, 2, 3, 4, 5, 6] (by decide) rfl (by first | decide | omega) (by first | decide | omega) dX4_colourAppearingAs_92
              rcases Nat.lt_or_ge i fi with q | q
              · exact absurd (by assumption) (hno i q (bI_eq0 (by assumption)))
              · rw [show i = fi by omega]
  refine x_lv [(0, .ref x), (1, .int ix), (2, .int (seF (colF nw cw cp) 0)), (3, .int (nI (nw + np))), (4, .int (nI 0))] [3, 4, 2, 1, 0] (by rw [show seF (colF nw cw cp) 0 = nI 0 from by rfl]; rfl) ?_
  exact K_1 (fi - 0 + 1) 0 (by first | assumption | omega) (Nat.lt_succ_self _)
abbrev rm_colourAt : Room := { frames := 2, cells := 0, slots := 0, locals := 47 }
set_option maxRecDepth 100000 in
set_option maxHeartbeats 4000000 in
theorem c_colourAt (l : Launch) (D : va_G) (tys : List (ClassId × FieldType)) (cI cJ : ClassId) (hI : tys[0]? = some (cI, .int)) (hJ : tys[1]? = some (cJ, .long)) (x : Nat) (qw : Nat) (qv : Nat) (qt : Nat) (ri : Int32) (qd : Nat) (qc : Nat) (ql : Nat) (wa : Nat) (wo : Nat) (nw : Nat) (bw : Nat → Int32) (cw : Nat → Int32) (pa : Nat) (po : Nat) (np : Nat) (bp : Nat → Int32) (cp : Nat → Int32) (ix : Int32) (fi : Nat) (hnw : nw ≤ 40) (hnp : np ≤ 40) (hfi : fi < nw + np) (hnew : hbit (seF (colF nw cw cp) fi).toInt64 ((colF nw cw cp) fi) = false) (hbc : bc32 (seF (colF nw cw cp) fi) = ix) (hno : ∀ j, j < fi → hbit (seF (colF nw cw cp) j).toInt64 ((colF nw cw cp) j) = false → bc32 (seF (colF nw cw cp) j) ≠ ix) (hpos : ¬ (colF nw cw cp) fi < 0) : MI l yX4_colourAt wsX4_colourAt rm_colourAt D tys [.ref x, .int ix] [(x, OB 4 [.ref qw, .ref qv, .ref qt, .int ri, .ref qd, .ref qc, .ref ql]), (qw, OB 3 [.ref wa, .ref wo, .int (nI nw)]), (wa, AI cI 40 bw), (wo, AI cI 40 cw), (qv, OB 3 [.ref pa, .ref po, .int (nI np)]), (pa, AI cI 40 bp), (po, AI cI 40 cp)] Unit (fun r (_ : Unit) => r = (colF nw cw cp) fi) (fun (_ : Unit) => [(x, OB 4 [.ref qw, .ref qv, .ref qt, .int ri, .ref qd, .ref qc, .ref ql]), (qw, OB 3 [.ref wa, .ref wo, .int (nI nw)]), (wa, AI cI 40 bw), (wo, AI cI 40 cw), (qv, OB 3 [.ref pa, .ref po, .int (nI np)]), (pa, AI cI 40 bp), (po, AI cI 40 cp)]) 0 0 := by
  intro sz
  refine x_met (cc := cX4_colourAt) (maxL := 3) (ret := (some .int)) (by decide +kernel) rfl (by show _ ≤ _; simp [lg_sl, Value.category]) [(0, .ref x), (1, .int ix)] rfl ?_
  intro p e s m args below meth c Q A H0 C hK hNW hlk hrt hnm hQ hH0 hAA hA
  refine x_aload_n C dX4_colourAt_0 rfl 0 rfl ?_
  refine x_iload_n C dX4_colourAt_1 rfl 1 rfl ?_
  refine x_calli (x_runV C hK hNW (c_casF l D tys cI cJ hI hJ x qw qv qt ri qd qc ql wa wo nw bw cw pa po np bp cp ix fi (by first | omega | assumption) (by first | omega | assumption) (by first | omega | assumption) (by first | omega | assumption) (by first | omega | assumption) (by first | omega | assumption)) (cwV 1 C.2.2.2.2 gX4_colourAt_X4_colourAppearingAs rfl rfl rfl (by decide +kernel) ⟨by decide, by decide⟩) [0, 1, 2, 3, 4, 5, 6] rfl (by decide) 0 4 rfl rfl rfl (st := []) rfl rfl (Nat.le_of_ble_eq_true rfl) dX4_colourAt_2 ⟨by first | decide | omega, by first | decide | omega⟩) hA [0, 1, 2, 3, 4, 5, 6] rfl [] [] rfl (by decide) (by decide) [0, 1, 2, 3, 4, 5, 6] (by decide) (wf := (fun (u : Unit) => [(x, OB 4 [.ref qw, .ref qv, .ref qt, .int ri, .ref qd, .ref qc, .ref ql]), (qw, OB 3 [.ref wa, .ref wo, .int (nI nw)]), (wa, AI cI 40 bw), (wo, AI cI 40 cw), (qv, OB 3 [.ref pa, .ref po, .int (nI np)]), (pa, AI cI 40 bp), (po, AI cI 40 cp)])) (fun _ => rfl) (fun r_1 u h_2 => ?_)
  subst h_2
  refine x_istore_n C [(2, .int ((colF nw cw cp) fi)), (0, .ref x), (1, .int ix)] dX4_colourAt_5 rfl (by decide) rfl ?_
  refine x_iload_n C dX4_colourAt_6 rfl 0 rfl ?_
  refine x_if_ge C 18 dX4_colourAt_7 (by decide) (fun h_3 => ?_) (fun h_3 => ?_)
  ·
    refine x_iload_n C dX4_colourAt_18 rfl 0 rfl ?_
    refine x_iret C hK hlk hrt hQ hH0 hAA () ?_ [0, 1, 2, 3, 4, 5, 6] (by decide) rfl (by first | decide | omega) (by first | decide | omega) dX4_colourAt_19
    first | rfl | (exact ⟨rfl, rfl⟩) | trivial | assumption | omega
  ·
    exact absurd (by first | exact Int32.not_le.mp h_3 | exact h_3) hpos
abbrev rm_colourAtX : Room := { frames := 6, cells := 1, slots := 6, locals := 81 }
set_option maxRecDepth 100000 in
set_option maxHeartbeats 4000000 in
theorem c_colourAtX (l : Launch) (hl0 : l.stackTraces = false) (D : va_G) (tys : List (ClassId × FieldType)) (cI cJ : ClassId) (hI : tys[0]? = some (cI, .int)) (hJ : tys[1]? = some (cJ, .long)) (x : Nat) (qw : Nat) (qv : Nat) (qt : Nat) (ri : Int32) (qd : Nat) (qc : Nat) (ql : Nat) (wa : Nat) (wo : Nat) (nw : Nat) (bw : Nat → Int32) (cw : Nat → Int32) (pa : Nat) (po : Nat) (np : Nat) (bp : Nat → Int32) (cp : Nat → Int32) (ix : Int32) (hnw : nw ≤ 40) (hnp : np ≤ 40) (hno : ∀ j, j < nw + np → hbit (seF (colF nw cw cp) j).toInt64 ((colF nw cw cp) j) = false → bc32 (seF (colF nw cw cp) j) ≠ ix) : XI l yX4_colourAt wsX4_colourAt rm_colourAtX D tys [.ref x, .int ix] [(x, OB 4 [.ref qw, .ref qv, .ref qt, .int ri, .ref qd, .ref qc, .ref ql]), (qw, OB 3 [.ref wa, .ref wo, .int (nI nw)]), (wa, AI cI 40 bw), (wo, AI cI 40 cw), (qv, OB 3 [.ref pa, .ref po, .int (nI np)]), (pa, AI cI 40 bp), (po, AI cI 40 cp)] Unit (fun _ _ => False) (fun _ => [(x, OB 4 [.ref qw, .ref qv, .ref qt, .int ri, .ref qd, .ref qc, .ref ql]), (qw, OB 3 [.ref wa, .ref wo, .int (nI nw)]), (wa, AI cI 40 bw), (wo, AI cI 40 cw), (qv, OB 3 [.ref pa, .ref po, .int (nI np)]), (pa, AI cI 40 bp), (po, AI cI 40 cp)]) [(x, OB 4 [.ref qw, .ref qv, .ref qt, .int ri, .ref qd, .ref qc, .ref ql]), (qw, OB 3 [.ref wa, .ref wo, .int (nI nw)]), (wa, AI cI 40 bw), (wo, AI cI 40 cw), (qv, OB 3 [.ref pa, .ref po, .int (nI np)]), (pa, AI cI 40 bp), (po, AI cI 40 cp)] (fun E => E = "java/lang/IndexOutOfBoundsException") 1 6 := by
  intro sz
  refine x_metX (cc := cX4_colourAt) (maxL := 3) (ret := (some .int)) (by decide +kernel) rfl (by show _ ≤ _; simp [lg_sl, Value.category]) [(0, .ref x), (1, .int ix)] rfl ?_
  intro p e s m args below meth c Q A H0 C hK hNW hlk hrt hnm hQ hH0 hAA hA hZ htab
  refine x_aload_n C dX4_colourAt_0 rfl 0 rfl ?_
  refine x_iload_n C dX4_colourAt_1 rfl 1 rfl ?_
  refine x_calli (x_runV C hK hNW (c_casN l D tys cI cJ hI hJ x qw qv qt ri qd qc ql wa wo nw bw cw pa po np bp cp ix (by first | omega | assumption) (by first | omega | assumption) (by first | omega | assumption)) (cwV 1 C.2.2.2.2 gX4_colourAt_X4_colourAppearingAs rfl rfl rfl (by decide +kernel) ⟨by decide, by decide⟩) [0, 1, 2, 3, 4, 5, 6] rfl (by decide) 0 4 rfl rfl rfl (st := []) rfl rfl (Nat.le_of_ble_eq_true rfl) dX4_colourAt_2 ⟨by first | decide | omega, by first | decide | omega⟩) hA [0, 1, 2, 3, 4, 5, 6] rfl [] [] rfl (by decide) (by decide) [0, 1, 2, 3, 4, 5, 6] (by decide) (wf := (fun (u : Unit) => [(x, OB 4 [.ref qw, .ref qv, .ref qt, .int ri, .ref qd, .ref qc, .ref ql]), (qw, OB 3 [.ref wa, .ref wo, .int (nI nw)]), (wa, AI cI 40 bw), (wo, AI cI 40 cw), (qv, OB 3 [.ref pa, .ref po, .int (nI np)]), (pa, AI cI 40 bp), (po, AI cI 40 cp)])) (fun _ => rfl) (fun r_1 u h_2 => ?_)
  subst h_2
  refine x_istore_n C [(2, .int (-1)), (0, .ref x), (1, .int ix)] dX4_colourAt_5 rfl (by decide) rfl ?_
  refine x_iload_n C dX4_colourAt_6 rfl 0 rfl ?_
  refine x_if_ge C 18 dX4_colourAt_7 (by decide) (fun h_3 => ?_) (fun h_3 => ?_)
  ·
    exact absurd h_3 (by decide)
  ·
    exact x_throw0 C hK hNW hl0 hlk htab hQ hH0 hAA hZ (cls := "java/lang/IndexOutOfBoundsException") (names := ["java/lang/RuntimeException", "java/lang/Exception"]) (ik := 69) (ic := 71) (S := Unit) (by decide +kernel) (by decide +kernel) (by decide +kernel) (by decide +kernel) (by decide +kernel) (by decide +kernel) (by decide +kernel) dX4_colourAt_10 dX4_colourAt_13 dX4_colourAt_14 dX4_colourAt_17 (by decide) (by decide) (by decide) (by decide) rfl [0, 1, 2, 3, 4, 5, 6] (by decide) rfl (by decide) (by decide)
abbrev rm_threadsOf : Room := { frames := 1, cells := 0, slots := 0, locals := 23 }
set_option maxRecDepth 100000 in
set_option maxHeartbeats 4000000 in
theorem c_threadsOf (l : Launch) (D : va_G) (tys : List (ClassId × FieldType)) (cI cJ : ClassId) (hI : tys[0]? = some (cI, .int)) (hJ : tys[1]? = some (cJ, .long)) (x : Nat) (qw : Nat) (qv : Nat) (qt : Nat) (ri : Int32) (qd : Nat) (qc : Nat) (ql : Nat) (wa : Nat) (wo : Nat) (nw : Nat) (bw : Nat → Int32) (cw : Nat → Int32) (pa : Nat) (po : Nat) (np : Nat) (bp : Nat → Int32) (cp : Nat → Int32) (cl : Nat) (hnw : nw ≤ 40) (hnp : np ≤ 40) (hcl : cl < 8) : MI l yX4_threadsOf wsX4_threadsOf rm_threadsOf D tys [.ref x, .int (nI cl)] [(x, OB 4 [.ref qw, .ref qv, .ref qt, .int ri, .ref qd, .ref qc, .ref ql]), (qw, OB 3 [.ref wa, .ref wo, .int (nI nw)]), (wa, AI cI 40 bw), (wo, AI cI 40 cw), (qv, OB 3 [.ref pa, .ref po, .int (nI np)]), (pa, AI cI 40 bp), (po, AI cI 40 cp)] Unit (fun r (_ : Unit) => r = nI (cnE cw (nI cl) nw + cnE cp (nI cl) np)) (fun (_ : Unit) => [(x, OB 4 [.ref qw, .ref qv, .ref qt, .int ri, .ref qd, .ref qc, .ref ql]), (qw, OB 3 [.ref wa, .ref wo, .int (nI nw)]), (wa, AI cI 40 bw), (wo, AI cI 40 cw), (qv, OB 3 [.ref pa, .ref po, .int (nI np)]), (pa, AI cI 40 bp), (po, AI cI 40 cp)]) 0 0 := by
  intro sz
  refine x_met (cc := cX4_threadsOf) (maxL := 2) (ret := (some .int)) (by decide +kernel) rfl (by show _ ≤ _; simp [lg_sl, Value.category]) [(0, .ref x), (1, .int (nI cl))] rfl ?_
  intro p e s m args below meth c Q A H0 C hK hNW hlk hrt hnm hQ hH0 hAA hA
  refine x_iload_n C dX4_threadsOf_0 rfl 1 rfl ?_
  refine x_bipush C (nI 8) dX4_threadsOf_1 (by decide +kernel) ?_
  refine x_calli (x_runS C hK hNW (c_isBelow l D tys cI cJ hI hJ (nI cl) 8 (by first | omega | assumption)) (va_cwS 2 C.2.2.2.2 gX4_threadsOf_X4_isBelow rfl rfl rfl (by decide +kernel) ⟨by decide, by decide⟩) [] rfl (by decide) (st := []) rfl rfl (Nat.le_of_ble_eq_true rfl) dX4_threadsOf_3 ⟨by first | decide | omega, by first | decide | omega⟩) hA [] rfl [0, 1, 2, 3, 4, 5, 6] [(x, OB 4 [.ref qw, .ref qv, .ref qt, .int ri, .ref qd, .ref qc, .ref ql]), (qw, OB 3 [.ref wa, .ref wo, .int (nI nw)]), (wa, AI cI 40 bw), (wo, AI cI 40 cw), (qv, OB 3 [.ref pa, .ref po, .int (nI np)]), (pa, AI cI 40 bp), (po, AI cI 40 cp)] rfl (by decide) (by decide) [0, 1, 2, 3, 4, 5, 6] (by decide) (wf := (fun (u : Unit) => [(x, OB 4 [.ref qw, .ref qv, .ref qt, .int ri, .ref qd, .ref qc, .ref ql]), (qw, OB 3 [.ref wa, .ref wo, .int (nI nw)]), (wa, AI cI 40 bw), (wo, AI cI 40 cw), (qv, OB 3 [.ref pa, .ref po, .int (nI np)]), (pa, AI cI 40 bp), (po, AI cI 40 cp)])) (fun _ => rfl) (fun r_1 u h_2 => ?_)
  subst h_2
  refine x_if_ne C 17 dX4_threadsOf_6 (by decide) (fun h_3 => ?_) (fun h_3 => ?_)
  ·
    refine x_aload_n C dX4_threadsOf_17 rfl 0 rfl ?_
    refine x_get C hK in_X4_threadsOf_X4 0 rfl rfl 0 (by decide) (by decide +kernel) rfl rfl dX4_threadsOf_18 ?_
    refine x_iload_n C dX4_threadsOf_21 rfl 1 rfl ?_
    refine x_calli (x_runVN C hK hNW (c_tr_cnt l D tys cI cJ hI hJ qw wa wo nw bw cw (nI cl) (by first | omega | assumption)) ⟨va_cnB 1 C.2.2.2.2 gX4_threadsOf_X3_threadsColoured_n143 rfl rfl rfl (hNW.at 25 rfl) (C.2.2.2.2 (.initialized RX3) (by decide +kernel)) (by decide +kernel) ⟨by decide, by decide⟩, C.2.2.2.2 (.instanceMethod yX3_threadsColoured) (by decide +kernel), C.2.2.2.2 (.selects RX3 yX3_threadsColoured yX3_threadsColoured) (by decide +kernel)⟩ [1, 2, 3] rfl (by decide) 1 3 rfl rfl rfl (st := []) rfl rfl (Nat.le_of_ble_eq_true rfl) dX4_threadsOf_22 ⟨by first | decide | omega, by first | decide | omega⟩) hA [1, 2, 3] rfl [0, 4, 5, 6] [(x, OB 4 [.ref qw, .ref qv, .ref qt, .int ri, .ref qd, .ref qc, .ref ql]), (qv, OB 3 [.ref pa, .ref po, .int (nI np)]), (pa, AI cI 40 bp), (po, AI cI 40 cp)] rfl (by decide) (by decide) [0, 4, 5, 6, 1, 2, 3] (by decide) (wf := (fun (u : Unit) => [(x, OB 4 [.ref qw, .ref qv, .ref qt, .int ri, .ref qd, .ref qc, .ref ql]), (qw, OB 3 [.ref wa, .ref wo, .int (nI nw)]), (wa, AI cI 40 bw), (wo, AI cI 40 cw), (qv, OB 3 [.ref pa, .ref po, .int (nI np)]), (pa, AI cI 40 bp), (po, AI cI 40 cp)])) (fun _ => rfl) (fun r_4 u h_5 => ?_)
    subst h_5
    refine x_aload_n C dX4_threadsOf_25 rfl 0 rfl ?_
    refine x_get C hK in_X4_threadsOf_X4 0 rfl rfl 1 (by decide) (by decide +kernel) rfl rfl dX4_threadsOf_26 ?_
    refine x_iload_n C dX4_threadsOf_29 rfl 1 rfl ?_
    refine x_calli (x_runVN C hK hNW (c_tr_cnt l D tys cI cJ hI hJ qv pa po np bp cp (nI cl) (by first | omega | assumption)) ⟨va_cnB 1 C.2.2.2.2 gX4_threadsOf_X3_threadsColoured_n143 rfl rfl rfl (hNW.at 25 rfl) (C.2.2.2.2 (.initialized RX3) (by decide +kernel)) (by decide +kernel) ⟨by decide, by decide⟩, C.2.2.2.2 (.instanceMethod yX3_threadsColoured) (by decide +kernel), C.2.2.2.2 (.selects RX3 yX3_threadsColoured yX3_threadsColoured) (by decide +kernel)⟩ [4, 5, 6] rfl (by decide) 4 3 rfl rfl rfl (st := [.int (nI (cnE cw (nI cl) nw))]) rfl rfl (Nat.le_of_ble_eq_true rfl) dX4_threadsOf_30 ⟨by first | decide | omega, by first | decide | omega⟩) hA [4, 5, 6] rfl [0, 1, 2, 3] [(x, OB 4 [.ref qw, .ref qv, .ref qt, .int ri, .ref qd, .ref qc, .ref ql]), (qw, OB 3 [.ref wa, .ref wo, .int (nI nw)]), (wa, AI cI 40 bw), (wo, AI cI 40 cw)] rfl (by decide) (by decide) [0, 1, 2, 3, 4, 5, 6] (by decide) (wf := (fun (u : Unit) => [(x, OB 4 [.ref qw, .ref qv, .ref qt, .int ri, .ref qd, .ref qc, .ref ql]), (qw, OB 3 [.ref wa, .ref wo, .int (nI nw)]), (wa, AI cI 40 bw), (wo, AI cI 40 cw), (qv, OB 3 [.ref pa, .ref po, .int (nI np)]), (pa, AI cI 40 bp), (po, AI cI 40 cp)])) (fun _ => rfl) (fun r_6 u h_7 => ?_)
    subst h_7
    refine xn_iadd C dX4_threadsOf_33 ?_
    refine x_iret C hK hlk hrt hQ hH0 hAA () ?_ [0, 1, 2, 3, 4, 5, 6] (by decide) rfl (by first | decide | omega) (by first | decide | omega) dX4_threadsOf_34
    first | rfl | (exact ⟨rfl, rfl⟩) | trivial | assumption | omega
  ·
    exact absurd ((bI_eq0 h_3).symm.trans ((below_n (j := cl) (b := 8) (by omega)).trans (decide_eq_true (by omega)))) (by decide)
abbrev rm_threadsOfX : Room := { frames := 6, cells := 1, slots := 6, locals := 81 }
set_option maxRecDepth 100000 in
set_option maxHeartbeats 4000000 in
theorem c_threadsOfX (l : Launch) (hl0 : l.stackTraces = false) (D : va_G) (tys : List (ClassId × FieldType)) (cI cJ : ClassId) (hI : tys[0]? = some (cI, .int)) (hJ : tys[1]? = some (cJ, .long)) (x : Nat) (qw : Nat) (qv : Nat) (qt : Nat) (ri : Int32) (qd : Nat) (qc : Nat) (ql : Nat) (cl : Int32) (hx : below cl 8 = false) : XI l yX4_threadsOf wsX4_threadsOf rm_threadsOfX D tys [.ref x, .int cl] [(x, OB 4 [.ref qw, .ref qv, .ref qt, .int ri, .ref qd, .ref qc, .ref ql])] Unit (fun _ _ => False) (fun _ => [(x, OB 4 [.ref qw, .ref qv, .ref qt, .int ri, .ref qd, .ref qc, .ref ql])]) [(x, OB 4 [.ref qw, .ref qv, .ref qt, .int ri, .ref qd, .ref qc, .ref ql])] (fun E => E = "java/lang/IndexOutOfBoundsException") 1 6 := by
  intro sz
  refine x_metX (cc := cX4_threadsOf) (maxL := 2) (ret := (some .int)) (by decide +kernel) rfl (by show _ ≤ _; simp [lg_sl, Value.category]) [(0, .ref x), (1, .int cl)] rfl ?_
  intro p e s m args below meth c Q A H0 C hK hNW hlk hrt hnm hQ hH0 hAA hA hZ htab
  refine x_iload_n C dX4_threadsOf_0 rfl 1 rfl ?_
  refine x_bipush C (nI 8) dX4_threadsOf_1 (by decide +kernel) ?_
  refine x_calli (x_runS C hK hNW (c_isBelow l D tys cI cJ hI hJ cl 8 (by first | omega | assumption)) (va_cwS 2 C.2.2.2.2 gX4_threadsOf_X4_isBelow rfl rfl rfl (by decide +kernel) ⟨by decide, by decide⟩) [] rfl (by decide) (st := []) rfl rfl (Nat.le_of_ble_eq_true rfl) dX4_threadsOf_3 ⟨by first | decide | omega, by first | decide | omega⟩) hA [] rfl [0] [(x, OB 4 [.ref qw, .ref qv, .ref qt, .int ri, .ref qd, .ref qc, .ref ql])] rfl (by decide) (by decide) [0] (by decide) (wf := (fun (u : Unit) => [(x, OB 4 [.ref qw, .ref qv, .ref qt, .int ri, .ref qd, .ref qc, .ref ql])])) (fun _ => rfl) (fun r_1 u h_2 => ?_)
  subst h_2
  refine x_if_ne C 17 dX4_threadsOf_6 (by decide) (fun h_3 => ?_) (fun h_3 => ?_)
  ·
    exact absurd ((bI_ne0 h_3).symm.trans hx) (by decide)
  ·
    exact x_throw0 C hK hNW hl0 hlk htab hQ hH0 hAA hZ (cls := "java/lang/IndexOutOfBoundsException") (names := ["java/lang/RuntimeException", "java/lang/Exception"]) (ik := 69) (ic := 71) (S := Unit) (by decide +kernel) (by decide +kernel) (by decide +kernel) (by decide +kernel) (by decide +kernel) (by decide +kernel) (by decide +kernel) dX4_threadsOf_9 dX4_threadsOf_12 dX4_threadsOf_13 dX4_threadsOf_16 (by decide) (by decide) (by decide) (by decide) rfl [0] (by decide) rfl (by decide) (by decide)
abbrev rm_draw : Room := { frames := 0, cells := 0, slots := 0, locals := 0 }
set_option maxRecDepth 100000 in
set_option maxHeartbeats 4000000 in
theorem c_draw (l : Launch) (D : va_G) (tys : List (ClassId × FieldType)) (cI cJ : ClassId) (hI : tys[0]? = some (cI, .int)) (hJ : tys[1]? = some (cJ, .long)) (x : Nat) (qw : Nat) (qv : Nat) (qt : Nat) (ri : Int32) (qd : Nat) (qc : Nat) (ql : Nat) (dr : Nat) (dk : Nat) (ds : Nat) (dt : Nat) (co : Nat) (dn : Nat) (c1 : Nat) (h1 : 1 ≤ c1) (h2 : c1 ≤ 40) : MI l yX4_draw wsX4_draw rm_draw D tys [.ref x, .int (nI c1)] [(x, OB 4 [.ref qw, .ref qv, .ref qt, .int ri, .ref qd, .ref qc, .ref ql]), (qd, OB 1 [.ref dr, .ref dk, .ref ds, .ref dt, .int (nI co), .int (nI dn)])] Unit (fun r (_ : Unit) => r = nI dn) (fun (_ : Unit) => [(x, OB 4 [.ref qw, .ref qv, .ref qt, .int ri, .ref qd, .ref qc, .ref ql]), (qd, OB 1 [.ref dr, .ref dk, .ref ds, .ref dt, .int (nI c1), .int (nI 0)])]) 0 0 := by
  intro sz
  refine x_met (cc := cX4_draw) (maxL := 3) (ret := (some .int)) (by decide +kernel) rfl (by show _ ≤ _; simp [lg_sl, Value.category]) [(0, .ref x), (1, .int (nI c1))] rfl ?_
  intro p e s m args below meth c Q A H0 C hK hNW hlk hrt hnm hQ hH0 hAA hA
  refine x_iload_n C dX4_draw_0 rfl 1 rfl ?_
  refine x_iconst C (nI 1) dX4_draw_1 (by decide +kernel) ?_
  refine xn_icmp_lt C 11 (by omega) (by omega) dX4_draw_2 (by decide) (fun h_1 => ?_) (fun h_1 => ?_)
  ·
    exact absurd h_1 (by omega)
  ·
    refine x_iload_n C dX4_draw_5 rfl 1 rfl ?_
    refine x_bipush C (nI 40) dX4_draw_6 (by decide +kernel) ?_
    refine xn_icmp_le C 19 (by omega) (by omega) dX4_draw_8 (by decide) (fun h_2 => ?_) (fun h_2 => ?_)
    ·
      refine x_aload_n C dX4_draw_19 rfl 0 rfl ?_
      refine x_get C hK in_X4_draw_X4 0 rfl rfl 4 (by decide) (by decide +kernel) rfl rfl dX4_draw_20 ?_
      refine x_getN C hK hNW in_X4_draw_X1 1 rfl rfl 5 (by decide) 36 rfl rfl rfl dX4_draw_23 ?_
      refine x_istore_n C [(2, .int (nI dn)), (0, .ref x), (1, .int (nI c1))] dX4_draw_26 rfl (by decide) rfl ?_
      refine x_aload_n C dX4_draw_27 rfl 1 rfl ?_
      refine x_get C hK in_X4_draw_X4 0 rfl rfl 4 (by decide) (by decide +kernel) rfl rfl dX4_draw_28 ?_
      refine x_iload_n C dX4_draw_31 rfl 2 rfl ?_
      refine x_putN C hK hNW in_X4_draw_X1 tyX1 tyX1_ok nmX1 1 rfl rfl 4 (by decide) 35 rfl rfl rfl (tyX1_ok 4 (by decide)) rfl rfl (Nat.le_of_ble_eq_true rfl) [(x, OB 4 [.ref qw, .ref qv, .ref qt, .int ri, .ref qd, .ref qc, .ref ql]), (qd, OB 1 [.ref dr, .ref dk, .ref ds, .ref dt, .int (nI c1), .int (nI dn)])] rfl dX4_draw_32 ?_
      refine x_aload_n C dX4_draw_35 rfl 1 rfl ?_
      refine x_get C hK in_X4_draw_X4 0 rfl rfl 4 (by decide) (by decide +kernel) rfl rfl dX4_draw_36 ?_
      refine x_iconst C (nI 0) dX4_draw_39 (by decide +kernel) ?_
      refine x_putN C hK hNW in_X4_draw_X1 tyX1 tyX1_ok nmX1 1 rfl rfl 5 (by decide) 36 rfl rfl rfl (tyX1_ok 5 (by decide)) rfl rfl (Nat.le_of_ble_eq_true rfl) [(x, OB 4 [.ref qw, .ref qv, .ref qt, .int ri, .ref qd, .ref qc, .ref ql]), (qd, OB 1 [.ref dr, .ref dk, .ref ds, .ref dt, .int (nI c1), .int (nI 0)])] rfl dX4_draw_40 ?_
      refine x_iload_n C dX4_draw_43 rfl 0 rfl ?_
      refine x_iret C hK hlk hrt hQ hH0 hAA () ?_ [0, 1] (by decide) rfl (by first | decide | omega) (by first | decide | omega) dX4_draw_44
      first | rfl | (exact ⟨rfl, rfl⟩) | trivial | assumption | omega
    ·
      exact absurd h_2 (by omega)
abbrev rm_drawX : Room := { frames := 6, cells := 1, slots := 6, locals := 81 }
set_option maxRecDepth 100000 in
set_option maxHeartbeats 4000000 in
theorem c_drawX (l : Launch) (hl0 : l.stackTraces = false) (D : va_G) (tys : List (ClassId × FieldType)) (cI cJ : ClassId) (hI : tys[0]? = some (cI, .int)) (hJ : tys[1]? = some (cJ, .long)) (x : Nat) (qw : Nat) (qv : Nat) (qt : Nat) (ri : Int32) (qd : Nat) (qc : Nat) (ql : Nat) (ln : Int32) (hx : ¬ (¬ ln < nI 1 ∧ ln ≤ nI 40)) : XI l yX4_draw wsX4_draw rm_drawX D tys [.ref x, .int ln] [(x, OB 4 [.ref qw, .ref qv, .ref qt, .int ri, .ref qd, .ref qc, .ref ql])] Unit (fun _ _ => False) (fun _ => [(x, OB 4 [.ref qw, .ref qv, .ref qt, .int ri, .ref qd, .ref qc, .ref ql])]) [(x, OB 4 [.ref qw, .ref qv, .ref qt, .int ri, .ref qd, .ref qc, .ref ql])] (fun E => E = "java/lang/IllegalArgumentException") 1 6 := by
  intro sz
  refine x_metX (cc := cX4_draw) (maxL := 3) (ret := (some .int)) (by decide +kernel) rfl (by show _ ≤ _; simp [lg_sl, Value.category]) [(0, .ref x), (1, .int ln)] rfl ?_
  intro p e s m args below meth c Q A H0 C hK hNW hlk hrt hnm hQ hH0 hAA hA hZ htab
  refine x_iload_n C dX4_draw_0 rfl 1 rfl ?_
  refine x_iconst C (nI 1) dX4_draw_1 (by decide +kernel) ?_
  refine x_icmp_lt C 11 dX4_draw_2 (by decide) (fun h_1 => ?_) (fun h_1 => ?_)
  ·
    exact x_throw0 C hK hNW hl0 hlk htab hQ hH0 hAA hZ (cls := "java/lang/IllegalArgumentException") (names := ["java/lang/RuntimeException", "java/lang/Exception"]) (ik := 52) (ic := 54) (S := Unit) (by decide +kernel) (by decide +kernel) (by decide +kernel) (by decide +kernel) (by decide +kernel) (by decide +kernel) (by decide +kernel) dX4_draw_11 dX4_draw_14 dX4_draw_15 dX4_draw_18 (by decide) (by decide) (by decide) (by decide) rfl [0] (by decide) rfl (by decide) (by decide)
  ·
    refine x_iload_n C dX4_draw_5 rfl 1 rfl ?_
    refine x_bipush C (nI 40) dX4_draw_6 (by decide +kernel) ?_
    refine x_icmp_le C 19 dX4_draw_8 (by decide) (fun h_2 => ?_) (fun h_2 => ?_)
    ·
      exact absurd ⟨by assumption, h_2⟩ hx
    ·
      exact x_throw0 C hK hNW hl0 hlk htab hQ hH0 hAA hZ (cls := "java/lang/IllegalArgumentException") (names := ["java/lang/RuntimeException", "java/lang/Exception"]) (ik := 52) (ic := 54) (S := Unit) (by decide +kernel) (by decide +kernel) (by decide +kernel) (by decide +kernel) (by decide +kernel) (by decide +kernel) (by decide +kernel) dX4_draw_11 dX4_draw_14 dX4_draw_15 dX4_draw_18 (by decide) (by decide) (by decide) (by decide) rfl [0] (by decide) rfl (by decide) (by decide)
abbrev rm_row : Room := { frames := 1, cells := 0, slots := 0, locals := 20 }
set_option maxRecDepth 100000 in
set_option maxHeartbeats 4000000 in
theorem c_row (l : Launch) (D : va_G) (tys : List (ClassId × FieldType)) (cI cJ : ClassId) (hI : tys[0]? = some (cI, .int)) (hJ : tys[1]? = some (cJ, .long)) (x : Nat) (qw : Nat) (qv : Nat) (qt : Nat) (ri : Int32) (qd : Nat) (qc : Nat) (ql : Nat) (dr : Nat) (dk : Nat) (ds : Nat) (dt : Nat) (co : Nat) (dn : Nat) (fr : Nat → Int64) (cl : Int64) (h1 : 0 < co) (h1b : co ≤ 40) (h2 : dn < 40) (hok : cl &&& (allof (nI co) ^^^ (-1)) = 0) : MI l yX4_row wsX4_row rm_row D tys [.ref x, .long cl] [(x, OB 4 [.ref qw, .ref qv, .ref qt, .int ri, .ref qd, .ref qc, .ref ql]), (qd, OB 1 [.ref dr, .ref dk, .ref ds, .ref dt, .int (nI co), .int (nI dn)]), (dr, AJ cJ 40 fr)] Unit (fun r (_ : Unit) => r = nI (dn + 1)) (fun (_ : Unit) => [(x, OB 4 [.ref qw, .ref qv, .ref qt, .int ri, .ref qd, .ref qc, .ref ql]), (qd, OB 1 [.ref dr, .ref dk, .ref ds, .ref dt, .int (nI co), .int (nI (dn + 1))]), (dr, AJ cJ 40 (vp_updL fr dn cl))]) 0 0 := by
  intro sz
  refine x_met (cc := cX4_row) (maxL := 3) (ret := (some .int)) (by decide +kernel) rfl (by show _ ≤ _; simp [lg_sl, Value.category]) [(0, .ref x), (1, .long cl)] rfl ?_
  intro p e s m args below meth c Q A H0 C hK hNW hlk hrt hnm hQ hH0 hAA hA
  refine x_aload_n C dX4_row_0 rfl 0 rfl ?_
  refine x_get C hK in_X4_row_X4 0 rfl rfl 4 (by decide) (by decide +kernel) rfl rfl dX4_row_1 ?_
  refine x_getN C hK hNW in_X4_row_X1 1 rfl rfl 4 (by decide) 35 rfl rfl rfl dX4_row_4 ?_
  refine xn_if_eq C 22 (by omega) dX4_row_7 (by decide) (fun h_1 => ?_) (fun h_1 => ?_)
  ·
    exact absurd h_1 (by omega)
  ·
    refine x_aload_n C dX4_row_10 rfl 0 rfl ?_
    refine x_get C hK in_X4_row_X4 0 rfl rfl 4 (by decide) (by decide +kernel) rfl rfl dX4_row_11 ?_
    refine x_getN C hK hNW in_X4_row_X1 1 rfl rfl 5 (by decide) 36 rfl rfl rfl dX4_row_14 ?_
    refine x_bipush C (nI 40) dX4_row_17 (by decide +kernel) ?_
    refine xn_icmp_ne C 30 (by omega) (by omega) dX4_row_19 (by decide) (fun h_2 => ?_) (fun h_2 => ?_)
    ·
      refine x_lload_n C dX4_row_30 rfl 1 rfl ?_
      refine x_aload_n C dX4_row_31 rfl 0 rfl ?_
      refine x_get C hK in_X4_row_X4 0 rfl rfl 4 (by decide) (by decide +kernel) rfl rfl dX4_row_32 ?_
      refine x_getN C hK hNW in_X4_row_X1 1 rfl rfl 4 (by decide) 35 rfl rfl rfl dX4_row_35 ?_
      refine x_calll (x_runS C hK hNW (c_allOf l D tys cI cJ hI hJ (nI co) ) (va_cwS 1 C.2.2.2.2 gX4_row_X4_allOf rfl rfl rfl (by decide +kernel) ⟨by decide, by decide⟩) [] rfl (by decide) (st := [.long cl]) rfl rfl (Nat.le_of_ble_eq_true rfl) dX4_row_38 ⟨by first | decide | omega, by first | decide | omega⟩) hA [] rfl [0, 1, 2] [(x, OB 4 [.ref qw, .ref qv, .ref qt, .int ri, .ref qd, .ref qc, .ref ql]), (qd, OB 1 [.ref dr, .ref dk, .ref ds, .ref dt, .int (nI co), .int (nI dn)]), (dr, AJ cJ 40 fr)] rfl (by decide) (by decide) [0, 1, 2] (by decide) (wf := (fun (u : Unit) => [(x, OB 4 [.ref qw, .ref qv, .ref qt, .int ri, .ref qd, .ref qc, .ref ql]), (qd, OB 1 [.ref dr, .ref dk, .ref ds, .ref dt, .int (nI co), .int (nI dn)]), (dr, AJ cJ 40 fr)])) (fun _ => rfl) (fun r_3 u h_4 => ?_)
      subst h_4
      refine x_ldc2 C (-1) (by decide +kernel) dX4_row_41 ?_
      refine x_lxor C _ dX4_row_44 rfl ?_
      refine x_land C _ dX4_row_45 rfl ?_
      refine x_lconst C (0 : Int64) dX4_row_46 rfl ?_
      refine x_lcmp C dX4_row_47 ?_
      refine x_if_eq C 59 dX4_row_48 (by decide) (fun h_5 => ?_) (fun h_5 => ?_)
      ·
        refine x_aload_n C dX4_row_59 rfl 0 rfl ?_
        refine x_get C hK in_X4_row_X4 0 rfl rfl 4 (by decide) (by decide +kernel) rfl rfl dX4_row_60 ?_
        refine x_getN C hK hNW in_X4_row_X1 1 rfl rfl 0 (by decide) 32 rfl rfl rfl dX4_row_63 ?_
        refine x_aload_n C dX4_row_66 rfl 0 rfl ?_
        refine x_get C hK in_X4_row_X4 0 rfl rfl 4 (by decide) (by decide +kernel) rfl rfl dX4_row_67 ?_
        refine x_getN C hK hNW in_X4_row_X1 1 rfl rfl 5 (by decide) 36 rfl rfl rfl dX4_row_70 ?_
        refine x_lload_n C dX4_row_73 rfl 1 rfl ?_
        refine x_last C hK 2 1 rfl hJ (by omega) (by omega) [(x, OB 4 [.ref qw, .ref qv, .ref qt, .int ri, .ref qd, .ref qc, .ref ql]), (qd, OB 1 [.ref dr, .ref dk, .ref ds, .ref dt, .int (nI co), .int (nI dn)]), (dr, AJ cJ 40 (vp_updL fr dn cl))] rfl dX4_row_74 ?_
        refine x_aload_n C dX4_row_75 rfl 0 rfl ?_
        refine x_get C hK in_X4_row_X4 0 rfl rfl 4 (by decide) (by decide +kernel) rfl rfl dX4_row_76 ?_
        refine x_dup C dX4_row_79 rfl ?_
        refine x_getN C hK hNW in_X4_row_X1 1 rfl rfl 5 (by decide) 36 rfl rfl rfl dX4_row_80 ?_
        refine x_iconst C (nI 1) dX4_row_83 (by decide +kernel) ?_
        refine xn_iadd C dX4_row_84 ?_
        refine x_putN C hK hNW in_X4_row_X1 tyX1 tyX1_ok nmX1 1 rfl rfl 5 (by decide) 36 rfl rfl rfl (tyX1_ok 5 (by decide)) rfl rfl (Nat.le_of_ble_eq_true rfl) [(x, OB 4 [.ref qw, .ref qv, .ref qt, .int ri, .ref qd, .ref qc, .ref ql]), (qd, OB 1 [.ref dr, .ref dk, .ref ds, .ref dt, .int (nI co), .int (nI (dn + 1))]), (dr, AJ cJ 40 (vp_updL fr dn cl))] rfl dX4_row_85 ?_
        refine x_aload_n C dX4_row_88 rfl 0 rfl ?_
        refine x_get C hK in_X4_row_X4 0 rfl rfl 4 (by decide) (by decide +kernel) rfl rfl dX4_row_89 ?_
        refine x_getN C hK hNW in_X4_row_X1 1 rfl rfl 5 (by decide) 36 rfl rfl rfl dX4_row_92 ?_
        refine x_iret C hK hlk hrt hQ hH0 hAA () ?_ [0, 1, 2] (by decide) rfl (by first | decide | omega) (by first | decide | omega) dX4_row_95
        first | rfl | (exact ⟨rfl, rfl⟩) | trivial | assumption | omega
      ·
        exact absurd ((lg_cmp_eq _ _).mpr hok) h_5
    ·
      exact absurd h_2 (by omega)
abbrev rm_rowX1 : Room := { frames := 6, cells := 1, slots := 6, locals := 81 }
set_option maxRecDepth 100000 in
set_option maxHeartbeats 4000000 in
theorem c_rowX1 (l : Launch) (hl0 : l.stackTraces = false) (D : va_G) (tys : List (ClassId × FieldType)) (cI cJ : ClassId) (hI : tys[0]? = some (cI, .int)) (hJ : tys[1]? = some (cJ, .long)) (x : Nat) (qw : Nat) (qv : Nat) (qt : Nat) (ri : Int32) (qd : Nat) (qc : Nat) (ql : Nat) (dr : Nat) (dk : Nat) (ds : Nat) (dt : Nat) (co : Nat) (dn : Nat) (cl : Int64) (h1 : co ≤ 40) (h2 : dn ≤ 40) (hx : co = 0 ∨ dn = 40) : XI l yX4_row wsX4_row rm_rowX1 D tys [.ref x, .long cl] [(x, OB 4 [.ref qw, .ref qv, .ref qt, .int ri, .ref qd, .ref qc, .ref ql]), (qd, OB 1 [.ref dr, .ref dk, .ref ds, .ref dt, .int (nI co), .int (nI dn)])] Unit (fun _ _ => False) (fun _ => [(x, OB 4 [.ref qw, .ref qv, .ref qt, .int ri, .ref qd, .ref qc, .ref ql]), (qd, OB 1 [.ref dr, .ref dk, .ref ds, .ref dt, .int (nI co), .int (nI dn)])]) [(x, OB 4 [.ref qw, .ref qv, .ref qt, .int ri, .ref qd, .ref qc, .ref ql]), (qd, OB 1 [.ref dr, .ref dk, .ref ds, .ref dt, .int (nI co), .int (nI dn)])] (fun E => E = "java/lang/IllegalStateException") 1 6 := by
  intro sz
  refine x_metX (cc := cX4_row) (maxL := 3) (ret := (some .int)) (by decide +kernel) rfl (by show _ ≤ _; simp [lg_sl, Value.category]) [(0, .ref x), (1, .long cl)] rfl ?_
  intro p e s m args below meth c Q A H0 C hK hNW hlk hrt hnm hQ hH0 hAA hA hZ htab
  refine x_aload_n C dX4_row_0 rfl 0 rfl ?_
  refine x_get C hK in_X4_row_X4 0 rfl rfl 4 (by decide) (by decide +kernel) rfl rfl dX4_row_1 ?_
  refine x_getN C hK hNW in_X4_row_X1 1 rfl rfl 4 (by decide) 35 rfl rfl rfl dX4_row_4 ?_
  refine xn_if_eq C 22 (by omega) dX4_row_7 (by decide) (fun h_1 => ?_) (fun h_1 => ?_)
  ·
    exact x_throw0 C hK hNW hl0 hlk htab hQ hH0 hAA hZ (cls := "java/lang/IllegalStateException") (names := ["java/lang/RuntimeException", "java/lang/Exception"]) (ik := 59) (ic := 61) (S := Unit) (by decide +kernel) (by decide +kernel) (by decide +kernel) (by decide +kernel) (by decide +kernel) (by decide +kernel) (by decide +kernel) dX4_row_22 dX4_row_25 dX4_row_26 dX4_row_29 (by decide) (by decide) (by decide) (by decide) rfl [0, 1] (by decide) rfl (by decide) (by decide)
  ·
    refine x_aload_n C dX4_row_10 rfl 0 rfl ?_
    refine x_get C hK in_X4_row_X4 0 rfl rfl 4 (by decide) (by decide +kernel) rfl rfl dX4_row_11 ?_
    refine x_getN C hK hNW in_X4_row_X1 1 rfl rfl 5 (by decide) 36 rfl rfl rfl dX4_row_14 ?_
    refine x_bipush C (nI 40) dX4_row_17 (by decide +kernel) ?_
    refine xn_icmp_ne C 30 (by omega) (by omega) dX4_row_19 (by decide) (fun h_2 => ?_) (fun h_2 => ?_)
    ·
      exact False.elim (by omega)
    ·
      exact x_throw0 C hK hNW hl0 hlk htab hQ hH0 hAA hZ (cls := "java/lang/IllegalStateException") (names := ["java/lang/RuntimeException", "java/lang/Exception"]) (ik := 59) (ic := 61) (S := Unit) (by decide +kernel) (by decide +kernel) (by decide +kernel) (by decide +kernel) (by decide +kernel) (by decide +kernel) (by decide +kernel) dX4_row_22 dX4_row_25 dX4_row_26 dX4_row_29 (by decide) (by decide) (by decide) (by decide) rfl [0, 1] (by decide) rfl (by decide) (by decide)
abbrev rm_rowX2 : Room := { frames := 6, cells := 1, slots := 6, locals := 81 }
set_option maxRecDepth 100000 in
set_option maxHeartbeats 4000000 in
theorem c_rowX2 (l : Launch) (hl0 : l.stackTraces = false) (D : va_G) (tys : List (ClassId × FieldType)) (cI cJ : ClassId) (hI : tys[0]? = some (cI, .int)) (hJ : tys[1]? = some (cJ, .long)) (x : Nat) (qw : Nat) (qv : Nat) (qt : Nat) (ri : Int32) (qd : Nat) (qc : Nat) (ql : Nat) (dr : Nat) (dk : Nat) (ds : Nat) (dt : Nat) (co : Nat) (dn : Nat) (cl : Int64) (h1 : 0 < co) (h1b : co ≤ 40) (h2 : dn < 40) (hok : cl &&& (allof (nI co) ^^^ (-1)) ≠ 0) : XI l yX4_row wsX4_row rm_rowX2 D tys [.ref x, .long cl] [(x, OB 4 [.ref qw, .ref qv, .ref qt, .int ri, .ref qd, .ref qc, .ref ql]), (qd, OB 1 [.ref dr, .ref dk, .ref ds, .ref dt, .int (nI co), .int (nI dn)])] Unit (fun _ _ => False) (fun _ => [(x, OB 4 [.ref qw, .ref qv, .ref qt, .int ri, .ref qd, .ref qc, .ref ql]), (qd, OB 1 [.ref dr, .ref dk, .ref ds, .ref dt, .int (nI co), .int (nI dn)])]) [(x, OB 4 [.ref qw, .ref qv, .ref qt, .int ri, .ref qd, .ref qc, .ref ql]), (qd, OB 1 [.ref dr, .ref dk, .ref ds, .ref dt, .int (nI co), .int (nI dn)])] (fun E => E = "java/lang/IllegalArgumentException") 1 6 := by
  intro sz
  refine x_metX (cc := cX4_row) (maxL := 3) (ret := (some .int)) (by decide +kernel) rfl (by show _ ≤ _; simp [lg_sl, Value.category]) [(0, .ref x), (1, .long cl)] rfl ?_
  intro p e s m args below meth c Q A H0 C hK hNW hlk hrt hnm hQ hH0 hAA hA hZ htab
  refine x_aload_n C dX4_row_0 rfl 0 rfl ?_
  refine x_get C hK in_X4_row_X4 0 rfl rfl 4 (by decide) (by decide +kernel) rfl rfl dX4_row_1 ?_
  refine x_getN C hK hNW in_X4_row_X1 1 rfl rfl 4 (by decide) 35 rfl rfl rfl dX4_row_4 ?_
  refine xn_if_eq C 22 (by omega) dX4_row_7 (by decide) (fun h_1 => ?_) (fun h_1 => ?_)
  ·
    exact absurd h_1 (by omega)
  ·
    refine x_aload_n C dX4_row_10 rfl 0 rfl ?_
    refine x_get C hK in_X4_row_X4 0 rfl rfl 4 (by decide) (by decide +kernel) rfl rfl dX4_row_11 ?_
    refine x_getN C hK hNW in_X4_row_X1 1 rfl rfl 5 (by decide) 36 rfl rfl rfl dX4_row_14 ?_
    refine x_bipush C (nI 40) dX4_row_17 (by decide +kernel) ?_
    refine xn_icmp_ne C 30 (by omega) (by omega) dX4_row_19 (by decide) (fun h_2 => ?_) (fun h_2 => ?_)
    ·
      refine x_lload_n C dX4_row_30 rfl 1 rfl ?_
      refine x_aload_n C dX4_row_31 rfl 0 rfl ?_
      refine x_get C hK in_X4_row_X4 0 rfl rfl 4 (by decide) (by decide +kernel) rfl rfl dX4_row_32 ?_
      refine x_getN C hK hNW in_X4_row_X1 1 rfl rfl 4 (by decide) 35 rfl rfl rfl dX4_row_35 ?_
      refine x_calll (x_runS C hK hNW (c_allOf l D tys cI cJ hI hJ (nI co) ) (va_cwS 1 C.2.2.2.2 gX4_row_X4_allOf rfl rfl rfl (by decide +kernel) ⟨by decide, by decide⟩) [] rfl (by decide) (st := [.long cl]) rfl rfl (Nat.le_of_ble_eq_true rfl) dX4_row_38 ⟨by first | decide | omega, by first | decide | omega⟩) hA [] rfl [0, 1] [(x, OB 4 [.ref qw, .ref qv, .ref qt, .int ri, .ref qd, .ref qc, .ref ql]), (qd, OB 1 [.ref dr, .ref dk, .ref ds, .ref dt, .int (nI co), .int (nI dn)])] rfl (by decide) (by decide) [0, 1] (by decide) (wf := (fun (u : Unit) => [(x, OB 4 [.ref qw, .ref qv, .ref qt, .int ri, .ref qd, .ref qc, .ref ql]), (qd, OB 1 [.ref dr, .ref dk, .ref ds, .ref dt, .int (nI co), .int (nI dn)])])) (fun _ => rfl) (fun r_3 u h_4 => ?_)
      subst h_4
      refine x_ldc2 C (-1) (by decide +kernel) dX4_row_41 ?_
      refine x_lxor C _ dX4_row_44 rfl ?_
      refine x_land C _ dX4_row_45 rfl ?_
      refine x_lconst C (0 : Int64) dX4_row_46 rfl ?_
      refine x_lcmp C dX4_row_47 ?_
      refine x_if_eq C 59 dX4_row_48 (by decide) (fun h_5 => ?_) (fun h_5 => ?_)
      ·
        exact absurd ((lg_cmp_eq _ _).mp h_5) hok
      ·
        exact x_throw0 C hK hNW hl0 hlk htab hQ hH0 hAA hZ (cls := "java/lang/IllegalArgumentException") (names := ["java/lang/RuntimeException", "java/lang/Exception"]) (ik := 52) (ic := 54) (S := Unit) (by decide +kernel) (by decide +kernel) (by decide +kernel) (by decide +kernel) (by decide +kernel) (by decide +kernel) (by decide +kernel) dX4_row_51 dX4_row_54 dX4_row_55 dX4_row_58 (by decide) (by decide) (by decide) (by decide) rfl [0, 1] (by decide) rfl (by decide) (by decide)
    ·
      exact absurd h_2 (by omega)
