/-! the reference, fourth part -/
theorem in_X5_colourAt_X5 : ∀ w ∈ wsX50, w ∈ wsX5_colourAt := by decide +kernel
theorem in_X5_threadsOf_X5 : ∀ w ∈ wsX50, w ∈ wsX5_threadsOf := by decide +kernel
theorem in_X5_draw_X5 : ∀ w ∈ wsX50, w ∈ wsX5_draw := by decide +kernel
theorem in_X5_row_X5 : ∀ w ∈ wsX50, w ∈ wsX5_row := by decide +kernel
theorem in_X5_column_X5 : ∀ w ∈ wsX50, w ∈ wsX5_column := by decide +kernel
theorem in_X5_differences_X5 : ∀ w ∈ wsX50, w ∈ wsX5_differences := by decide +kernel
theorem in_X5_digest_X5 : ∀ w ∈ wsX50, w ∈ wsX5_digest := by decide +kernel
abbrev rm_m_colourAt : Room := { frames := 0, cells := 0, slots := 0, locals := 0 }
set_option maxRecDepth 100000 in
set_option maxHeartbeats 4000000 in
theorem c_m_colourAt (l : Launch) (D : va_G) (tys : List (ClassId × FieldType)) (cI cJ cA : ClassId) (hI : tys[0]? = some (cI, .int)) (hJ : tys[1]? = some (cJ, .long)) (hR : tys[2]? = some (cA, .array .int)) (yo : Nat) (thr : Int32) (ri : Int32) (yt : Nat) (ys : Nat) (yf : Nat) (yc : Nat) (co : Nat) (dn : Nat) (yd : Nat) (nw : Nat) (np : Nat) (k0 : Nat) (k1 : Nat) (cw : Nat → Int32) (cp : Nat → Int32) (ix : Int32) (fi : Nat) (hnw : nw ≤ 40) (hnp : np ≤ 40) (hcc : ∀ k, k < nw + np → ∃ j, j < 8 ∧ colF nw cw cp k = nI j) (hfi : fi < nw + np) (hnew : hbit (seF (colF nw cw cp) fi).toInt64 ((colF nw cw cp) fi) = false) (hbc : bc32 (seF (colF nw cw cp) fi) = ix) (hno : ∀ j, j < fi → hbit (seF (colF nw cw cp) j).toInt64 ((colF nw cw cp) j) = false → bc32 (seF (colF nw cw cp) j) ≠ ix) : MI l yX5_colourAt wsX5_colourAt rm_m_colourAt D tys [.ref yo, .int ix] [(yo, OB 5 [.int thr, .int ri, .ref yt, .ref ys, .ref yf, .ref yc, .int (nI co), .int (nI dn), .ref yd]), (ys, AI cI 2 (sz2 nw np)), (yc, AR cA 2 (gr2 k0 k1)), (k0, AI cI 40 cw), (k1, AI cI 40 cp)] Unit (fun r (_ : Unit) => r = (colF nw cw cp) fi) (fun (_ : Unit) => [(yo, OB 5 [.int (nI 0), .int ri, .ref yt, .ref ys, .ref yf, .ref yc, .int (nI co), .int (nI dn), .ref yd]), (ys, AI cI 2 (sz2 nw np)), (yc, AR cA 2 (gr2 k0 k1)), (k0, AI cI 40 cw), (k1, AI cI 40 cp)]) 0 0 := by
  intro sz
  refine x_met (cc := cX5_colourAt) (maxL := 7) (ret := (some .int)) (by decide +kernel) rfl (by show _ ≤ _; simp [lg_sl, Value.category]) [(0, .ref yo), (1, .int ix)] rfl ?_
  intro p e s m args below meth c Q A H0 C hK hNW hlk hrt hnm hQ hH0 hAA hA
  refine x_aload_n C dX5_colourAt_0 rfl 0 rfl ?_
  refine x_iconst C (nI 0) dX5_colourAt_1 (by decide +kernel) ?_
  refine x_put C hK in_X5_colourAt_X5 tyX5 tyX5_ok nmX5 0 rfl rfl 0 (by decide) (by decide +kernel) rfl rfl (tyX5_ok 0 (by decide)) rfl rfl (Nat.le_of_ble_eq_true rfl) [(yo, OB 5 [.int (nI 0), .int ri, .ref yt, .ref ys, .ref yf, .ref yc, .int (nI co), .int (nI dn), .ref yd]), (ys, AI cI 2 (sz2 nw np)), (yc, AR cA 2 (gr2 k0 k1)), (k0, AI cI 40 cw), (k1, AI cI 40 cp)] rfl dX5_colourAt_2 ?_
  refine x_iconst C (nI 0) dX5_colourAt_5 (by decide +kernel) ?_
  refine x_istore_n C [(2, .int (nI 0)), (0, .ref yo), (1, .int ix)] dX5_colourAt_6 rfl (by decide) rfl ?_
  refine x_iconst C (nI 0) dX5_colourAt_7 (by decide +kernel) ?_
  refine x_istore_n C [(3, .int (nI 0)), (2, .int (nI 0)), (0, .ref yo), (1, .int ix)] dX5_colourAt_8 rfl (by decide) rfl ?_
  refine x_iconst C (nI 0) dX5_colourAt_9 (by decide +kernel) ?_
  refine x_istore C [(4, .int (nI 0)), (3, .int (nI 0)), (2, .int (nI 0)), (0, .ref yo), (1, .int ix)] dX5_colourAt_10 (by decide) rfl ?_
  refine x_iload C dX5_colourAt_12 0 rfl ?_
  refine x_iconst C (nI 2) dX5_colourAt_14 (by decide +kernel) ?_
  refine xn_icmp_ge C 88 (by omega) (by omega) dX5_colourAt_15 (by decide) (fun h_1 => ?_) (fun h_1 => ?_)
  ·
    exact absurd h_1 (by first | decide | omega)
  ·
    refine x_iconst C (nI 0) dX5_colourAt_18 (by decide +kernel) ?_
    refine x_istore C [(5, .int (nI 0)), (4, .int (nI 0)), (3, .int (nI 0)), (2, .int (nI 0)), (0, .ref yo), (1, .int ix)] dX5_colourAt_19 (by decide) rfl ?_
    have LA_2 : ∀ (fuel : Nat) (i : Nat), (i ≤ nw) → (i ≤ fi) → nw - i < fuel → X_ p l e rm_m_colourAt s m args below meth c Q D A H0 7 0 0 [(yo, OB 5 [.int (nI 0), .int ri, .ref yt, .ref ys, .ref yf, .ref yc, .int (nI co), .int (nI dn), .ref yd]), (ys, AI cI 2 (sz2 nw np)), (yc, AR cA 2 (gr2 k0 k1)), (k0, AI cI 40 cw), (k1, AI cI 40 cp)] [(0, .ref yo), (1, .int ix), (2, .int (seF (colF nw cw cp) (i))), (3, .int (bsF (colF nw cw cp) (i))), (4, .int (nI 0)), (5, .int (nI i))] 21 [] := by
      intro fuel
      induction fuel with
      | zero =>
        intros
        exact absurd (by assumption) (Nat.not_lt_zero _)
      | succ fuel ih_LA_2 =>
        intro i hi hf hm_3
        refine x_iload C dX5_colourAt_21 5 rfl ?_
        refine x_aload_n C dX5_colourAt_23 rfl 0 rfl ?_
        refine x_get C hK in_X5_colourAt_X5 0 rfl rfl 3 (by decide) (by decide +kernel) rfl rfl dX5_colourAt_24 ?_
        refine x_iload C dX5_colourAt_27 4 rfl ?_
        refine x_iald C hK 1 0 rfl hI (by omega) (by omega) dX5_colourAt_29 ?_
        refine x_topi (nI nw) rfl ?_
        refine xn_icmp_ge C 82 (by omega) (by omega) dX5_colourAt_30 (by decide) (fun h_4 => ?_) (fun h_4 => ?_)
        ·
          have heq_i : nw = i := by omega
          subst heq_i
          refine xn_iinc C 1 [(4, .int (nI 1)), (0, .ref yo), (1, .int ix), (2, .int (seF (colF nw cw cp) (nw))), (3, .int (bsF (colF nw cw cp) (nw))), (5, .int (nI nw))] dX5_colourAt_82 4 rfl (by decide +kernel) (by decide) rfl ?_
          refine x_goto C 12 dX5_colourAt_85 (by decide) ?_
          refine x_iload C dX5_colourAt_12 0 rfl ?_
          refine x_iconst C (nI 2) dX5_colourAt_14 (by decide +kernel) ?_
          refine xn_icmp_ge C 88 (by omega) (by omega) dX5_colourAt_15 (by decide) (fun h_5 => ?_) (fun h_5 => ?_)
          ·
            exact absurd h_5 (by first | decide | omega)
          ·
            refine x_iconst C (nI 0) dX5_colourAt_18 (by decide +kernel) ?_
            refine x_istore C [(5, .int (nI 0)), (4, .int (nI 1)), (0, .ref yo), (1, .int ix), (2, .int (seF (colF nw cw cp) (nw))), (3, .int (bsF (colF nw cw cp) (nw)))] dX5_colourAt_19 (by decide) rfl ?_
            have LA_6 : ∀ (fuel : Nat) (i : Nat), (i ≤ np) → (nw + i ≤ fi) → np - i < fuel → X_ p l e rm_m_colourAt s m args below meth c Q D A H0 7 0 0 [(yo, OB 5 [.int (nI 0), .int ri, .ref yt, .ref ys, .ref yf, .ref yc, .int (nI co), .int (nI dn), .ref yd]), (ys, AI cI 2 (sz2 nw np)), (yc, AR cA 2 (gr2 k0 k1)), (k0, AI cI 40 cw), (k1, AI cI 40 cp)] [(0, .ref yo), (1, .int ix), (2, .int (seF (colF nw cw cp) (nw + i))), (3, .int (bsF (colF nw cw cp) (nw + i))), (4, .int (nI 1)), (5, .int (nI i))] 21 [] := by
              intro fuel
              induction fuel with
              | zero =>
                intros
                exact absurd (by assumption) (Nat.not_lt_zero _)
              | succ fuel ih_LA_6 =>
                intro i hi hf hm_7
                refine x_iload C dX5_colourAt_21 5 rfl ?_
                refine x_aload_n C dX5_colourAt_23 rfl 0 rfl ?_
                refine x_get C hK in_X5_colourAt_X5 0 rfl rfl 3 (by decide) (by decide +kernel) rfl rfl dX5_colourAt_24 ?_
                refine x_iload C dX5_colourAt_27 4 rfl ?_
                refine x_iald C hK 1 0 rfl hI (by omega) (by omega) dX5_colourAt_29 ?_
                refine x_topi (nI np) rfl ?_
                refine xn_icmp_ge C 82 (by omega) (by omega) dX5_colourAt_30 (by decide) (fun h_8 => ?_) (fun h_8 => ?_)
                ·
                  exact False.elim (by omega)
                ·
                  refine x_aload_n C dX5_colourAt_33 rfl 0 rfl ?_
                  refine x_get C hK in_X5_colourAt_X5 0 rfl rfl 5 (by decide) (by decide +kernel) rfl rfl dX5_colourAt_34 ?_
                  refine x_iload C dX5_colourAt_37 4 rfl ?_
                  refine x_aald C hK (r := k1) 2 2 rfl hR rfl (by omega) (by omega) (by rfl) dX5_colourAt_39 ?_
                  refine x_iload C dX5_colourAt_40 5 rfl ?_
                  refine x_iald C hK 4 0 rfl hI (by omega) (by omega) dX5_colourAt_42 ?_
                  refine x_topi (colF nw cw cp (nw + i)) (by exact colF_q _ _ _ _) ?_
                  refine x_istore C [(6, .int (colF nw cw cp (nw + i))), (0, .ref yo), (1, .int ix), (2, .int (seF (colF nw cw cp) (nw + i))), (3, .int (bsF (colF nw cw cp) (nw + i))), (4, .int (nI 1)), (5, .int (nI i))] dX5_colourAt_43 (by decide) rfl ?_
                  refine x_iload_n C dX5_colourAt_45 rfl 3 rfl ?_
                  refine x_iload C dX5_colourAt_46 0 rfl ?_
                  refine x_ishr C _ dX5_colourAt_48 rfl ?_
                  refine x_iconst C (nI 1) dX5_colourAt_49 (by decide +kernel) ?_
                  refine x_iand C _ dX5_colourAt_50 rfl ?_
                  refine x_iconst C (nI 1) dX5_colourAt_51 (by decide +kernel) ?_
                  refine x_icmp_ne C 58 dX5_colourAt_52 (by decide) (fun h_9 => ?_) (fun h_9 => ?_)
                  ·
                    have hs := se_n hcc (by omega) h_9
                    refine x_iload_n C dX5_colourAt_58 rfl 3 rfl ?_
                    refine x_iconst C (nI 1) dX5_colourAt_59 (by decide +kernel) ?_
                    refine x_iload C dX5_colourAt_60 0 rfl ?_
                    refine x_ishl C _ dX5_colourAt_62 rfl ?_
                    refine x_ior C _ dX5_colourAt_63 rfl ?_
                    refine x_istore_n C [(2, .int ((seF (colF nw cw cp) (nw + i)) ||| ((nI 1) <<< ((colF nw cw cp (nw + i)) &&& 31)))), (6, .int (colF nw cw cp (nw + i))), (0, .ref yo), (1, .int ix), (3, .int (bsF (colF nw cw cp) (nw + i))), (4, .int (nI 1)), (5, .int (nI i))] dX5_colourAt_64 rfl (by decide) rfl ?_
                    refine x_iload_n C dX5_colourAt_65 rfl 4 rfl ?_
                    refine x_iload_n C dX5_colourAt_66 rfl 3 rfl ?_
                    refine x_icmp_ne C 73 dX5_colourAt_67 (by decide) (fun h_10 => ?_) (fun h_10 => ?_)
                    ·
                      refine x_iinc C ((bsF (colF nw cw cp) (nw + i)) + 1) [(3, .int ((bsF (colF nw cw cp) (nw + i)) + 1)), (2, .int ((seF (colF nw cw cp) (nw + i)) ||| ((nI 1) <<< ((colF nw cw cp (nw + i)) &&& 31)))), (6, .int (colF nw cw cp (nw + i))), (0, .ref yo), (1, .int ix), (4, .int (nI 1)), (5, .int (nI i))] dX5_colourAt_73 4 rfl rfl (by decide) rfl ?_
                      refine xn_iinc C (i + 1) [(5, .int (nI (i + 1))), (3, .int ((bsF (colF nw cw cp) (nw + i)) + 1)), (2, .int ((seF (colF nw cw cp) (nw + i)) ||| ((nI 1) <<< ((colF nw cw cp (nw + i)) &&& 31)))), (6, .int (colF nw cw cp (nw + i))), (0, .ref yo), (1, .int ix), (4, .int (nI 1))] dX5_colourAt_76 6 rfl (by rw [show Int32.ofInt 1 = nI 1 from by decide +kernel]; exact nI_add _ _) (by decide) rfl ?_
                      refine x_goto C 21 dX5_colourAt_79 (by decide) ?_
                      refine x_lv [(0, .ref yo), (1, .int ix), (2, .int (seF (colF nw cw cp) (nw + (i + 1)))), (3, .int (bsF (colF nw cw cp) (nw + (i + 1)))), (4, .int (nI 1)), (5, .int (nI (i + 1)))] [4, 5, 2, 1, 6, 0] (by rw [show seF (colF nw cw cp) (nw + (i + 1)) = (seF (colF nw cw cp) (nw + i)) ||| ((nI 1) <<< ((colF nw cw cp (nw + i)) &&& 31)) from by show seF (colF nw cw cp) (_ + 1) = _; first | exact seF_y hs | exact seF_n hs, show bsF (colF nw cw cp) (nw + (i + 1)) = (bsF (colF nw cw cp) (nw + i)) + 1 from by show bc32 (seF (colF nw cw cp) (_ + 1)) = _; first | exact bc_y hs | exact bc_n hcc (by omega) hs | exact bc_n hcc (show nw + i < nw + np by omega) hs]; rfl) ?_
                      exact ih_LA_6 (i + 1) (by first | assumption | omega) (by exact cas_next hf hnew hbc (by first | exact Or.inl hs | exact Or.inr (by assumption))) (by omega)
                    ·
                      refine x_iload C dX5_colourAt_70 1 rfl ?_
                      refine x_iret C hK hlk hrt hQ hH0 hAA () ?_ [0, 1, 2, 3, 4] (by decide) rfl (by first | decide | omega) (by first | decide | omega) dX5_colourAt_72
                      first | rw [show i = fi from cas_one hno hs (by assumption) hf] | rw [show nw + i = fi from cas_one hno hs (by assumption) hf]
                  ·
                    have hs := se_y hcc (by omega) h_9
                    refine x_goto C 76 dX5_colourAt_55 (by decide) ?_
                    refine xn_iinc C (i + 1) [(5, .int (nI (i + 1))), (6, .int (colF nw cw cp (nw + i))), (0, .ref yo), (1, .int ix), (2, .int (seF (colF nw cw cp) (nw + i))), (3, .int (bsF (colF nw cw cp) (nw + i))), (4, .int (nI 1))] dX5_colourAt_76 6 rfl (by rw [show Int32.ofInt 1 = nI 1 from by decide +kernel]; exact nI_add _ _) (by decide) rfl ?_
                    refine x_goto C 21 dX5_colourAt_79 (by decide) ?_
                    refine x_lv [(0, .ref yo), (1, .int ix), (2, .int (seF (colF nw cw cp) (nw + (i + 1)))), (3, .int (bsF (colF nw cw cp) (nw + (i + 1)))), (4, .int (nI 1)), (5, .int (nI (i + 1)))] [2, 3, 4, 5, 6, 0] (by rw [show seF (colF nw cw cp) (nw + (i + 1)) = seF (colF nw cw cp) (nw + i) from by show seF (colF nw cw cp) (_ + 1) = _; first | exact seF_y hs | exact seF_n hs, show bsF (colF nw cw cp) (nw + (i + 1)) = bsF (colF nw cw cp) (nw + i) from by show bc32 (seF (colF nw cw cp) (_ + 1)) = _; first | exact bc_y hs | exact bc_n hcc (by omega) hs | exact bc_n hcc (show nw + i < nw + np by omega) hs]; rfl) ?_
                    exact ih_LA_6 (i + 1) (by first | assumption | omega) (by exact cas_next hf hnew hbc (by first | exact Or.inl hs | exact Or.inr (by assumption))) (by omega)
            refine x_lv [(0, .ref yo), (1, .int ix), (2, .int (seF (colF nw cw cp) (nw + 0))), (3, .int (bsF (colF nw cw cp) (nw + 0))), (4, .int (nI 1)), (5, .int (nI 0))] [2, 3, 4, 5, 1, 0] (by rw [show seF (colF nw cw cp) (nw + 0) = seF (colF nw cw cp) (nw) from by rfl, show bsF (colF nw cw cp) (nw + 0) = bsF (colF nw cw cp) (nw) from by first | rfl | (show bc32 (nI 0) = nI 0; decide +kernel)]; rfl) ?_
            exact LA_6 (np - 0 + 1) 0 (by first | assumption | omega) (by first | assumption | omega) (Nat.lt_succ_self _)
        ·
          refine x_aload_n C dX5_colourAt_33 rfl 0 rfl ?_
          refine x_get C hK in_X5_colourAt_X5 0 rfl rfl 5 (by decide) (by decide +kernel) rfl rfl dX5_colourAt_34 ?_
          refine x_iload C dX5_colourAt_37 4 rfl ?_
          refine x_aald C hK (r := k0) 2 2 rfl hR rfl (by omega) (by omega) (by rfl) dX5_colourAt_39 ?_
          refine x_iload C dX5_colourAt_40 5 rfl ?_
          refine x_iald C hK 3 0 rfl hI (by omega) (by omega) dX5_colourAt_42 ?_
          refine x_topi (colF nw cw cp i) (by exact colF_w (by omega)) ?_
          refine x_istore C [(6, .int (colF nw cw cp i)), (0, .ref yo), (1, .int ix), (2, .int (seF (colF nw cw cp) (i))), (3, .int (bsF (colF nw cw cp) (i))), (4, .int (nI 0)), (5, .int (nI i))] dX5_colourAt_43 (by decide) rfl ?_
          refine x_iload_n C dX5_colourAt_45 rfl 3 rfl ?_
          refine x_iload C dX5_colourAt_46 0 rfl ?_
          refine x_ishr C _ dX5_colourAt_48 rfl ?_
          refine x_iconst C (nI 1) dX5_colourAt_49 (by decide +kernel) ?_
          refine x_iand C _ dX5_colourAt_50 rfl ?_
          refine x_iconst C (nI 1) dX5_colourAt_51 (by decide +kernel) ?_
          refine x_icmp_ne C 58 dX5_colourAt_52 (by decide) (fun h_11 => ?_) (fun h_11 => ?_)
          ·
            have hs := se_n hcc (by omega) h_11
            refine x_iload_n C dX5_colourAt_58 rfl 3 rfl ?_
            refine x_iconst C (nI 1) dX5_colourAt_59 (by decide +kernel) ?_
            refine x_iload C dX5_colourAt_60 0 rfl ?_
            refine x_ishl C _ dX5_colourAt_62 rfl ?_
            refine x_ior C _ dX5_colourAt_63 rfl ?_
            refine x_istore_n C [(2, .int ((seF (colF nw cw cp) (i)) ||| ((nI 1) <<< ((colF nw cw cp i) &&& 31)))), (6, .int (colF nw cw cp i)), (0, .ref yo), (1, .int ix), (3, .int (bsF (colF nw cw cp) (i))), (4, .int (nI 0)), (5, .int (nI i))] dX5_colourAt_64 rfl (by decide) rfl ?_
            refine x_iload_n C dX5_colourAt_65 rfl 4 rfl ?_
            refine x_iload_n C dX5_colourAt_66 rfl 3 rfl ?_
            refine x_icmp_ne C 73 dX5_colourAt_67 (by decide) (fun h_12 => ?_) (fun h_12 => ?_)
            ·
              refine x_iinc C ((bsF (colF nw cw cp) (i)) + 1) [(3, .int ((bsF (colF nw cw cp) (i)) + 1)), (2, .int ((seF (colF nw cw cp) (i)) ||| ((nI 1) <<< ((colF nw cw cp i) &&& 31)))), (6, .int (colF nw cw cp i)), (0, .ref yo), (1, .int ix), (4, .int (nI 0)), (5, .int (nI i))] dX5_colourAt_73 4 rfl rfl (by decide) rfl ?_
              refine xn_iinc C (i + 1) [(5, .int (nI (i + 1))), (3, .int ((bsF (colF nw cw cp) (i)) + 1)), (2, .int ((seF (colF nw cw cp) (i)) ||| ((nI 1) <<< ((colF nw cw cp i) &&& 31)))), (6, .int (colF nw cw cp i)), (0, .ref yo), (1, .int ix), (4, .int (nI 0))] dX5_colourAt_76 6 rfl (by rw [show Int32.ofInt 1 = nI 1 from by decide +kernel]; exact nI_add _ _) (by decide) rfl ?_
              refine x_goto C 21 dX5_colourAt_79 (by decide) ?_
              refine x_lv [(0, .ref yo), (1, .int ix), (2, .int (seF (colF nw cw cp) ((i + 1)))), (3, .int (bsF (colF nw cw cp) ((i + 1)))), (4, .int (nI 0)), (5, .int (nI (i + 1)))] [4, 5, 2, 1, 6, 0] (by rw [show seF (colF nw cw cp) ((i + 1)) = (seF (colF nw cw cp) (i)) ||| ((nI 1) <<< ((colF nw cw cp i) &&& 31)) from by show seF (colF nw cw cp) (_ + 1) = _; first | exact seF_y hs | exact seF_n hs, show bsF (colF nw cw cp) ((i + 1)) = (bsF (colF nw cw cp) (i)) + 1 from by show bc32 (seF (colF nw cw cp) (_ + 1)) = _; first | exact bc_y hs | exact bc_n hcc (by omega) hs | exact bc_n hcc (show nw + i < nw + np by omega) hs]; rfl) ?_
              exact ih_LA_2 (i + 1) (by first | assumption | omega) (by exact cas_next hf hnew hbc (by first | exact Or.inl hs | exact Or.inr (by assumption))) (by omega)
            ·
              refine x_iload C dX5_colourAt_70 1 rfl ?_
              refine x_iret C hK hlk hrt hQ hH0 hAA () ?_ [0, 1, 2, 3, 4] (by decide) rfl (by first | decide | omega) (by first | decide | omega) dX5_colourAt_72
              first | rw [show i = fi from cas_one hno hs (by assumption) hf] | rw [show nw + i = fi from cas_one hno hs (by assumption) hf]
          ·
            have hs := se_y hcc (by omega) h_11
            refine x_goto C 76 dX5_colourAt_55 (by decide) ?_
            refine xn_iinc C (i + 1) [(5, .int (nI (i + 1))), (6, .int (colF nw cw cp i)), (0, .ref yo), (1, .int ix), (2, .int (seF (colF nw cw cp) (i))), (3, .int (bsF (colF nw cw cp) (i))), (4, .int (nI 0))] dX5_colourAt_76 6 rfl (by rw [show Int32.ofInt 1 = nI 1 from by decide +kernel]; exact nI_add _ _) (by decide) rfl ?_
            refine x_goto C 21 dX5_colourAt_79 (by decide) ?_
            refine x_lv [(0, .ref yo), (1, .int ix), (2, .int (seF (colF nw cw cp) ((i + 1)))), (3, .int (bsF (colF nw cw cp) ((i + 1)))), (4, .int (nI 0)), (5, .int (nI (i + 1)))] [2, 3, 4, 5, 6, 0] (by rw [show seF (colF nw cw cp) ((i + 1)) = seF (colF nw cw cp) (i) from by show seF (colF nw cw cp) (_ + 1) = _; first | exact seF_y hs | exact seF_n hs, show bsF (colF nw cw cp) ((i + 1)) = bsF (colF nw cw cp) (i) from by show bc32 (seF (colF nw cw cp) (_ + 1)) = _; first | exact bc_y hs | exact bc_n hcc (by omega) hs | exact bc_n hcc (show nw + i < nw + np by omega) hs]; rfl) ?_
            exact ih_LA_2 (i + 1) (by first | assumption | omega) (by exact cas_next hf hnew hbc (by first | exact Or.inl hs | exact Or.inr (by assumption))) (by omega)
    refine x_lv [(0, .ref yo), (1, .int ix), (2, .int (seF (colF nw cw cp) (0))), (3, .int (bsF (colF nw cw cp) (0))), (4, .int (nI 0)), (5, .int (nI 0))] [4, 5, 3, 2, 1, 0] (by rw [show seF (colF nw cw cp) (0) = nI 0 from by rfl, show bsF (colF nw cw cp) (0) = nI 0 from by first | rfl | (show bc32 (nI 0) = nI 0; decide +kernel)]; rfl) ?_
    exact LA_2 (nw - 0 + 1) 0 (by first | assumption | omega) (by first | assumption | omega) (Nat.lt_succ_self _)
abbrev rm_m_colourAtX : Room := { frames := 1, cells := 0, slots := 0, locals := 21 }
set_option maxRecDepth 100000 in
set_option maxHeartbeats 4000000 in
theorem c_m_colourAtX (l : Launch) (D : va_G) (tys : List (ClassId × FieldType)) (cI cJ cA : ClassId) (hI : tys[0]? = some (cI, .int)) (hJ : tys[1]? = some (cJ, .long)) (hR : tys[2]? = some (cA, .array .int)) (yo : Nat) (thr : Int32) (ri : Int32) (yt : Nat) (ys : Nat) (yf : Nat) (yc : Nat) (co : Nat) (dn : Nat) (yd : Nat) (nw : Nat) (np : Nat) (k0 : Nat) (k1 : Nat) (cw : Nat → Int32) (cp : Nat → Int32) (ix : Int32) (hnw : nw ≤ 40) (hnp : np ≤ 40) (hcc : ∀ k, k < nw + np → ∃ j, j < 8 ∧ colF nw cw cp k = nI j) (hno : ∀ j, j < nw + np → hbit (seF (colF nw cw cp) j).toInt64 ((colF nw cw cp) j) = false → bc32 (seF (colF nw cw cp) j) ≠ ix) : MI l yX5_colourAt wsX5_colourAt rm_m_colourAtX D tys [.ref yo, .int ix] [(yo, OB 5 [.int thr, .int ri, .ref yt, .ref ys, .ref yf, .ref yc, .int (nI co), .int (nI dn), .ref yd]), (ys, AI cI 2 (sz2 nw np)), (yc, AR cA 2 (gr2 k0 k1)), (k0, AI cI 40 cw), (k1, AI cI 40 cp)] Unit (fun r (_ : Unit) => r = nI 0) (fun (_ : Unit) => [(yo, OB 5 [.int (nI 1), .int ri, .ref yt, .ref ys, .ref yf, .ref yc, .int (nI co), .int (nI dn), .ref yd]), (ys, AI cI 2 (sz2 nw np)), (yc, AR cA 2 (gr2 k0 k1)), (k0, AI cI 40 cw), (k1, AI cI 40 cp)]) 0 0 := by
  intro sz
  refine x_met (cc := cX5_colourAt) (maxL := 7) (ret := (some .int)) (by decide +kernel) rfl (by show _ ≤ _; simp [lg_sl, Value.category]) [(0, .ref yo), (1, .int ix)] rfl ?_
  intro p e s m args below meth c Q A H0 C hK hNW hlk hrt hnm hQ hH0 hAA hA
  refine x_aload_n C dX5_colourAt_0 rfl 0 rfl ?_
  refine x_iconst C (nI 0) dX5_colourAt_1 (by decide +kernel) ?_
  refine x_put C hK in_X5_colourAt_X5 tyX5 tyX5_ok nmX5 0 rfl rfl 0 (by decide) (by decide +kernel) rfl rfl (tyX5_ok 0 (by decide)) rfl rfl (Nat.le_of_ble_eq_true rfl) [(yo, OB 5 [.int (nI 0), .int ri, .ref yt, .ref ys, .ref yf, .ref yc, .int (nI co), .int (nI dn), .ref yd]), (ys, AI cI 2 (sz2 nw np)), (yc, AR cA 2 (gr2 k0 k1)), (k0, AI cI 40 cw), (k1, AI cI 40 cp)] rfl dX5_colourAt_2 ?_
  refine x_iconst C (nI 0) dX5_colourAt_5 (by decide +kernel) ?_
  refine x_istore_n C [(2, .int (nI 0)), (0, .ref yo), (1, .int ix)] dX5_colourAt_6 rfl (by decide) rfl ?_
  refine x_iconst C (nI 0) dX5_colourAt_7 (by decide +kernel) ?_
  refine x_istore_n C [(3, .int (nI 0)), (2, .int (nI 0)), (0, .ref yo), (1, .int ix)] dX5_colourAt_8 rfl (by decide) rfl ?_
  refine x_iconst C (nI 0) dX5_colourAt_9 (by decide +kernel) ?_
  refine x_istore C [(4, .int (nI 0)), (3, .int (nI 0)), (2, .int (nI 0)), (0, .ref yo), (1, .int ix)] dX5_colourAt_10 (by decide) rfl ?_
  refine x_iload C dX5_colourAt_12 0 rfl ?_
  refine x_iconst C (nI 2) dX5_colourAt_14 (by decide +kernel) ?_
  refine xn_icmp_ge C 88 (by omega) (by omega) dX5_colourAt_15 (by decide) (fun h_1 => ?_) (fun h_1 => ?_)
  ·
    exact absurd h_1 (by first | decide | omega)
  ·
    refine x_iconst C (nI 0) dX5_colourAt_18 (by decide +kernel) ?_
    refine x_istore C [(5, .int (nI 0)), (4, .int (nI 0)), (3, .int (nI 0)), (2, .int (nI 0)), (0, .ref yo), (1, .int ix)] dX5_colourAt_19 (by decide) rfl ?_
    have LA_2 : ∀ (fuel : Nat) (i : Nat), (i ≤ nw) → nw - i < fuel → X_ p l e rm_m_colourAtX s m args below meth c Q D A H0 7 0 0 [(yo, OB 5 [.int (nI 0), .int ri, .ref yt, .ref ys, .ref yf, .ref yc, .int (nI co), .int (nI dn), .ref yd]), (ys, AI cI 2 (sz2 nw np)), (yc, AR cA 2 (gr2 k0 k1)), (k0, AI cI 40 cw), (k1, AI cI 40 cp)] [(0, .ref yo), (1, .int ix), (2, .int (seF (colF nw cw cp) (i))), (3, .int (bsF (colF nw cw cp) (i))), (4, .int (nI 0)), (5, .int (nI i))] 21 [] := by
      intro fuel
      induction fuel with
      | zero =>
        intros
        exact absurd (by assumption) (Nat.not_lt_zero _)
      | succ fuel ih_LA_2 =>
        intro i hi hm_3
        refine x_iload C dX5_colourAt_21 5 rfl ?_
        refine x_aload_n C dX5_colourAt_23 rfl 0 rfl ?_
        refine x_get C hK in_X5_colourAt_X5 0 rfl rfl 3 (by decide) (by decide +kernel) rfl rfl dX5_colourAt_24 ?_
        refine x_iload C dX5_colourAt_27 4 rfl ?_
        refine x_iald C hK 1 0 rfl hI (by omega) (by omega) dX5_colourAt_29 ?_
        refine x_topi (nI nw) rfl ?_
        refine xn_icmp_ge C 82 (by omega) (by omega) dX5_colourAt_30 (by decide) (fun h_4 => ?_) (fun h_4 => ?_)
        ·
          have heq_i : nw = i := by omega
          subst heq_i
          refine xn_iinc C 1 [(4, .int (nI 1)), (0, .ref yo), (1, .int ix), (2, .int (seF (colF nw cw cp) (nw))), (3, .int (bsF (colF nw cw cp) (nw))), (5, .int (nI nw))] dX5_colourAt_82 4 rfl (by decide +kernel) (by decide) rfl ?_
          refine x_goto C 12 dX5_colourAt_85 (by decide) ?_
          refine x_iload C dX5_colourAt_12 0 rfl ?_
          refine x_iconst C (nI 2) dX5_colourAt_14 (by decide +kernel) ?_
          refine xn_icmp_ge C 88 (by omega) (by omega) dX5_colourAt_15 (by decide) (fun h_5 => ?_) (fun h_5 => ?_)
          ·
            exact absurd h_5 (by first | decide | omega)
          ·
            refine x_iconst C (nI 0) dX5_colourAt_18 (by decide +kernel) ?_
            refine x_istore C [(5, .int (nI 0)), (4, .int (nI 1)), (0, .ref yo), (1, .int ix), (2, .int (seF (colF nw cw cp) (nw))), (3, .int (bsF (colF nw cw cp) (nw)))] dX5_colourAt_19 (by decide) rfl ?_
            have LA_6 : ∀ (fuel : Nat) (i : Nat), (i ≤ np) → np - i < fuel → X_ p l e rm_m_colourAtX s m args below meth c Q D A H0 7 0 0 [(yo, OB 5 [.int (nI 0), .int ri, .ref yt, .ref ys, .ref yf, .ref yc, .int (nI co), .int (nI dn), .ref yd]), (ys, AI cI 2 (sz2 nw np)), (yc, AR cA 2 (gr2 k0 k1)), (k0, AI cI 40 cw), (k1, AI cI 40 cp)] [(0, .ref yo), (1, .int ix), (2, .int (seF (colF nw cw cp) (nw + i))), (3, .int (bsF (colF nw cw cp) (nw + i))), (4, .int (nI 1)), (5, .int (nI i))] 21 [] := by
              intro fuel
              induction fuel with
              | zero =>
                intros
                exact absurd (by assumption) (Nat.not_lt_zero _)
              | succ fuel ih_LA_6 =>
                intro i hi hm_7
                refine x_iload C dX5_colourAt_21 5 rfl ?_
                refine x_aload_n C dX5_colourAt_23 rfl 0 rfl ?_
                refine x_get C hK in_X5_colourAt_X5 0 rfl rfl 3 (by decide) (by decide +kernel) rfl rfl dX5_colourAt_24 ?_
                refine x_iload C dX5_colourAt_27 4 rfl ?_
                refine x_iald C hK 1 0 rfl hI (by omega) (by omega) dX5_colourAt_29 ?_
                refine x_topi (nI np) rfl ?_
                refine xn_icmp_ge C 82 (by omega) (by omega) dX5_colourAt_30 (by decide) (fun h_8 => ?_) (fun h_8 => ?_)
                ·
                  have heq_i : np = i := by omega
                  subst heq_i
                  refine xn_iinc C 2 [(4, .int (nI 2)), (0, .ref yo), (1, .int ix), (2, .int (seF (colF nw cw cp) (nw + np))), (3, .int (bsF (colF nw cw cp) (nw + np))), (5, .int (nI np))] dX5_colourAt_82 4 rfl (by decide +kernel) (by decide) rfl ?_
                  refine x_goto C 12 dX5_colourAt_85 (by decide) ?_
                  refine x_iload C dX5_colourAt_12 0 rfl ?_
                  refine x_iconst C (nI 2) dX5_colourAt_14 (by decide +kernel) ?_
                  refine xn_icmp_ge C 88 (by omega) (by omega) dX5_colourAt_15 (by decide) (fun h_9 => ?_) (fun h_9 => ?_)
                  ·
                    refine x_aload_n C dX5_colourAt_88 rfl 1 rfl ?_
                    refine x_iconst C (nI 1) dX5_colourAt_89 (by decide +kernel) ?_
                    refine x_calli (x_runV C hK hNW (c_m_fail l D tys cI cJ cA hI hJ hR yo (nI 0) ri yt ys yf yc co dn yd 1 ) (cwV 1 C.2.2.2.2 gX5_colourAt_X5_fail rfl rfl rfl (by decide +kernel) ⟨by decide, by decide⟩) [0] rfl (by decide) 0 5 rfl rfl rfl (st := []) rfl rfl (Nat.le_of_ble_eq_true rfl) dX5_colourAt_90 ⟨by first | decide | omega | exact (show _ ≤ 0 by omega), by first | decide | omega | exact (show _ ≤ 0 by omega)⟩) hA [0] rfl [1, 2, 3, 4] [(ys, AI cI 2 (sz2 nw np)), (yc, AR cA 2 (gr2 k0 k1)), (k0, AI cI 40 cw), (k1, AI cI 40 cp)] rfl (by decide) (by decide) [4, 0, 1, 2, 3] (by decide) (wf := (fun (u : Unit) => [(yo, OB 5 [.int (nI 1), .int ri, .ref yt, .ref ys, .ref yf, .ref yc, .int (nI co), .int (nI dn), .ref yd]), (ys, AI cI 2 (sz2 nw np)), (yc, AR cA 2 (gr2 k0 k1)), (k0, AI cI 40 cw), (k1, AI cI 40 cp)])) (fun _ => rfl) (fun r_10 u h_11 => ?_)
                    subst h_11
                    refine x_iret C hK hlk hrt hQ hH0 hAA () ?_ [0, 1, 2, 3, 4] (by decide) rfl (by first | decide | omega) (by first | decide | omega) dX5_colourAt_93
                    first | rfl | (exact ⟨rfl, rfl⟩) | trivial | assumption | omega
                  ·
                    exact absurd h_9 (by first | decide | omega)
                ·
                  refine x_aload_n C dX5_colourAt_33 rfl 0 rfl ?_
                  refine x_get C hK in_X5_colourAt_X5 0 rfl rfl 5 (by decide) (by decide +kernel) rfl rfl dX5_colourAt_34 ?_
                  refine x_iload C dX5_colourAt_37 4 rfl ?_
                  refine x_aald C hK (r := k1) 2 2 rfl hR rfl (by omega) (by omega) (by rfl) dX5_colourAt_39 ?_
                  refine x_iload C dX5_colourAt_40 5 rfl ?_
                  refine x_iald C hK 4 0 rfl hI (by omega) (by omega) dX5_colourAt_42 ?_
                  refine x_topi (colF nw cw cp (nw + i)) (by exact colF_q _ _ _ _) ?_
                  refine x_istore C [(6, .int (colF nw cw cp (nw + i))), (0, .ref yo), (1, .int ix), (2, .int (seF (colF nw cw cp) (nw + i))), (3, .int (bsF (colF nw cw cp) (nw + i))), (4, .int (nI 1)), (5, .int (nI i))] dX5_colourAt_43 (by decide) rfl ?_
                  refine x_iload_n C dX5_colourAt_45 rfl 3 rfl ?_
                  refine x_iload C dX5_colourAt_46 0 rfl ?_
                  refine x_ishr C _ dX5_colourAt_48 rfl ?_
                  refine x_iconst C (nI 1) dX5_colourAt_49 (by decide +kernel) ?_
                  refine x_iand C _ dX5_colourAt_50 rfl ?_
                  refine x_iconst C (nI 1) dX5_colourAt_51 (by decide +kernel) ?_
                  refine x_icmp_ne C 58 dX5_colourAt_52 (by decide) (fun h_12 => ?_) (fun h_12 => ?_)
                  ·
                    have hs := se_n hcc (by omega) h_12
                    refine x_iload_n C dX5_colourAt_58 rfl 3 rfl ?_
                    refine x_iconst C (nI 1) dX5_colourAt_59 (by decide +kernel) ?_
                    refine x_iload C dX5_colourAt_60 0 rfl ?_
                    refine x_ishl C _ dX5_colourAt_62 rfl ?_
                    refine x_ior C _ dX5_colourAt_63 rfl ?_
                    refine x_istore_n C [(2, .int ((seF (colF nw cw cp) (nw + i)) ||| ((nI 1) <<< ((colF nw cw cp (nw + i)) &&& 31)))), (6, .int (colF nw cw cp (nw + i))), (0, .ref yo), (1, .int ix), (3, .int (bsF (colF nw cw cp) (nw + i))), (4, .int (nI 1)), (5, .int (nI i))] dX5_colourAt_64 rfl (by decide) rfl ?_
                    refine x_iload_n C dX5_colourAt_65 rfl 4 rfl ?_
                    refine x_iload_n C dX5_colourAt_66 rfl 3 rfl ?_
                    refine x_icmp_ne C 73 dX5_colourAt_67 (by decide) (fun h_13 => ?_) (fun h_13 => ?_)
                    ·
                      refine x_iinc C ((bsF (colF nw cw cp) (nw + i)) + 1) [(3, .int ((bsF (colF nw cw cp) (nw + i)) + 1)), (2, .int ((seF (colF nw cw cp) (nw + i)) ||| ((nI 1) <<< ((colF nw cw cp (nw + i)) &&& 31)))), (6, .int (colF nw cw cp (nw + i))), (0, .ref yo), (1, .int ix), (4, .int (nI 1)), (5, .int (nI i))] dX5_colourAt_73 4 rfl rfl (by decide) rfl ?_
                      refine xn_iinc C (i + 1) [(5, .int (nI (i + 1))), (3, .int ((bsF (colF nw cw cp) (nw + i)) + 1)), (2, .int ((seF (colF nw cw cp) (nw + i)) ||| ((nI 1) <<< ((colF nw cw cp (nw + i)) &&& 31)))), (6, .int (colF nw cw cp (nw + i))), (0, .ref yo), (1, .int ix), (4, .int (nI 1))] dX5_colourAt_76 6 rfl (by rw [show Int32.ofInt 1 = nI 1 from by decide +kernel]; exact nI_add _ _) (by decide) rfl ?_
                      refine x_goto C 21 dX5_colourAt_79 (by decide) ?_
                      refine x_lv [(0, .ref yo), (1, .int ix), (2, .int (seF (colF nw cw cp) (nw + (i + 1)))), (3, .int (bsF (colF nw cw cp) (nw + (i + 1)))), (4, .int (nI 1)), (5, .int (nI (i + 1)))] [4, 5, 2, 1, 6, 0] (by rw [show seF (colF nw cw cp) (nw + (i + 1)) = (seF (colF nw cw cp) (nw + i)) ||| ((nI 1) <<< ((colF nw cw cp (nw + i)) &&& 31)) from by show seF (colF nw cw cp) (_ + 1) = _; first | exact seF_y hs | exact seF_n hs, show bsF (colF nw cw cp) (nw + (i + 1)) = (bsF (colF nw cw cp) (nw + i)) + 1 from by show bc32 (seF (colF nw cw cp) (_ + 1)) = _; first | exact bc_y hs | exact bc_n hcc (by omega) hs | exact bc_n hcc (show nw + i < nw + np by omega) hs]; rfl) ?_
                      exact ih_LA_6 (i + 1) (by first | assumption | omega) (by omega)
                    ·
                      exact absurd h_13 (hno _ (by omega) hs)
                  ·
                    have hs := se_y hcc (by omega) h_12
                    refine x_goto C 76 dX5_colourAt_55 (by decide) ?_
                    refine xn_iinc C (i + 1) [(5, .int (nI (i + 1))), (6, .int (colF nw cw cp (nw + i))), (0, .ref yo), (1, .int ix), (2, .int (seF (colF nw cw cp) (nw + i))), (3, .int (bsF (colF nw cw cp) (nw + i))), (4, .int (nI 1))] dX5_colourAt_76 6 rfl (by rw [show Int32.ofInt 1 = nI 1 from by decide +kernel]; exact nI_add _ _) (by decide) rfl ?_
                    refine x_goto C 21 dX5_colourAt_79 (by decide) ?_
                    refine x_lv [(0, .ref yo), (1, .int ix), (2, .int (seF (colF nw cw cp) (nw + (i + 1)))), (3, .int (bsF (colF nw cw cp) (nw + (i + 1)))), (4, .int (nI 1)), (5, .int (nI (i + 1)))] [2, 3, 4, 5, 6, 0] (by rw [show seF (colF nw cw cp) (nw + (i + 1)) = seF (colF nw cw cp) (nw + i) from by show seF (colF nw cw cp) (_ + 1) = _; first | exact seF_y hs | exact seF_n hs, show bsF (colF nw cw cp) (nw + (i + 1)) = bsF (colF nw cw cp) (nw + i) from by show bc32 (seF (colF nw cw cp) (_ + 1)) = _; first | exact bc_y hs | exact bc_n hcc (by omega) hs | exact bc_n hcc (show nw + i < nw + np by omega) hs]; rfl) ?_
                    exact ih_LA_6 (i + 1) (by first | assumption | omega) (by omega)
            refine x_lv [(0, .ref yo), (1, .int ix), (2, .int (seF (colF nw cw cp) (nw + 0))), (3, .int (bsF (colF nw cw cp) (nw + 0))), (4, .int (nI 1)), (5, .int (nI 0))] [2, 3, 4, 5, 1, 0] (by rw [show seF (colF nw cw cp) (nw + 0) = seF (colF nw cw cp) (nw) from by rfl, show bsF (colF nw cw cp) (nw + 0) = bsF (colF nw cw cp) (nw) from by first | rfl | (show bc32 (nI 0) = nI 0; decide +kernel)]; rfl) ?_
            exact LA_6 (np - 0 + 1) 0 (by first | assumption | omega) (Nat.lt_succ_self _)
        ·
          refine x_aload_n C dX5_colourAt_33 rfl 0 rfl ?_
          refine x_get C hK in_X5_colourAt_X5 0 rfl rfl 5 (by decide) (by decide +kernel) rfl rfl dX5_colourAt_34 ?_
          refine x_iload C dX5_colourAt_37 4 rfl ?_
          refine x_aald C hK (r := k0) 2 2 rfl hR rfl (by omega) (by omega) (by rfl) dX5_colourAt_39 ?_
          refine x_iload C dX5_colourAt_40 5 rfl ?_
          refine x_iald C hK 3 0 rfl hI (by omega) (by omega) dX5_colourAt_42 ?_
          refine x_topi (colF nw cw cp i) (by exact colF_w (by omega)) ?_
          refine x_istore C [(6, .int (colF nw cw cp i)), (0, .ref yo), (1, .int ix), (2, .int (seF (colF nw cw cp) (i))), (3, .int (bsF (colF nw cw cp) (i))), (4, .int (nI 0)), (5, .int (nI i))] dX5_colourAt_43 (by decide) rfl ?_
          refine x_iload_n C dX5_colourAt_45 rfl 3 rfl ?_
          refine x_iload C dX5_colourAt_46 0 rfl ?_
          refine x_ishr C _ dX5_colourAt_48 rfl ?_
          refine x_iconst C (nI 1) dX5_colourAt_49 (by decide +kernel) ?_
          refine x_iand C _ dX5_colourAt_50 rfl ?_
          refine x_iconst C (nI 1) dX5_colourAt_51 (by decide +kernel) ?_
          refine x_icmp_ne C 58 dX5_colourAt_52 (by decide) (fun h_14 => ?_) (fun h_14 => ?_)
          ·
            have hs := se_n hcc (by omega) h_14
            refine x_iload_n C dX5_colourAt_58 rfl 3 rfl ?_
            refine x_iconst C (nI 1) dX5_colourAt_59 (by decide +kernel) ?_
            refine x_iload C dX5_colourAt_60 0 rfl ?_
            refine x_ishl C _ dX5_colourAt_62 rfl ?_
            refine x_ior C _ dX5_colourAt_63 rfl ?_
            refine x_istore_n C [(2, .int ((seF (colF nw cw cp) (i)) ||| ((nI 1) <<< ((colF nw cw cp i) &&& 31)))), (6, .int (colF nw cw cp i)), (0, .ref yo), (1, .int ix), (3, .int (bsF (colF nw cw cp) (i))), (4, .int (nI 0)), (5, .int (nI i))] dX5_colourAt_64 rfl (by decide) rfl ?_
            refine x_iload_n C dX5_colourAt_65 rfl 4 rfl ?_
            refine x_iload_n C dX5_colourAt_66 rfl 3 rfl ?_
            refine x_icmp_ne C 73 dX5_colourAt_67 (by decide) (fun h_15 => ?_) (fun h_15 => ?_)
            ·
              refine x_iinc C ((bsF (colF nw cw cp) (i)) + 1) [(3, .int ((bsF (colF nw cw cp) (i)) + 1)), (2, .int ((seF (colF nw cw cp) (i)) ||| ((nI 1) <<< ((colF nw cw cp i) &&& 31)))), (6, .int (colF nw cw cp i)), (0, .ref yo), (1, .int ix), (4, .int (nI 0)), (5, .int (nI i))] dX5_colourAt_73 4 rfl rfl (by decide) rfl ?_
              refine xn_iinc C (i + 1) [(5, .int (nI (i + 1))), (3, .int ((bsF (colF nw cw cp) (i)) + 1)), (2, .int ((seF (colF nw cw cp) (i)) ||| ((nI 1) <<< ((colF nw cw cp i) &&& 31)))), (6, .int (colF nw cw cp i)), (0, .ref yo), (1, .int ix), (4, .int (nI 0))] dX5_colourAt_76 6 rfl (by rw [show Int32.ofInt 1 = nI 1 from by decide +kernel]; exact nI_add _ _) (by decide) rfl ?_
              refine x_goto C 21 dX5_colourAt_79 (by decide) ?_
              refine x_lv [(0, .ref yo), (1, .int ix), (2, .int (seF (colF nw cw cp) ((i + 1)))), (3, .int (bsF (colF nw cw cp) ((i + 1)))), (4, .int (nI 0)), (5, .int (nI (i + 1)))] [4, 5, 2, 1, 6, 0] (by rw [show seF (colF nw cw cp) ((i + 1)) = (seF (colF nw cw cp) (i)) ||| ((nI 1) <<< ((colF nw cw cp i) &&& 31)) from by show seF (colF nw cw cp) (_ + 1) = _; first | exact seF_y hs | exact seF_n hs, show bsF (colF nw cw cp) ((i + 1)) = (bsF (colF nw cw cp) (i)) + 1 from by show bc32 (seF (colF nw cw cp) (_ + 1)) = _; first | exact bc_y hs | exact bc_n hcc (by omega) hs | exact bc_n hcc (show nw + i < nw + np by omega) hs]; rfl) ?_
              exact ih_LA_2 (i + 1) (by first | assumption | omega) (by omega)
            ·
              exact absurd h_15 (hno _ (by omega) hs)
          ·
            have hs := se_y hcc (by omega) h_14
            refine x_goto C 76 dX5_colourAt_55 (by decide) ?_
            refine xn_iinc C (i + 1) [(5, .int (nI (i + 1))), (6, .int (colF nw cw cp i)), (0, .ref yo), (1, .int ix), (2, .int (seF (colF nw cw cp) (i))), (3, .int (bsF (colF nw cw cp) (i))), (4, .int (nI 0))] dX5_colourAt_76 6 rfl (by rw [show Int32.ofInt 1 = nI 1 from by decide +kernel]; exact nI_add _ _) (by decide) rfl ?_
            refine x_goto C 21 dX5_colourAt_79 (by decide) ?_
            refine x_lv [(0, .ref yo), (1, .int ix), (2, .int (seF (colF nw cw cp) ((i + 1)))), (3, .int (bsF (colF nw cw cp) ((i + 1)))), (4, .int (nI 0)), (5, .int (nI (i + 1)))] [2, 3, 4, 5, 6, 0] (by rw [show seF (colF nw cw cp) ((i + 1)) = seF (colF nw cw cp) (i) from by show seF (colF nw cw cp) (_ + 1) = _; first | exact seF_y hs | exact seF_n hs, show bsF (colF nw cw cp) ((i + 1)) = bsF (colF nw cw cp) (i) from by show bc32 (seF (colF nw cw cp) (_ + 1)) = _; first | exact bc_y hs | exact bc_n hcc (by omega) hs | exact bc_n hcc (show nw + i < nw + np by omega) hs]; rfl) ?_
            exact ih_LA_2 (i + 1) (by first | assumption | omega) (by omega)
    refine x_lv [(0, .ref yo), (1, .int ix), (2, .int (seF (colF nw cw cp) (0))), (3, .int (bsF (colF nw cw cp) (0))), (4, .int (nI 0)), (5, .int (nI 0))] [4, 5, 3, 2, 1, 0] (by rw [show seF (colF nw cw cp) (0) = nI 0 from by rfl, show bsF (colF nw cw cp) (0) = nI 0 from by first | rfl | (show bc32 (nI 0) = nI 0; decide +kernel)]; rfl) ?_
    exact LA_2 (nw - 0 + 1) 0 (by first | assumption | omega) (Nat.lt_succ_self _)
abbrev rm_m_threadsOf : Room := { frames := 1, cells := 0, slots := 0, locals := 22 }
set_option maxRecDepth 100000 in
set_option maxHeartbeats 4000000 in
theorem c_m_threadsOf (l : Launch) (D : va_G) (tys : List (ClassId × FieldType)) (cI cJ cA : ClassId) (hI : tys[0]? = some (cI, .int)) (hJ : tys[1]? = some (cJ, .long)) (hR : tys[2]? = some (cA, .array .int)) (yo : Nat) (thr : Int32) (ri : Int32) (yt : Nat) (ys : Nat) (yf : Nat) (yc : Nat) (co : Nat) (dn : Nat) (yd : Nat) (nw : Nat) (np : Nat) (k0 : Nat) (k1 : Nat) (cw : Nat → Int32) (cp : Nat → Int32) (cl : Nat) (hnw : nw ≤ 40) (hnp : np ≤ 40) (hcl : cl < 8) : MI l yX5_threadsOf wsX5_threadsOf rm_m_threadsOf D tys [.ref yo, .int (nI cl)] [(yo, OB 5 [.int thr, .int ri, .ref yt, .ref ys, .ref yf, .ref yc, .int (nI co), .int (nI dn), .ref yd]), (ys, AI cI 2 (sz2 nw np)), (yc, AR cA 2 (gr2 k0 k1)), (k0, AI cI 40 cw), (k1, AI cI 40 cp)] Unit (fun r (_ : Unit) => r = nI (cnE cw (nI cl) nw + cnE cp (nI cl) np)) (fun (_ : Unit) => [(yo, OB 5 [.int (nI 0), .int ri, .ref yt, .ref ys, .ref yf, .ref yc, .int (nI co), .int (nI dn), .ref yd]), (ys, AI cI 2 (sz2 nw np)), (yc, AR cA 2 (gr2 k0 k1)), (k0, AI cI 40 cw), (k1, AI cI 40 cp)]) 0 0 := by
  intro sz
  refine x_met (cc := cX5_threadsOf) (maxL := 5) (ret := (some .int)) (by decide +kernel) rfl (by show _ ≤ _; simp [lg_sl, Value.category]) [(0, .ref yo), (1, .int (nI cl))] rfl ?_
  intro p e s m args below meth c Q A H0 C hK hNW hlk hrt hnm hQ hH0 hAA hA
  refine x_aload_n C dX5_threadsOf_0 rfl 0 rfl ?_
  refine x_iconst C (nI 0) dX5_threadsOf_1 (by decide +kernel) ?_
  refine x_put C hK in_X5_threadsOf_X5 tyX5 tyX5_ok nmX5 0 rfl rfl 0 (by decide) (by decide +kernel) rfl rfl (tyX5_ok 0 (by decide)) rfl rfl (Nat.le_of_ble_eq_true rfl) [(yo, OB 5 [.int (nI 0), .int ri, .ref yt, .ref ys, .ref yf, .ref yc, .int (nI co), .int (nI dn), .ref yd]), (ys, AI cI 2 (sz2 nw np)), (yc, AR cA 2 (gr2 k0 k1)), (k0, AI cI 40 cw), (k1, AI cI 40 cp)] rfl dX5_threadsOf_2 ?_
  refine x_iload_n C dX5_threadsOf_5 rfl 1 rfl ?_
  refine x_iconst C (nI 0) dX5_threadsOf_6 (by decide +kernel) ?_
  refine x_bipush C (nI 7) dX5_threadsOf_7 (by decide +kernel) ?_
  refine x_calli (x_runS C hK hNW (c_m_isIn0 l D tys cI cJ cA hI hJ hR (nI cl) 7 (by first | omega | assumption)) (va_cwS 3 C.2.2.2.2 gX5_threadsOf_X5_isIn rfl rfl rfl (by decide +kernel) ⟨by decide, by decide⟩) [] rfl (by decide) (st := []) rfl rfl (Nat.le_of_ble_eq_true rfl) dX5_threadsOf_9 ⟨by first | decide | omega | exact (show _ ≤ 0 by omega), by first | decide | omega | exact (show _ ≤ 0 by omega)⟩) hA [] rfl [0, 1, 2, 3, 4] [(yo, OB 5 [.int (nI 0), .int ri, .ref yt, .ref ys, .ref yf, .ref yc, .int (nI co), .int (nI dn), .ref yd]), (ys, AI cI 2 (sz2 nw np)), (yc, AR cA 2 (gr2 k0 k1)), (k0, AI cI 40 cw), (k1, AI cI 40 cp)] rfl (by decide) (by decide) [0, 1, 2, 3, 4] (by decide) (wf := (fun (u : Unit) => [(yo, OB 5 [.int (nI 0), .int ri, .ref yt, .ref ys, .ref yf, .ref yc, .int (nI co), .int (nI dn), .ref yd]), (ys, AI cI 2 (sz2 nw np)), (yc, AR cA 2 (gr2 k0 k1)), (k0, AI cI 40 cw), (k1, AI cI 40 cp)])) (fun _ => rfl) (fun r_1 u h_2 => ?_)
  subst h_2
  refine x_if_ne C 21 dX5_threadsOf_12 (by decide) (fun h_3 => ?_) (fun h_3 => ?_)
  ·
    refine x_iconst C (nI 0) dX5_threadsOf_21 (by decide +kernel) ?_
    refine x_istore_n C [(2, .int (nI 0)), (0, .ref yo), (1, .int (nI cl))] dX5_threadsOf_22 rfl (by decide) rfl ?_
    refine x_iconst C (nI 0) dX5_threadsOf_23 (by decide +kernel) ?_
    refine x_istore_n C [(3, .int (nI 0)), (2, .int (nI 0)), (0, .ref yo), (1, .int (nI cl))] dX5_threadsOf_24 rfl (by decide) rfl ?_
    refine x_iload_n C dX5_threadsOf_25 rfl 0 rfl ?_
    refine x_iconst C (nI 2) dX5_threadsOf_26 (by decide +kernel) ?_
    refine xn_icmp_ge C 77 (by omega) (by omega) dX5_threadsOf_27 (by decide) (fun h_4 => ?_) (fun h_4 => ?_)
    ·
      exact absurd h_4 (by first | decide | omega)
    ·
      refine x_iconst C (nI 0) dX5_threadsOf_30 (by decide +kernel) ?_
      refine x_istore C [(4, .int (nI 0)), (3, .int (nI 0)), (2, .int (nI 0)), (0, .ref yo), (1, .int (nI cl))] dX5_threadsOf_31 (by decide) rfl ?_
      have LA_5 : ∀ (fuel : Nat) (i : Nat), (i ≤ nw) → nw - i < fuel → X_ p l e rm_m_threadsOf s m args below meth c Q D A H0 5 0 0 [(yo, OB 5 [.int (nI 0), .int ri, .ref yt, .ref ys, .ref yf, .ref yc, .int (nI co), .int (nI dn), .ref yd]), (ys, AI cI 2 (sz2 nw np)), (yc, AR cA 2 (gr2 k0 k1)), (k0, AI cI 40 cw), (k1, AI cI 40 cp)] [(0, .ref yo), (1, .int (nI cl)), (2, .int (nI (cnE cw (nI cl) i))), (3, .int (nI 0)), (4, .int (nI i))] 33 [] := by
        intro fuel
        induction fuel with
        | zero =>
          intros
          exact absurd (by assumption) (Nat.not_lt_zero _)
        | succ fuel ih_LA_5 =>
          intro i hi hm_6
          refine x_iload C dX5_threadsOf_33 4 rfl ?_
          refine x_aload_n C dX5_threadsOf_35 rfl 0 rfl ?_
          refine x_get C hK in_X5_threadsOf_X5 0 rfl rfl 3 (by decide) (by decide +kernel) rfl rfl dX5_threadsOf_36 ?_
          refine x_iload_n C dX5_threadsOf_39 rfl 3 rfl ?_
          refine x_iald C hK 1 0 rfl hI (by omega) (by omega) dX5_threadsOf_40 ?_
          refine x_topi (nI nw) rfl ?_
          refine xn_icmp_ge C 71 (by omega) (by omega) dX5_threadsOf_41 (by decide) (fun h_7 => ?_) (fun h_7 => ?_)
          ·
            have heq_i : nw = i := by omega
            subst heq_i
            refine xn_iinc C 1 [(3, .int (nI 1)), (0, .ref yo), (1, .int (nI cl)), (2, .int (nI (cnE cw (nI cl) nw))), (4, .int (nI nw))] dX5_threadsOf_71 3 rfl (by decide +kernel) (by decide) rfl ?_
            refine x_goto C 25 dX5_threadsOf_74 (by decide) ?_
            refine x_iload_n C dX5_threadsOf_25 rfl 0 rfl ?_
            refine x_iconst C (nI 2) dX5_threadsOf_26 (by decide +kernel) ?_
            refine xn_icmp_ge C 77 (by omega) (by omega) dX5_threadsOf_27 (by decide) (fun h_8 => ?_) (fun h_8 => ?_)
            ·
              exact absurd h_8 (by first | decide | omega)
            ·
              refine x_iconst C (nI 0) dX5_threadsOf_30 (by decide +kernel) ?_
              refine x_istore C [(4, .int (nI 0)), (3, .int (nI 1)), (0, .ref yo), (1, .int (nI cl)), (2, .int (nI (cnE cw (nI cl) nw)))] dX5_threadsOf_31 (by decide) rfl ?_
              have LB_9 : ∀ (fuel : Nat) (i : Nat), (i ≤ np) → np - i < fuel → X_ p l e rm_m_threadsOf s m args below meth c Q D A H0 5 0 0 [(yo, OB 5 [.int (nI 0), .int ri, .ref yt, .ref ys, .ref yf, .ref yc, .int (nI co), .int (nI dn), .ref yd]), (ys, AI cI 2 (sz2 nw np)), (yc, AR cA 2 (gr2 k0 k1)), (k0, AI cI 40 cw), (k1, AI cI 40 cp)] [(0, .ref yo), (1, .int (nI cl)), (2, .int (nI (cnE cw (nI cl) nw + cnE cp (nI cl) i))), (3, .int (nI 1)), (4, .int (nI i))] 33 [] := by
                intro fuel
                induction fuel with
                | zero =>
                  intros
                  exact absurd (by assumption) (Nat.not_lt_zero _)
                | succ fuel ih_LB_9 =>
                  intro i hi hm_10
                  refine x_iload C dX5_threadsOf_33 4 rfl ?_
                  refine x_aload_n C dX5_threadsOf_35 rfl 0 rfl ?_
                  refine x_get C hK in_X5_threadsOf_X5 0 rfl rfl 3 (by decide) (by decide +kernel) rfl rfl dX5_threadsOf_36 ?_
                  refine x_iload_n C dX5_threadsOf_39 rfl 3 rfl ?_
                  refine x_iald C hK 1 0 rfl hI (by omega) (by omega) dX5_threadsOf_40 ?_
                  refine x_topi (nI np) rfl ?_
                  refine xn_icmp_ge C 71 (by omega) (by omega) dX5_threadsOf_41 (by decide) (fun h_11 => ?_) (fun h_11 => ?_)
                  ·
                    have heq_i : np = i := by omega
                    subst heq_i
                    refine xn_iinc C 2 [(3, .int (nI 2)), (0, .ref yo), (1, .int (nI cl)), (2, .int (nI (cnE cw (nI cl) nw + cnE cp (nI cl) np))), (4, .int (nI np))] dX5_threadsOf_71 3 rfl (by decide +kernel) (by decide) rfl ?_
                    refine x_goto C 25 dX5_threadsOf_74 (by decide) ?_
                    refine x_iload_n C dX5_threadsOf_25 rfl 0 rfl ?_
                    refine x_iconst C (nI 2) dX5_threadsOf_26 (by decide +kernel) ?_
                    refine xn_icmp_ge C 77 (by omega) (by omega) dX5_threadsOf_27 (by decide) (fun h_12 => ?_) (fun h_12 => ?_)
                    ·
                      refine x_iload_n C dX5_threadsOf_77 rfl 3 rfl ?_
                      refine x_iret C hK hlk hrt hQ hH0 hAA () ?_ [0, 1, 2, 3, 4] (by decide) rfl (by first | decide | omega) (by first | decide | omega) dX5_threadsOf_78
                      first | rfl | (exact ⟨rfl, rfl⟩) | trivial | assumption | omega
                    ·
                      exact absurd h_12 (by first | decide | omega)
                  ·
                    refine x_iload_n C dX5_threadsOf_44 rfl 2 rfl ?_
                    refine x_aload_n C dX5_threadsOf_45 rfl 0 rfl ?_
                    refine x_get C hK in_X5_threadsOf_X5 0 rfl rfl 5 (by decide) (by decide +kernel) rfl rfl dX5_threadsOf_46 ?_
                    refine x_iload_n C dX5_threadsOf_49 rfl 3 rfl ?_
                    refine x_aald C hK (r := k1) 2 2 rfl hR rfl (by omega) (by omega) (by rfl) dX5_threadsOf_50 ?_
                    refine x_iload C dX5_threadsOf_51 4 rfl ?_
                    refine x_iald C hK 4 0 rfl hI (by omega) (by omega) dX5_threadsOf_53 ?_
                    refine x_iload_n C dX5_threadsOf_54 rfl 1 rfl ?_
                    refine x_icmp_ne C 62 dX5_threadsOf_55 (by decide) (fun h_13 => ?_) (fun h_13 => ?_)
                    ·
                      refine x_iconst C (nI 0) dX5_threadsOf_62 (by decide +kernel) ?_
                      refine xn_iadd C dX5_threadsOf_63 ?_
                      refine x_istore_n C [(2, .int (nI ((cnE cw (nI cl) nw + cnE cp (nI cl) i) + 0))), (0, .ref yo), (1, .int (nI cl)), (3, .int (nI 1)), (4, .int (nI i))] dX5_threadsOf_64 rfl (by decide) rfl ?_
                      refine xn_iinc C (i + 1) [(4, .int (nI (i + 1))), (2, .int (nI ((cnE cw (nI cl) nw + cnE cp (nI cl) i) + 0))), (0, .ref yo), (1, .int (nI cl)), (3, .int (nI 1))] dX5_threadsOf_65 4 rfl (by rw [show Int32.ofInt 1 = nI 1 from by decide +kernel]; exact nI_add _ _) (by decide) rfl ?_
                      refine x_goto C 33 dX5_threadsOf_68 (by decide) ?_
                      refine x_lv [(0, .ref yo), (1, .int (nI cl)), (2, .int (nI (cnE cw (nI cl) nw + cnE cp (nI cl) (i + 1)))), (3, .int (nI 1)), (4, .int (nI (i + 1)))] [2, 3, 1, 4, 0] (by rw [show cnE cw (nI cl) nw + cnE cp (nI cl) (i + 1) = (cnE cw (nI cl) nw + cnE cp (nI cl) i) + 0 from by first | (have e8 := cnE_y (f := cp) (c := nI cl) (k := i) (by assumption); omega) | (have e8 := cnE_n (f := cp) (c := nI cl) (k := i) (by assumption); omega)]; rfl) ?_
                      exact ih_LB_9 (i + 1) (by first | assumption | omega) (by omega)
                    ·
                      refine x_iconst C (nI 1) dX5_threadsOf_58 (by decide +kernel) ?_
                      refine x_goto C 63 dX5_threadsOf_59 (by decide) ?_
                      refine xn_iadd C dX5_threadsOf_63 ?_
                      refine x_istore_n C [(2, .int (nI ((cnE cw (nI cl) nw + cnE cp (nI cl) i) + 1))), (0, .ref yo), (1, .int (nI cl)), (3, .int (nI 1)), (4, .int (nI i))] dX5_threadsOf_64 rfl (by decide) rfl ?_
                      refine xn_iinc C (i + 1) [(4, .int (nI (i + 1))), (2, .int (nI ((cnE cw (nI cl) nw + cnE cp (nI cl) i) + 1))), (0, .ref yo), (1, .int (nI cl)), (3, .int (nI 1))] dX5_threadsOf_65 4 rfl (by rw [show Int32.ofInt 1 = nI 1 from by decide +kernel]; exact nI_add _ _) (by decide) rfl ?_
                      refine x_goto C 33 dX5_threadsOf_68 (by decide) ?_
                      refine x_lv [(0, .ref yo), (1, .int (nI cl)), (2, .int (nI (cnE cw (nI cl) nw + cnE cp (nI cl) (i + 1)))), (3, .int (nI 1)), (4, .int (nI (i + 1)))] [2, 3, 1, 4, 0] (by rw [show cnE cw (nI cl) nw + cnE cp (nI cl) (i + 1) = (cnE cw (nI cl) nw + cnE cp (nI cl) i) + 1 from by first | (have e8 := cnE_y (f := cp) (c := nI cl) (k := i) (by assumption); omega) | (have e8 := cnE_n (f := cp) (c := nI cl) (k := i) (by assumption); omega)]; rfl) ?_
                      exact ih_LB_9 (i + 1) (by first | assumption | omega) (by omega)
              refine x_lv [(0, .ref yo), (1, .int (nI cl)), (2, .int (nI (cnE cw (nI cl) nw + cnE cp (nI cl) 0))), (3, .int (nI 1)), (4, .int (nI 0))] [2, 3, 4, 1, 0] (by rw [show cnE cw (nI cl) nw + cnE cp (nI cl) 0 = cnE cw (nI cl) nw from by rfl]; rfl) ?_
              exact LB_9 (np - 0 + 1) 0 (by first | assumption | omega) (Nat.lt_succ_self _)
          ·
            refine x_iload_n C dX5_threadsOf_44 rfl 2 rfl ?_
            refine x_aload_n C dX5_threadsOf_45 rfl 0 rfl ?_
            refine x_get C hK in_X5_threadsOf_X5 0 rfl rfl 5 (by decide) (by decide +kernel) rfl rfl dX5_threadsOf_46 ?_
            refine x_iload_n C dX5_threadsOf_49 rfl 3 rfl ?_
            refine x_aald C hK (r := k0) 2 2 rfl hR rfl (by omega) (by omega) (by rfl) dX5_threadsOf_50 ?_
            refine x_iload C dX5_threadsOf_51 4 rfl ?_
            refine x_iald C hK 3 0 rfl hI (by omega) (by omega) dX5_threadsOf_53 ?_
            refine x_iload_n C dX5_threadsOf_54 rfl 1 rfl ?_
            refine x_icmp_ne C 62 dX5_threadsOf_55 (by decide) (fun h_14 => ?_) (fun h_14 => ?_)
            ·
              refine x_iconst C (nI 0) dX5_threadsOf_62 (by decide +kernel) ?_
              refine xn_iadd C dX5_threadsOf_63 ?_
              refine x_istore_n C [(2, .int (nI ((cnE cw (nI cl) i) + 0))), (0, .ref yo), (1, .int (nI cl)), (3, .int (nI 0)), (4, .int (nI i))] dX5_threadsOf_64 rfl (by decide) rfl ?_
              refine xn_iinc C (i + 1) [(4, .int (nI (i + 1))), (2, .int (nI ((cnE cw (nI cl) i) + 0))), (0, .ref yo), (1, .int (nI cl)), (3, .int (nI 0))] dX5_threadsOf_65 4 rfl (by rw [show Int32.ofInt 1 = nI 1 from by decide +kernel]; exact nI_add _ _) (by decide) rfl ?_
              refine x_goto C 33 dX5_threadsOf_68 (by decide) ?_
              refine x_lv [(0, .ref yo), (1, .int (nI cl)), (2, .int (nI (cnE cw (nI cl) (i + 1)))), (3, .int (nI 0)), (4, .int (nI (i + 1)))] [2, 3, 1, 4, 0] (by rw [show cnE cw (nI cl) (i + 1) = (cnE cw (nI cl) i) + 0 from by first | exact cnE_y (by assumption) | exact cnE_n (by assumption)]; rfl) ?_
              exact ih_LA_5 (i + 1) (by first | assumption | omega) (by omega)
            ·
              refine x_iconst C (nI 1) dX5_threadsOf_58 (by decide +kernel) ?_
              refine x_goto C 63 dX5_threadsOf_59 (by decide) ?_
              refine xn_iadd C dX5_threadsOf_63 ?_
              refine x_istore_n C [(2, .int (nI ((cnE cw (nI cl) i) + 1))), (0, .ref yo), (1, .int (nI cl)), (3, .int (nI 0)), (4, .int (nI i))] dX5_threadsOf_64 rfl (by decide) rfl ?_
              refine xn_iinc C (i + 1) [(4, .int (nI (i + 1))), (2, .int (nI ((cnE cw (nI cl) i) + 1))), (0, .ref yo), (1, .int (nI cl)), (3, .int (nI 0))] dX5_threadsOf_65 4 rfl (by rw [show Int32.ofInt 1 = nI 1 from by decide +kernel]; exact nI_add _ _) (by decide) rfl ?_
              refine x_goto C 33 dX5_threadsOf_68 (by decide) ?_
              refine x_lv [(0, .ref yo), (1, .int (nI cl)), (2, .int (nI (cnE cw (nI cl) (i + 1)))), (3, .int (nI 0)), (4, .int (nI (i + 1)))] [2, 3, 1, 4, 0] (by rw [show cnE cw (nI cl) (i + 1) = (cnE cw (nI cl) i) + 1 from by first | exact cnE_y (by assumption) | exact cnE_n (by assumption)]; rfl) ?_
              exact ih_LA_5 (i + 1) (by first | assumption | omega) (by omega)
      refine x_lv [(0, .ref yo), (1, .int (nI cl)), (2, .int (nI (cnE cw (nI cl) 0))), (3, .int (nI 0)), (4, .int (nI 0))] [3, 4, 2, 1, 0] (by rw [show cnE cw (nI cl) 0 = 0 from by rfl]; rfl) ?_
      exact LA_5 (nw - 0 + 1) 0 (by first | assumption | omega) (Nat.lt_succ_self _)
  ·
    exact absurd ((bI_eq0 h_3).symm.trans ((below_n (j := cl) (b := 7 + 1) (by omega)).trans (decide_eq_true (by omega)))) (by decide)
abbrev rm_m_threadsOfX : Room := { frames := 1, cells := 0, slots := 0, locals := 22 }
set_option maxRecDepth 100000 in
set_option maxHeartbeats 4000000 in
theorem c_m_threadsOfX (l : Launch) (D : va_G) (tys : List (ClassId × FieldType)) (cI cJ cA : ClassId) (hI : tys[0]? = some (cI, .int)) (hJ : tys[1]? = some (cJ, .long)) (hR : tys[2]? = some (cA, .array .int)) (yo : Nat) (thr : Int32) (ri : Int32) (yt : Nat) (ys : Nat) (yf : Nat) (yc : Nat) (co : Nat) (dn : Nat) (yd : Nat) (cl : Int32) (hx : below cl 8 = false) : MI l yX5_threadsOf wsX5_threadsOf rm_m_threadsOfX D tys [.ref yo, .int cl] [(yo, OB 5 [.int thr, .int ri, .ref yt, .ref ys, .ref yf, .ref yc, .int (nI co), .int (nI dn), .ref yd])] Unit (fun r (_ : Unit) => r = nI 0) (fun (_ : Unit) => [(yo, OB 5 [.int (nI 1), .int ri, .ref yt, .ref ys, .ref yf, .ref yc, .int (nI co), .int (nI dn), .ref yd])]) 0 0 := by
  intro sz
  refine x_met (cc := cX5_threadsOf) (maxL := 5) (ret := (some .int)) (by decide +kernel) rfl (by show _ ≤ _; simp [lg_sl, Value.category]) [(0, .ref yo), (1, .int cl)] rfl ?_
  intro p e s m args below meth c Q A H0 C hK hNW hlk hrt hnm hQ hH0 hAA hA
  refine x_aload_n C dX5_threadsOf_0 rfl 0 rfl ?_
  refine x_iconst C (nI 0) dX5_threadsOf_1 (by decide +kernel) ?_
  refine x_put C hK in_X5_threadsOf_X5 tyX5 tyX5_ok nmX5 0 rfl rfl 0 (by decide) (by decide +kernel) rfl rfl (tyX5_ok 0 (by decide)) rfl rfl (Nat.le_of_ble_eq_true rfl) [(yo, OB 5 [.int (nI 0), .int ri, .ref yt, .ref ys, .ref yf, .ref yc, .int (nI co), .int (nI dn), .ref yd])] rfl dX5_threadsOf_2 ?_
  refine x_iload_n C dX5_threadsOf_5 rfl 1 rfl ?_
  refine x_iconst C (nI 0) dX5_threadsOf_6 (by decide +kernel) ?_
  refine x_bipush C (nI 7) dX5_threadsOf_7 (by decide +kernel) ?_
  refine x_calli (x_runS C hK hNW (c_m_isIn0 l D tys cI cJ cA hI hJ hR cl 7 (by first | omega | assumption)) (va_cwS 3 C.2.2.2.2 gX5_threadsOf_X5_isIn rfl rfl rfl (by decide +kernel) ⟨by decide, by decide⟩) [] rfl (by decide) (st := []) rfl rfl (Nat.le_of_ble_eq_true rfl) dX5_threadsOf_9 ⟨by first | decide | omega | exact (show _ ≤ 0 by omega), by first | decide | omega | exact (show _ ≤ 0 by omega)⟩) hA [] rfl [0] [(yo, OB 5 [.int (nI 0), .int ri, .ref yt, .ref ys, .ref yf, .ref yc, .int (nI co), .int (nI dn), .ref yd])] rfl (by decide) (by decide) [0] (by decide) (wf := (fun (u : Unit) => [(yo, OB 5 [.int (nI 0), .int ri, .ref yt, .ref ys, .ref yf, .ref yc, .int (nI co), .int (nI dn), .ref yd])])) (fun _ => rfl) (fun r_1 u h_2 => ?_)
  subst h_2
  refine x_if_ne C 21 dX5_threadsOf_12 (by decide) (fun h_3 => ?_) (fun h_3 => ?_)
  ·
    exact absurd ((bI_ne0 h_3).symm.trans hx) (by decide)
  ·
    refine x_aload_n C dX5_threadsOf_15 rfl 0 rfl ?_
    refine x_iconst C (nI 1) dX5_threadsOf_16 (by decide +kernel) ?_
    refine x_calli (x_runV C hK hNW (c_m_fail l D tys cI cJ cA hI hJ hR yo (nI 0) ri yt ys yf yc co dn yd 1 ) (cwV 1 C.2.2.2.2 gX5_threadsOf_X5_fail rfl rfl rfl (by decide +kernel) ⟨by decide, by decide⟩) [0] rfl (by decide) 0 5 rfl rfl rfl (st := []) rfl rfl (Nat.le_of_ble_eq_true rfl) dX5_threadsOf_17 ⟨by first | decide | omega | exact (show _ ≤ 0 by omega), by first | decide | omega | exact (show _ ≤ 0 by omega)⟩) hA [0] rfl [] [] rfl (by decide) (by decide) [0] (by decide) (wf := (fun (u : Unit) => [(yo, OB 5 [.int (nI 1), .int ri, .ref yt, .ref ys, .ref yf, .ref yc, .int (nI co), .int (nI dn), .ref yd])])) (fun _ => rfl) (fun r_4 u h_5 => ?_)
    subst h_5
    refine x_iret C hK hlk hrt hQ hH0 hAA () ?_ [0] (by decide) rfl (by first | decide | omega) (by first | decide | omega) dX5_threadsOf_20
    first | rfl | (exact ⟨rfl, rfl⟩) | trivial | assumption | omega
abbrev rm_m_draw : Room := { frames := 1, cells := 0, slots := 0, locals := 22 }
set_option maxRecDepth 100000 in
set_option maxHeartbeats 4000000 in
theorem c_m_draw (l : Launch) (D : va_G) (tys : List (ClassId × FieldType)) (cI cJ cA : ClassId) (hI : tys[0]? = some (cI, .int)) (hJ : tys[1]? = some (cJ, .long)) (hR : tys[2]? = some (cA, .array .int)) (yo : Nat) (thr : Int32) (ri : Int32) (yt : Nat) (ys : Nat) (yf : Nat) (yc : Nat) (co : Nat) (dn : Nat) (yd : Nat) (c1 : Nat) (h1 : 1 ≤ c1) (h2 : c1 ≤ 40) : MI l yX5_draw wsX5_draw rm_m_draw D tys [.ref yo, .int (nI c1)] [(yo, OB 5 [.int thr, .int ri, .ref yt, .ref ys, .ref yf, .ref yc, .int (nI co), .int (nI dn), .ref yd])] Unit (fun r (_ : Unit) => r = nI dn) (fun (_ : Unit) => [(yo, OB 5 [.int (nI 0), .int ri, .ref yt, .ref ys, .ref yf, .ref yc, .int (nI c1), .int (nI 0), .ref yd])]) 0 0 := by
  intro sz
  refine x_met (cc := cX5_draw) (maxL := 3) (ret := (some .int)) (by decide +kernel) rfl (by show _ ≤ _; simp [lg_sl, Value.category]) [(0, .ref yo), (1, .int (nI c1))] rfl ?_
  intro p e s m args below meth c Q A H0 C hK hNW hlk hrt hnm hQ hH0 hAA hA
  refine x_aload_n C dX5_draw_0 rfl 0 rfl ?_
  refine x_iconst C (nI 0) dX5_draw_1 (by decide +kernel) ?_
  refine x_put C hK in_X5_draw_X5 tyX5 tyX5_ok nmX5 0 rfl rfl 0 (by decide) (by decide +kernel) rfl rfl (tyX5_ok 0 (by decide)) rfl rfl (Nat.le_of_ble_eq_true rfl) [(yo, OB 5 [.int (nI 0), .int ri, .ref yt, .ref ys, .ref yf, .ref yc, .int (nI co), .int (nI dn), .ref yd])] rfl dX5_draw_2 ?_
  refine x_iload_n C dX5_draw_5 rfl 1 rfl ?_
  refine x_iconst C (nI 1) dX5_draw_6 (by decide +kernel) ?_
  refine x_bipush C (nI 40) dX5_draw_7 (by decide +kernel) ?_
  refine x_calli (x_runS C hK hNW (c_m_isIn1 l D tys cI cJ cA hI hJ hR (nI c1) 40 (by first | omega | assumption)) (va_cwS 3 C.2.2.2.2 gX5_draw_X5_isIn rfl rfl rfl (by decide +kernel) ⟨by decide, by decide⟩) [] rfl (by decide) (st := []) rfl rfl (Nat.le_of_ble_eq_true rfl) dX5_draw_9 ⟨by first | decide | omega | exact (show _ ≤ 0 by omega), by first | decide | omega | exact (show _ ≤ 0 by omega)⟩) hA [] rfl [0] [(yo, OB 5 [.int (nI 0), .int ri, .ref yt, .ref ys, .ref yf, .ref yc, .int (nI co), .int (nI dn), .ref yd])] rfl (by decide) (by decide) [0] (by decide) (wf := (fun (u : Unit) => [(yo, OB 5 [.int (nI 0), .int ri, .ref yt, .ref ys, .ref yf, .ref yc, .int (nI co), .int (nI dn), .ref yd])])) (fun _ => rfl) (fun r_1 u h_2 => ?_)
  subst h_2
  refine x_if_ne C 21 dX5_draw_12 (by decide) (fun h_3 => ?_) (fun h_3 => ?_)
  ·
    refine x_aload_n C dX5_draw_21 rfl 0 rfl ?_
    refine x_get C hK in_X5_draw_X5 0 rfl rfl 7 (by decide) (by decide +kernel) rfl rfl dX5_draw_22 ?_
    refine x_istore_n C [(2, .int (nI dn)), (0, .ref yo), (1, .int (nI c1))] dX5_draw_25 rfl (by decide) rfl ?_
    refine x_aload_n C dX5_draw_26 rfl 1 rfl ?_
    refine x_iload_n C dX5_draw_27 rfl 2 rfl ?_
    refine x_put C hK in_X5_draw_X5 tyX5 tyX5_ok nmX5 0 rfl rfl 6 (by decide) (by decide +kernel) rfl rfl (tyX5_ok 6 (by decide)) rfl rfl (Nat.le_of_ble_eq_true rfl) [(yo, OB 5 [.int (nI 0), .int ri, .ref yt, .ref ys, .ref yf, .ref yc, .int (nI c1), .int (nI dn), .ref yd])] rfl dX5_draw_28 ?_
    refine x_aload_n C dX5_draw_31 rfl 1 rfl ?_
    refine x_iconst C (nI 0) dX5_draw_32 (by decide +kernel) ?_
    refine x_put C hK in_X5_draw_X5 tyX5 tyX5_ok nmX5 0 rfl rfl 7 (by decide) (by decide +kernel) rfl rfl (tyX5_ok 7 (by decide)) rfl rfl (Nat.le_of_ble_eq_true rfl) [(yo, OB 5 [.int (nI 0), .int ri, .ref yt, .ref ys, .ref yf, .ref yc, .int (nI c1), .int (nI 0), .ref yd])] rfl dX5_draw_33 ?_
    refine x_iload_n C dX5_draw_36 rfl 0 rfl ?_
    refine x_iret C hK hlk hrt hQ hH0 hAA () ?_ [0] (by decide) rfl (by first | decide | omega) (by first | decide | omega) dX5_draw_37
    first | rfl | (exact ⟨rfl, rfl⟩) | trivial | assumption | omega
  ·
    exact absurd ((bI_eq0 h_3).symm.trans (isin1_n h1 h2 (by omega))) (by decide)
abbrev rm_m_drawX : Room := { frames := 1, cells := 0, slots := 0, locals := 22 }
set_option maxRecDepth 100000 in
set_option maxHeartbeats 4000000 in
theorem c_m_drawX (l : Launch) (D : va_G) (tys : List (ClassId × FieldType)) (cI cJ cA : ClassId) (hI : tys[0]? = some (cI, .int)) (hJ : tys[1]? = some (cJ, .long)) (hR : tys[2]? = some (cA, .array .int)) (yo : Nat) (thr : Int32) (ri : Int32) (yt : Nat) (ys : Nat) (yf : Nat) (yc : Nat) (co : Nat) (dn : Nat) (yd : Nat) (ln : Int32) (hx : ¬ (¬ ln < nI 1 ∧ ln ≤ nI 40)) : MI l yX5_draw wsX5_draw rm_m_drawX D tys [.ref yo, .int ln] [(yo, OB 5 [.int thr, .int ri, .ref yt, .ref ys, .ref yf, .ref yc, .int (nI co), .int (nI dn), .ref yd])] Unit (fun r (_ : Unit) => r = nI 0) (fun (_ : Unit) => [(yo, OB 5 [.int (nI 1), .int ri, .ref yt, .ref ys, .ref yf, .ref yc, .int (nI co), .int (nI dn), .ref yd])]) 0 0 := by
  intro sz
  refine x_met (cc := cX5_draw) (maxL := 3) (ret := (some .int)) (by decide +kernel) rfl (by show _ ≤ _; simp [lg_sl, Value.category]) [(0, .ref yo), (1, .int ln)] rfl ?_
  intro p e s m args below meth c Q A H0 C hK hNW hlk hrt hnm hQ hH0 hAA hA
  refine x_aload_n C dX5_draw_0 rfl 0 rfl ?_
  refine x_iconst C (nI 0) dX5_draw_1 (by decide +kernel) ?_
  refine x_put C hK in_X5_draw_X5 tyX5 tyX5_ok nmX5 0 rfl rfl 0 (by decide) (by decide +kernel) rfl rfl (tyX5_ok 0 (by decide)) rfl rfl (Nat.le_of_ble_eq_true rfl) [(yo, OB 5 [.int (nI 0), .int ri, .ref yt, .ref ys, .ref yf, .ref yc, .int (nI co), .int (nI dn), .ref yd])] rfl dX5_draw_2 ?_
  refine x_iload_n C dX5_draw_5 rfl 1 rfl ?_
  refine x_iconst C (nI 1) dX5_draw_6 (by decide +kernel) ?_
  refine x_bipush C (nI 40) dX5_draw_7 (by decide +kernel) ?_
  refine x_calli (x_runS C hK hNW (c_m_isIn1 l D tys cI cJ cA hI hJ hR ln 40 (by first | omega | assumption)) (va_cwS 3 C.2.2.2.2 gX5_draw_X5_isIn rfl rfl rfl (by decide +kernel) ⟨by decide, by decide⟩) [] rfl (by decide) (st := []) rfl rfl (Nat.le_of_ble_eq_true rfl) dX5_draw_9 ⟨by first | decide | omega | exact (show _ ≤ 0 by omega), by first | decide | omega | exact (show _ ≤ 0 by omega)⟩) hA [] rfl [0] [(yo, OB 5 [.int (nI 0), .int ri, .ref yt, .ref ys, .ref yf, .ref yc, .int (nI co), .int (nI dn), .ref yd])] rfl (by decide) (by decide) [0] (by decide) (wf := (fun (u : Unit) => [(yo, OB 5 [.int (nI 0), .int ri, .ref yt, .ref ys, .ref yf, .ref yc, .int (nI co), .int (nI dn), .ref yd])])) (fun _ => rfl) (fun r_1 u h_2 => ?_)
  subst h_2
  refine x_if_ne C 21 dX5_draw_12 (by decide) (fun h_3 => ?_) (fun h_3 => ?_)
  ·
    exact absurd ((bI_ne0 h_3).symm.trans (decide_eq_false hx)) (by decide)
  ·
    refine x_aload_n C dX5_draw_15 rfl 0 rfl ?_
    refine x_iconst C (nI 1) dX5_draw_16 (by decide +kernel) ?_
    refine x_calli (x_runV C hK hNW (c_m_fail l D tys cI cJ cA hI hJ hR yo (nI 0) ri yt ys yf yc co dn yd 1 ) (cwV 1 C.2.2.2.2 gX5_draw_X5_fail rfl rfl rfl (by decide +kernel) ⟨by decide, by decide⟩) [0] rfl (by decide) 0 5 rfl rfl rfl (st := []) rfl rfl (Nat.le_of_ble_eq_true rfl) dX5_draw_17 ⟨by first | decide | omega | exact (show _ ≤ 0 by omega), by first | decide | omega | exact (show _ ≤ 0 by omega)⟩) hA [0] rfl [] [] rfl (by decide) (by decide) [0] (by decide) (wf := (fun (u : Unit) => [(yo, OB 5 [.int (nI 1), .int ri, .ref yt, .ref ys, .ref yf, .ref yc, .int (nI co), .int (nI dn), .ref yd])])) (fun _ => rfl) (fun r_4 u h_5 => ?_)
    subst h_5
    refine x_iret C hK hlk hrt hQ hH0 hAA () ?_ [0] (by decide) rfl (by first | decide | omega) (by first | decide | omega) dX5_draw_20
    first | rfl | (exact ⟨rfl, rfl⟩) | trivial | assumption | omega
abbrev rm_m_row : Room := { frames := 0, cells := 0, slots := 0, locals := 0 }
set_option maxRecDepth 100000 in
set_option maxHeartbeats 4000000 in
theorem c_m_row (l : Launch) (D : va_G) (tys : List (ClassId × FieldType)) (cI cJ cA : ClassId) (hI : tys[0]? = some (cI, .int)) (hJ : tys[1]? = some (cJ, .long)) (hR : tys[2]? = some (cA, .array .int)) (yo : Nat) (thr : Int32) (ri : Int32) (yt : Nat) (ys : Nat) (yf : Nat) (yc : Nat) (co : Nat) (dn : Nat) (yd : Nat) (fr : Nat → Int64) (cl : Int64) (h1 : 0 < co) (h1b : co ≤ 40) (h2 : dn < 40) (hok : cl &&& (allof (nI co) ^^^ (-1)) = 0) : MI l yX5_row wsX5_row rm_m_row D tys [.ref yo, .long cl] [(yo, OB 5 [.int thr, .int ri, .ref yt, .ref ys, .ref yf, .ref yc, .int (nI co), .int (nI dn), .ref yd]), (yd, AJ cJ 40 fr)] Unit (fun r (_ : Unit) => r = nI (dn + 1)) (fun (_ : Unit) => [(yo, OB 5 [.int (nI 0), .int ri, .ref yt, .ref ys, .ref yf, .ref yc, .int (nI co), .int (nI (dn + 1)), .ref yd]), (yd, AJ cJ 40 (vp_updL fr dn cl))]) 0 0 := by
  intro sz
  refine x_met (cc := cX5_row) (maxL := 3) (ret := (some .int)) (by decide +kernel) rfl (by show _ ≤ _; simp [lg_sl, Value.category]) [(0, .ref yo), (1, .long cl)] rfl ?_
  intro p e s m args below meth c Q A H0 C hK hNW hlk hrt hnm hQ hH0 hAA hA
  refine x_aload_n C dX5_row_0 rfl 0 rfl ?_
  refine x_iconst C (nI 0) dX5_row_1 (by decide +kernel) ?_
  refine x_put C hK in_X5_row_X5 tyX5 tyX5_ok nmX5 0 rfl rfl 0 (by decide) (by decide +kernel) rfl rfl (tyX5_ok 0 (by decide)) rfl rfl (Nat.le_of_ble_eq_true rfl) [(yo, OB 5 [.int (nI 0), .int ri, .ref yt, .ref ys, .ref yf, .ref yc, .int (nI co), .int (nI dn), .ref yd]), (yd, AJ cJ 40 fr)] rfl dX5_row_2 ?_
  refine x_aload_n C dX5_row_5 rfl 0 rfl ?_
  refine x_get C hK in_X5_row_X5 0 rfl rfl 6 (by decide) (by decide +kernel) rfl rfl dX5_row_6 ?_
  refine xn_if_eq C 21 (by omega) dX5_row_9 (by decide) (fun h_1 => ?_) (fun h_1 => ?_)
  ·
    exact absurd h_1 (by omega)
  ·
    refine x_aload_n C dX5_row_12 rfl 0 rfl ?_
    refine x_get C hK in_X5_row_X5 0 rfl rfl 7 (by decide) (by decide +kernel) rfl rfl dX5_row_13 ?_
    refine x_bipush C (nI 40) dX5_row_16 (by decide +kernel) ?_
    refine xn_icmp_ne C 27 (by omega) (by omega) dX5_row_18 (by decide) (fun h_2 => ?_) (fun h_2 => ?_)
    ·
      refine x_lload_n C dX5_row_27 rfl 1 rfl ?_
      refine x_lconst C (0 : Int64) dX5_row_28 rfl ?_
      refine x_lcmp C dX5_row_29 ?_
      refine x_if_lt C 44 dX5_row_30 (by decide) (fun h_3 => ?_) (fun h_3 => ?_)
      ·
        exact absurd ((lg_cmp_lt _ _).mp h_3) (row_y h1b hok).1
      ·
        refine x_lload_n C dX5_row_33 rfl 1 rfl ?_
        refine x_aload_n C dX5_row_34 rfl 0 rfl ?_
        refine x_get C hK in_X5_row_X5 0 rfl rfl 6 (by decide) (by decide +kernel) rfl rfl dX5_row_35 ?_
        refine x_lshr C _ dX5_row_38 rfl ?_
        refine x_lconst C (0 : Int64) dX5_row_39 rfl ?_
        refine x_lcmp C dX5_row_40 ?_
        refine x_if_eq C 50 dX5_row_41 (by decide) (fun h_4 => ?_) (fun h_4 => ?_)
        ·
          refine x_aload_n C dX5_row_50 rfl 0 rfl ?_
          refine x_get C hK in_X5_row_X5 0 rfl rfl 8 (by decide) (by decide +kernel) rfl rfl dX5_row_51 ?_
          refine x_aload_n C dX5_row_54 rfl 0 rfl ?_
          refine x_get C hK in_X5_row_X5 0 rfl rfl 7 (by decide) (by decide +kernel) rfl rfl dX5_row_55 ?_
          refine x_lload_n C dX5_row_58 rfl 1 rfl ?_
          refine x_last C hK 1 1 rfl hJ (by omega) (by omega) [(yo, OB 5 [.int (nI 0), .int ri, .ref yt, .ref ys, .ref yf, .ref yc, .int (nI co), .int (nI dn), .ref yd]), (yd, AJ cJ 40 (vp_updL fr dn cl))] rfl dX5_row_59 ?_
          refine x_aload_n C dX5_row_60 rfl 0 rfl ?_
          refine x_dup C dX5_row_61 rfl ?_
          refine x_get C hK in_X5_row_X5 0 rfl rfl 7 (by decide) (by decide +kernel) rfl rfl dX5_row_62 ?_
          refine x_iconst C (nI 1) dX5_row_65 (by decide +kernel) ?_
          refine xn_iadd C dX5_row_66 ?_
          refine x_put C hK in_X5_row_X5 tyX5 tyX5_ok nmX5 0 rfl rfl 7 (by decide) (by decide +kernel) rfl rfl (tyX5_ok 7 (by decide)) rfl rfl (Nat.le_of_ble_eq_true rfl) [(yo, OB 5 [.int (nI 0), .int ri, .ref yt, .ref ys, .ref yf, .ref yc, .int (nI co), .int (nI (dn + 1)), .ref yd]), (yd, AJ cJ 40 (vp_updL fr dn cl))] rfl dX5_row_67 ?_
          refine x_aload_n C dX5_row_70 rfl 0 rfl ?_
          refine x_get C hK in_X5_row_X5 0 rfl rfl 7 (by decide) (by decide +kernel) rfl rfl dX5_row_71 ?_
          refine x_iret C hK hlk hrt hQ hH0 hAA () ?_ [0, 1] (by decide) rfl (by first | decide | omega) (by first | decide | omega) dX5_row_74
          first | rfl | (exact ⟨rfl, rfl⟩) | trivial | assumption | omega
        ·
          exact absurd ((lg_cmp_eq _ _).mpr (row_y h1b hok).2) h_4
    ·
      exact absurd h_2 (by omega)
abbrev rm_m_rowX1 : Room := { frames := 1, cells := 0, slots := 0, locals := 21 }
set_option maxRecDepth 100000 in
set_option maxHeartbeats 4000000 in
theorem c_m_rowX1 (l : Launch) (D : va_G) (tys : List (ClassId × FieldType)) (cI cJ cA : ClassId) (hI : tys[0]? = some (cI, .int)) (hJ : tys[1]? = some (cJ, .long)) (hR : tys[2]? = some (cA, .array .int)) (yo : Nat) (thr : Int32) (ri : Int32) (yt : Nat) (ys : Nat) (yf : Nat) (yc : Nat) (co : Nat) (dn : Nat) (yd : Nat) (cl : Int64) (h1 : co ≤ 40) (h2 : dn ≤ 40) (hx : co = 0 ∨ dn = 40) : MI l yX5_row wsX5_row rm_m_rowX1 D tys [.ref yo, .long cl] [(yo, OB 5 [.int thr, .int ri, .ref yt, .ref ys, .ref yf, .ref yc, .int (nI co), .int (nI dn), .ref yd])] Unit (fun r (_ : Unit) => r = nI 0) (fun (_ : Unit) => [(yo, OB 5 [.int (nI 1), .int ri, .ref yt, .ref ys, .ref yf, .ref yc, .int (nI co), .int (nI dn), .ref yd])]) 0 0 := by
  intro sz
  refine x_met (cc := cX5_row) (maxL := 3) (ret := (some .int)) (by decide +kernel) rfl (by show _ ≤ _; simp [lg_sl, Value.category]) [(0, .ref yo), (1, .long cl)] rfl ?_
  intro p e s m args below meth c Q A H0 C hK hNW hlk hrt hnm hQ hH0 hAA hA
  refine x_aload_n C dX5_row_0 rfl 0 rfl ?_
  refine x_iconst C (nI 0) dX5_row_1 (by decide +kernel) ?_
  refine x_put C hK in_X5_row_X5 tyX5 tyX5_ok nmX5 0 rfl rfl 0 (by decide) (by decide +kernel) rfl rfl (tyX5_ok 0 (by decide)) rfl rfl (Nat.le_of_ble_eq_true rfl) [(yo, OB 5 [.int (nI 0), .int ri, .ref yt, .ref ys, .ref yf, .ref yc, .int (nI co), .int (nI dn), .ref yd])] rfl dX5_row_2 ?_
  refine x_aload_n C dX5_row_5 rfl 0 rfl ?_
  refine x_get C hK in_X5_row_X5 0 rfl rfl 6 (by decide) (by decide +kernel) rfl rfl dX5_row_6 ?_
  refine xn_if_eq C 21 (by omega) dX5_row_9 (by decide) (fun h_1 => ?_) (fun h_1 => ?_)
  ·
    refine x_aload_n C dX5_row_21 rfl 0 rfl ?_
    refine x_iconst C (nI 1) dX5_row_22 (by decide +kernel) ?_
    refine x_calli (x_runV C hK hNW (c_m_fail l D tys cI cJ cA hI hJ hR yo (nI 0) ri yt ys yf yc co dn yd 1 ) (cwV 1 C.2.2.2.2 gX5_row_X5_fail rfl rfl rfl (by decide +kernel) ⟨by decide, by decide⟩) [0] rfl (by decide) 0 5 rfl rfl rfl (st := []) rfl rfl (Nat.le_of_ble_eq_true rfl) dX5_row_23 ⟨by first | decide | omega | exact (show _ ≤ 0 by omega), by first | decide | omega | exact (show _ ≤ 0 by omega)⟩) hA [0] rfl [] [] rfl (by decide) (by decide) [0] (by decide) (wf := (fun (u : Unit) => [(yo, OB 5 [.int (nI 1), .int ri, .ref yt, .ref ys, .ref yf, .ref yc, .int (nI co), .int (nI dn), .ref yd])])) (fun _ => rfl) (fun r_2 u h_3 => ?_)
    subst h_3
    refine x_iret C hK hlk hrt hQ hH0 hAA () ?_ [0] (by decide) rfl (by first | decide | omega) (by first | decide | omega) dX5_row_26
    first | rfl | (exact ⟨rfl, rfl⟩) | trivial | assumption | omega
  ·
    refine x_aload_n C dX5_row_12 rfl 0 rfl ?_
    refine x_get C hK in_X5_row_X5 0 rfl rfl 7 (by decide) (by decide +kernel) rfl rfl dX5_row_13 ?_
    refine x_bipush C (nI 40) dX5_row_16 (by decide +kernel) ?_
    refine xn_icmp_ne C 27 (by omega) (by omega) dX5_row_18 (by decide) (fun h_4 => ?_) (fun h_4 => ?_)
    ·
      exact False.elim (by omega)
    ·
      refine x_aload_n C dX5_row_21 rfl 0 rfl ?_
      refine x_iconst C (nI 1) dX5_row_22 (by decide +kernel) ?_
      refine x_calli (x_runV C hK hNW (c_m_fail l D tys cI cJ cA hI hJ hR yo (nI 0) ri yt ys yf yc co dn yd 1 ) (cwV 1 C.2.2.2.2 gX5_row_X5_fail rfl rfl rfl (by decide +kernel) ⟨by decide, by decide⟩) [0] rfl (by decide) 0 5 rfl rfl rfl (st := []) rfl rfl (Nat.le_of_ble_eq_true rfl) dX5_row_23 ⟨by first | decide | omega | exact (show _ ≤ 0 by omega), by first | decide | omega | exact (show _ ≤ 0 by omega)⟩) hA [0] rfl [] [] rfl (by decide) (by decide) [0] (by decide) (wf := (fun (u : Unit) => [(yo, OB 5 [.int (nI 1), .int ri, .ref yt, .ref ys, .ref yf, .ref yc, .int (nI co), .int (nI dn), .ref yd])])) (fun _ => rfl) (fun r_5 u h_6 => ?_)
      subst h_6
      refine x_iret C hK hlk hrt hQ hH0 hAA () ?_ [0] (by decide) rfl (by first | decide | omega) (by first | decide | omega) dX5_row_26
      first | rfl | (exact ⟨rfl, rfl⟩) | trivial | assumption | omega
abbrev rm_m_rowX2 : Room := { frames := 1, cells := 0, slots := 0, locals := 21 }
set_option maxRecDepth 100000 in
set_option maxHeartbeats 4000000 in
theorem c_m_rowX2 (l : Launch) (D : va_G) (tys : List (ClassId × FieldType)) (cI cJ cA : ClassId) (hI : tys[0]? = some (cI, .int)) (hJ : tys[1]? = some (cJ, .long)) (hR : tys[2]? = some (cA, .array .int)) (yo : Nat) (thr : Int32) (ri : Int32) (yt : Nat) (ys : Nat) (yf : Nat) (yc : Nat) (co : Nat) (dn : Nat) (yd : Nat) (cl : Int64) (h1 : 0 < co) (h1b : co ≤ 40) (h2 : dn < 40) (hok : cl &&& (allof (nI co) ^^^ (-1)) ≠ 0) : MI l yX5_row wsX5_row rm_m_rowX2 D tys [.ref yo, .long cl] [(yo, OB 5 [.int thr, .int ri, .ref yt, .ref ys, .ref yf, .ref yc, .int (nI co), .int (nI dn), .ref yd])] Unit (fun r (_ : Unit) => r = nI 0) (fun (_ : Unit) => [(yo, OB 5 [.int (nI 2), .int ri, .ref yt, .ref ys, .ref yf, .ref yc, .int (nI co), .int (nI dn), .ref yd])]) 0 0 := by
  intro sz
  refine x_met (cc := cX5_row) (maxL := 3) (ret := (some .int)) (by decide +kernel) rfl (by show _ ≤ _; simp [lg_sl, Value.category]) [(0, .ref yo), (1, .long cl)] rfl ?_
  intro p e s m args below meth c Q A H0 C hK hNW hlk hrt hnm hQ hH0 hAA hA
  refine x_aload_n C dX5_row_0 rfl 0 rfl ?_
  refine x_iconst C (nI 0) dX5_row_1 (by decide +kernel) ?_
  refine x_put C hK in_X5_row_X5 tyX5 tyX5_ok nmX5 0 rfl rfl 0 (by decide) (by decide +kernel) rfl rfl (tyX5_ok 0 (by decide)) rfl rfl (Nat.le_of_ble_eq_true rfl) [(yo, OB 5 [.int (nI 0), .int ri, .ref yt, .ref ys, .ref yf, .ref yc, .int (nI co), .int (nI dn), .ref yd])] rfl dX5_row_2 ?_
  refine x_aload_n C dX5_row_5 rfl 0 rfl ?_
  refine x_get C hK in_X5_row_X5 0 rfl rfl 6 (by decide) (by decide +kernel) rfl rfl dX5_row_6 ?_
  refine xn_if_eq C 21 (by omega) dX5_row_9 (by decide) (fun h_1 => ?_) (fun h_1 => ?_)
  ·
    exact absurd h_1 (by omega)
  ·
    refine x_aload_n C dX5_row_12 rfl 0 rfl ?_
    refine x_get C hK in_X5_row_X5 0 rfl rfl 7 (by decide) (by decide +kernel) rfl rfl dX5_row_13 ?_
    refine x_bipush C (nI 40) dX5_row_16 (by decide +kernel) ?_
    refine xn_icmp_ne C 27 (by omega) (by omega) dX5_row_18 (by decide) (fun h_2 => ?_) (fun h_2 => ?_)
    ·
      refine x_lload_n C dX5_row_27 rfl 1 rfl ?_
      refine x_lconst C (0 : Int64) dX5_row_28 rfl ?_
      refine x_lcmp C dX5_row_29 ?_
      refine x_if_lt C 44 dX5_row_30 (by decide) (fun h_3 => ?_) (fun h_3 => ?_)
      ·
        refine x_aload_n C dX5_row_44 rfl 0 rfl ?_
        refine x_iconst C (nI 2) dX5_row_45 (by decide +kernel) ?_
        refine x_calli (x_runV C hK hNW (c_m_fail l D tys cI cJ cA hI hJ hR yo (nI 0) ri yt ys yf yc co dn yd 2 ) (cwV 1 C.2.2.2.2 gX5_row_X5_fail rfl rfl rfl (by decide +kernel) ⟨by decide, by decide⟩) [0] rfl (by decide) 0 5 rfl rfl rfl (st := []) rfl rfl (Nat.le_of_ble_eq_true rfl) dX5_row_46 ⟨by first | decide | omega | exact (show _ ≤ 0 by omega), by first | decide | omega | exact (show _ ≤ 0 by omega)⟩) hA [0] rfl [] [] rfl (by decide) (by decide) [0] (by decide) (wf := (fun (u : Unit) => [(yo, OB 5 [.int (nI 2), .int ri, .ref yt, .ref ys, .ref yf, .ref yc, .int (nI co), .int (nI dn), .ref yd])])) (fun _ => rfl) (fun r_4 u h_5 => ?_)
        subst h_5
        refine x_iret C hK hlk hrt hQ hH0 hAA () ?_ [0] (by decide) rfl (by first | decide | omega) (by first | decide | omega) dX5_row_49
        first | rfl | (exact ⟨rfl, rfl⟩) | trivial | assumption | omega
      ·
        refine x_lload_n C dX5_row_33 rfl 1 rfl ?_
        refine x_aload_n C dX5_row_34 rfl 0 rfl ?_
        refine x_get C hK in_X5_row_X5 0 rfl rfl 6 (by decide) (by decide +kernel) rfl rfl dX5_row_35 ?_
        refine x_lshr C _ dX5_row_38 rfl ?_
        refine x_lconst C (0 : Int64) dX5_row_39 rfl ?_
        refine x_lcmp C dX5_row_40 ?_
        refine x_if_eq C 50 dX5_row_41 (by decide) (fun h_6 => ?_) (fun h_6 => ?_)
        ·
          exact absurd ((lg_cmp_eq _ _).mp h_6) (row_n h1b hok)
        ·
          refine x_aload_n C dX5_row_44 rfl 0 rfl ?_
          refine x_iconst C (nI 2) dX5_row_45 (by decide +kernel) ?_
          refine x_calli (x_runV C hK hNW (c_m_fail l D tys cI cJ cA hI hJ hR yo (nI 0) ri yt ys yf yc co dn yd 2 ) (cwV 1 C.2.2.2.2 gX5_row_X5_fail rfl rfl rfl (by decide +kernel) ⟨by decide, by decide⟩) [0] rfl (by decide) 0 5 rfl rfl rfl (st := []) rfl rfl (Nat.le_of_ble_eq_true rfl) dX5_row_46 ⟨by first | decide | omega | exact (show _ ≤ 0 by omega), by first | decide | omega | exact (show _ ≤ 0 by omega)⟩) hA [0] rfl [] [] rfl (by decide) (by decide) [0] (by decide) (wf := (fun (u : Unit) => [(yo, OB 5 [.int (nI 2), .int ri, .ref yt, .ref ys, .ref yf, .ref yc, .int (nI co), .int (nI dn), .ref yd])])) (fun _ => rfl) (fun r_7 u h_8 => ?_)
          subst h_8
          refine x_iret C hK hlk hrt hQ hH0 hAA () ?_ [0] (by decide) rfl (by first | decide | omega) (by first | decide | omega) dX5_row_49
          first | rfl | (exact ⟨rfl, rfl⟩) | trivial | assumption | omega
    ·
      exact absurd h_2 (by omega)
abbrev rm_m_column : Room := { frames := 1, cells := 0, slots := 0, locals := 22 }
set_option maxRecDepth 100000 in
set_option maxHeartbeats 4000000 in
theorem c_m_column (l : Launch) (D : va_G) (tys : List (ClassId × FieldType)) (cI cJ cA : ClassId) (hI : tys[0]? = some (cI, .int)) (hJ : tys[1]? = some (cJ, .long)) (hR : tys[2]? = some (cA, .array .int)) (yo : Nat) (thr : Int32) (ri : Int32) (yt : Nat) (ys : Nat) (yf : Nat) (yc : Nat) (co : Nat) (dn : Nat) (yd : Nat) (fr : Nat → Int64) (cl : Nat) (hdn : dn ≤ 40) : ML l yX5_column wsX5_column rm_m_column D tys [.ref yo, .int (nI cl)] [(yo, OB 5 [.int thr, .int ri, .ref yt, .ref ys, .ref yf, .ref yc, .int (nI co), .int (nI dn), .ref yd]), (yd, AJ cJ 40 fr)] Unit (fun r (_ : Unit) => r = mkB (fun k => hbit (fr k) (nI cl)) dn) (fun (_ : Unit) => [(yo, OB 5 [.int thr, .int ri, .ref yt, .ref ys, .ref yf, .ref yc, .int (nI co), .int (nI dn), .ref yd]), (yd, AJ cJ 40 fr)]) 0 0 := by
  intro sz
  refine x_met (cc := cX5_column) (maxL := 5) (ret := (some .long)) (by decide +kernel) rfl (by show _ ≤ _; simp [lg_sl, Value.category]) [(0, .ref yo), (1, .int (nI cl))] rfl ?_
  intro p e s m args below meth c Q A H0 C hK hNW hlk hrt hnm hQ hH0 hAA hA
  refine x_lconst C (0 : Int64) dX5_column_0 rfl ?_
  refine x_lstore_n C [(2, .long (0 : Int64)), (0, .ref yo), (1, .int (nI cl))] dX5_column_1 rfl (by decide) rfl ?_
  refine x_iconst C (nI 0) dX5_column_2 (by decide +kernel) ?_
  refine x_istore C [(4, .int (nI 0)), (2, .long (0 : Int64)), (0, .ref yo), (1, .int (nI cl))] dX5_column_3 (by decide) rfl ?_
  have K_1 : ∀ (fuel : Nat) (i : Nat), (i ≤ dn) → dn - i < fuel → X_ p l e rm_m_column s m args below meth c Q D A H0 5 0 0 [(yo, OB 5 [.int thr, .int ri, .ref yt, .ref ys, .ref yf, .ref yc, .int (nI co), .int (nI dn), .ref yd]), (yd, AJ cJ 40 fr)] [(0, .ref yo), (1, .int (nI cl)), (2, .long (mkB (fun k => hbit (fr k) (nI cl)) i)), (4, .int (nI i))] 5 [] := by
    intro fuel
    induction fuel with
    | zero =>
      intros
      exact absurd (by assumption) (Nat.not_lt_zero _)
    | succ fuel ih_K_1 =>
      intro i hi hm_2
      refine x_iload C dX5_column_5 3 rfl ?_
      refine x_aload_n C dX5_column_7 rfl 0 rfl ?_
      refine x_get C hK in_X5_column_X5 0 rfl rfl 7 (by decide) (by decide +kernel) rfl rfl dX5_column_8 ?_
      refine xn_icmp_ge C 41 (by omega) (by omega) dX5_column_11 (by decide) (fun h_3 => ?_) (fun h_3 => ?_)
      ·
        have heq_i : dn = i := by omega
        subst heq_i
        refine x_lload_n C dX5_column_41 rfl 2 rfl ?_
        refine x_lret C hK hlk hrt hQ hH0 hAA () ?_ [0, 1] (by decide) rfl (by first | decide | omega) (by first | decide | omega) dX5_column_42
        first | rfl | (exact ⟨rfl, rfl⟩) | trivial | assumption | omega
      ·
        refine x_aload_n C dX5_column_14 rfl 0 rfl ?_
        refine x_get C hK in_X5_column_X5 0 rfl rfl 8 (by decide) (by decide +kernel) rfl rfl dX5_column_15 ?_
        refine x_iload C dX5_column_18 3 rfl ?_
        refine x_lald C hK 1 1 rfl hJ (by omega) (by omega) dX5_column_20 ?_
        refine x_iload_n C dX5_column_21 rfl 1 rfl ?_
        refine x_calli (x_runS C hK hNW (c_m_has l D tys cI cJ cA hI hJ hR (fr i) (nI cl) ) (va_cwS 2 C.2.2.2.2 gX5_column_X5_has rfl rfl rfl (by decide +kernel) ⟨by decide, by decide⟩) [] rfl (by decide) (st := []) rfl rfl (Nat.le_of_ble_eq_true rfl) dX5_column_22 ⟨by first | decide | omega | exact (show _ ≤ 0 by omega), by first | decide | omega | exact (show _ ≤ 0 by omega)⟩) hA [] rfl [0, 1] [(yo, OB 5 [.int thr, .int ri, .ref yt, .ref ys, .ref yf, .ref yc, .int (nI co), .int (nI dn), .ref yd]), (yd, AJ cJ 40 fr)] rfl (by decide) (by decide) [0, 1] (by decide) (wf := (fun (u : Unit) => [(yo, OB 5 [.int thr, .int ri, .ref yt, .ref ys, .ref yf, .ref yc, .int (nI co), .int (nI dn), .ref yd]), (yd, AJ cJ 40 fr)])) (fun _ => rfl) (fun r_4 u h_5 => ?_)
        subst h_5
        refine x_if_eq C 35 dX5_column_25 (by decide) (fun h_6 => ?_) (fun h_6 => ?_)
        ·
          refine xn_iinc C (i + 1) [(4, .int (nI (i + 1))), (0, .ref yo), (1, .int (nI cl)), (2, .long (mkB (fun k => hbit (fr k) (nI cl)) i))] dX5_column_35 3 rfl (by rw [show Int32.ofInt 1 = nI 1 from by decide +kernel]; exact nI_add _ _) (by decide) rfl ?_
          refine x_goto C 5 dX5_column_38 (by decide) ?_
          refine x_lv [(0, .ref yo), (1, .int (nI cl)), (2, .long (mkB (fun k => hbit (fr k) (nI cl)) (i + 1))), (4, .int (nI (i + 1)))] [1, 2, 3, 0] (by rw [show mkB (fun k => hbit (fr k) (nI cl)) (i + 1) = mkB (fun k => hbit (fr k) (nI cl)) i from by first | exact mkB_y (bI_ne0 (by assumption)) | exact mkB_n (bI_eq0 (by assumption))]; rfl) ?_
          exact ih_K_1 (i + 1) (by first | assumption | omega) (by omega)
        ·
          refine x_lload_n C dX5_column_28 rfl 2 rfl ?_
          refine x_lconst C (1 : Int64) dX5_column_29 rfl ?_
          refine x_iload C dX5_column_30 3 rfl ?_
          refine x_lshl C _ dX5_column_32 rfl ?_
          refine x_lor C _ dX5_column_33 rfl ?_
          refine x_lstore_n C [(2, .long ((mkB (fun k => hbit (fr k) (nI cl)) i) ||| ((1 : Int64) <<< ((nI i).toInt64 &&& 63)))), (0, .ref yo), (1, .int (nI cl)), (4, .int (nI i))] dX5_column_34 rfl (by decide) rfl ?_
          refine xn_iinc C (i + 1) [(4, .int (nI (i + 1))), (2, .long ((mkB (fun k => hbit (fr k) (nI cl)) i) ||| ((1 : Int64) <<< ((nI i).toInt64 &&& 63)))), (0, .ref yo), (1, .int (nI cl))] dX5_column_35 3 rfl (by rw [show Int32.ofInt 1 = nI 1 from by decide +kernel]; exact nI_add _ _) (by decide) rfl ?_
          refine x_goto C 5 dX5_column_38 (by decide) ?_
          refine x_lv [(0, .ref yo), (1, .int (nI cl)), (2, .long (mkB (fun k => hbit (fr k) (nI cl)) (i + 1))), (4, .int (nI (i + 1)))] [2, 3, 1, 0] (by rw [show mkB (fun k => hbit (fr k) (nI cl)) (i + 1) = (mkB (fun k => hbit (fr k) (nI cl)) i) ||| ((1 : Int64) <<< ((nI i).toInt64 &&& 63)) from by first | exact mkB_y (bI_ne0 (by assumption)) | exact mkB_n (bI_eq0 (by assumption))]; rfl) ?_
          exact ih_K_1 (i + 1) (by first | assumption | omega) (by omega)
  refine x_lv [(0, .ref yo), (1, .int (nI cl)), (2, .long (mkB (fun k => hbit (fr k) (nI cl)) 0)), (4, .int (nI 0))] [2, 3, 1, 0] (by rw [show mkB (fun k => hbit (fr k) (nI cl)) 0 = (0 : Int64) from by rfl]; rfl) ?_
  exact K_1 (dn - 0 + 1) 0 (by first | assumption | omega) (Nat.lt_succ_self _)
abbrev rm_m_diffX : Room := { frames := 0, cells := 0, slots := 0, locals := 0 }
set_option maxRecDepth 100000 in
set_option maxHeartbeats 4000000 in
theorem c_m_diffX (l : Launch) (D : va_G) (tys : List (ClassId × FieldType)) (cI cJ cA : ClassId) (hI : tys[0]? = some (cI, .int)) (hJ : tys[1]? = some (cJ, .long)) (hR : tys[2]? = some (cA, .array .int)) (yo : Nat) (thr : Int32) (ri : Int32) (yt : Nat) (ys : Nat) (yf : Nat) (yc : Nat) (co : Nat) (dn : Nat) (yd : Nat) (nw : Nat) (np : Nat) (hnw : nw ≤ 40) (hnp : np ≤ 40) (hco : co ≤ 40) (hdn : dn ≤ 40) (hx : nw ≠ co ∨ np ≠ dn) : MI l yX5_differences wsX5_differences rm_m_diffX D tys [.ref yo] [(yo, OB 5 [.int thr, .int ri, .ref yt, .ref ys, .ref yf, .ref yc, .int (nI co), .int (nI dn), .ref yd]), (ys, AI cI 2 (sz2 nw np))] Unit (fun r (_ : Unit) => r = -1) (fun (_ : Unit) => [(yo, OB 5 [.int (nI 0), .int ri, .ref yt, .ref ys, .ref yf, .ref yc, .int (nI co), .int (nI dn), .ref yd]), (ys, AI cI 2 (sz2 nw np))]) 0 0 := by
  intro sz
  refine x_met (cc := cX5_differences) (maxL := 3) (ret := (some .int)) (by decide +kernel) rfl (by show _ ≤ _; simp [lg_sl, Value.category]) [(0, .ref yo)] rfl ?_
  intro p e s m args below meth c Q A H0 C hK hNW hlk hrt hnm hQ hH0 hAA hA
  refine x_aload_n C dX5_differences_0 rfl 0 rfl ?_
  refine x_iconst C (nI 0) dX5_differences_1 (by decide +kernel) ?_
  refine x_put C hK in_X5_differences_X5 tyX5 tyX5_ok nmX5 0 rfl rfl 0 (by decide) (by decide +kernel) rfl rfl (tyX5_ok 0 (by decide)) rfl rfl (Nat.le_of_ble_eq_true rfl) [(yo, OB 5 [.int (nI 0), .int ri, .ref yt, .ref ys, .ref yf, .ref yc, .int (nI co), .int (nI dn), .ref yd]), (ys, AI cI 2 (sz2 nw np))] rfl dX5_differences_2 ?_
  refine x_aload_n C dX5_differences_5 rfl 0 rfl ?_
  refine x_get C hK in_X5_differences_X5 0 rfl rfl 3 (by decide) (by decide +kernel) rfl rfl dX5_differences_6 ?_
  refine x_iconst C (nI 0) dX5_differences_9 (by decide +kernel) ?_
  refine x_iald C hK 1 0 rfl hI (by omega) (by omega) dX5_differences_10 ?_
  refine x_topi (nI nw) rfl ?_
  refine x_aload_n C dX5_differences_11 rfl 0 rfl ?_
  refine x_get C hK in_X5_differences_X5 0 rfl rfl 6 (by decide) (by decide +kernel) rfl rfl dX5_differences_12 ?_
  refine xn_icmp_ne C 31 (by omega) (by omega) dX5_differences_15 (by decide) (fun h_1 => ?_) (fun h_1 => ?_)
  ·
    refine x_iconst C (-1 : Int32) dX5_differences_31 (by decide +kernel) ?_
    refine x_iret C hK hlk hrt hQ hH0 hAA () ?_ [0, 1] (by decide) rfl (by first | decide | omega) (by first | decide | omega) dX5_differences_32
    first | rfl | (exact ⟨rfl, rfl⟩) | trivial | assumption | omega
  ·
    refine x_aload_n C dX5_differences_18 rfl 0 rfl ?_
    refine x_get C hK in_X5_differences_X5 0 rfl rfl 3 (by decide) (by decide +kernel) rfl rfl dX5_differences_19 ?_
    refine x_iconst C (nI 1) dX5_differences_22 (by decide +kernel) ?_
    refine x_iald C hK 1 0 rfl hI (by omega) (by omega) dX5_differences_23 ?_
    refine x_topi (nI np) rfl ?_
    refine x_aload_n C dX5_differences_24 rfl 0 rfl ?_
    refine x_get C hK in_X5_differences_X5 0 rfl rfl 7 (by decide) (by decide +kernel) rfl rfl dX5_differences_25 ?_
    refine xn_icmp_eq C 33 (by omega) (by omega) dX5_differences_28 (by decide) (fun h_2 => ?_) (fun h_2 => ?_)
    ·
      exact False.elim (by omega)
    ·
      refine x_iconst C (-1 : Int32) dX5_differences_31 (by decide +kernel) ?_
      refine x_iret C hK hlk hrt hQ hH0 hAA () ?_ [0, 1] (by decide) rfl (by first | decide | omega) (by first | decide | omega) dX5_differences_32
      first | rfl | (exact ⟨rfl, rfl⟩) | trivial | assumption | omega
abbrev rm_m_diff : Room := { frames := 2, cells := 0, slots := 0, locals := 48 }
set_option maxRecDepth 100000 in
set_option maxHeartbeats 4000000 in
theorem c_m_diff (l : Launch) (D : va_G) (tys : List (ClassId × FieldType)) (cI cJ cA : ClassId) (hI : tys[0]? = some (cI, .int)) (hJ : tys[1]? = some (cJ, .long)) (hR : tys[2]? = some (cA, .array .int)) (yo : Nat) (thr : Int32) (ri : Int32) (yt : Nat) (ys : Nat) (yf : Nat) (yc : Nat) (yd : Nat) (nw : Nat) (np : Nat) (ti : Nat → Int32) (g0 : Nat) (g1 : Nat) (bw : Nat → Int32) (bp : Nat → Int32) (fr : Nat → Int64) (hnw : nw ≤ 40) (hnp : np ≤ 40) (hri : ri = 0 ∨ ri = 1) (hbw : ∀ k, k < nw → ∃ j, j < 8 ∧ bw k = nI j) : MI l yX5_differences wsX5_differences rm_m_diff D tys [.ref yo] [(yo, OB 5 [.int thr, .int ri, .ref yt, .ref ys, .ref yf, .ref yc, .int (nI nw), .int (nI np), .ref yd]), (ys, AI cI 2 (sz2 nw np)), (yt, AI cI 10 ti), (yf, AR cA 2 (gr2 g0 g1)), (g0, AI cI 40 bw), (g1, AI cI 40 bp), (yd, AJ cJ 40 fr)] Unit (fun r (_ : Unit) => r = dfS (wvF ri ti bp bw nw (fun _ => 0) np) fr np) (fun (_ : Unit) => [(yo, OB 5 [.int (nI 0), .int ri, .ref yt, .ref ys, .ref yf, .ref yc, .int (nI nw), .int (nI np), .ref yd]), (ys, AI cI 2 (sz2 nw np)), (yt, AI cI 10 ti), (yf, AR cA 2 (gr2 g0 g1)), (g0, AI cI 40 bw), (g1, AI cI 40 bp), (yd, AJ cJ 40 fr)]) 0 0 := by
  intro sz
  refine x_met (cc := cX5_differences) (maxL := 3) (ret := (some .int)) (by decide +kernel) rfl (by show _ ≤ _; simp [lg_sl, Value.category]) [(0, .ref yo)] rfl ?_
  intro p e s m args below meth c Q A H0 C hK hNW hlk hrt hnm hQ hH0 hAA hA
  refine x_aload_n C dX5_differences_0 rfl 0 rfl ?_
  refine x_iconst C (nI 0) dX5_differences_1 (by decide +kernel) ?_
  refine x_put C hK in_X5_differences_X5 tyX5 tyX5_ok nmX5 0 rfl rfl 0 (by decide) (by decide +kernel) rfl rfl (tyX5_ok 0 (by decide)) rfl rfl (Nat.le_of_ble_eq_true rfl) [(yo, OB 5 [.int (nI 0), .int ri, .ref yt, .ref ys, .ref yf, .ref yc, .int (nI nw), .int (nI np), .ref yd]), (ys, AI cI 2 (sz2 nw np)), (yt, AI cI 10 ti), (yf, AR cA 2 (gr2 g0 g1)), (g0, AI cI 40 bw), (g1, AI cI 40 bp), (yd, AJ cJ 40 fr)] rfl dX5_differences_2 ?_
  refine x_aload_n C dX5_differences_5 rfl 0 rfl ?_
  refine x_get C hK in_X5_differences_X5 0 rfl rfl 3 (by decide) (by decide +kernel) rfl rfl dX5_differences_6 ?_
  refine x_iconst C (nI 0) dX5_differences_9 (by decide +kernel) ?_
  refine x_iald C hK 1 0 rfl hI (by omega) (by omega) dX5_differences_10 ?_
  refine x_topi (nI nw) rfl ?_
  refine x_aload_n C dX5_differences_11 rfl 0 rfl ?_
  refine x_get C hK in_X5_differences_X5 0 rfl rfl 6 (by decide) (by decide +kernel) rfl rfl dX5_differences_12 ?_
  refine xn_icmp_ne C 31 (by omega) (by omega) dX5_differences_15 (by decide) (fun h_1 => ?_) (fun h_1 => ?_)
  ·
    exact absurd rfl h_1
  ·
    refine x_aload_n C dX5_differences_18 rfl 0 rfl ?_
    refine x_get C hK in_X5_differences_X5 0 rfl rfl 3 (by decide) (by decide +kernel) rfl rfl dX5_differences_19 ?_
    refine x_iconst C (nI 1) dX5_differences_22 (by decide +kernel) ?_
    refine x_iald C hK 1 0 rfl hI (by omega) (by omega) dX5_differences_23 ?_
    refine x_topi (nI np) rfl ?_
    refine x_aload_n C dX5_differences_24 rfl 0 rfl ?_
    refine x_get C hK in_X5_differences_X5 0 rfl rfl 7 (by decide) (by decide +kernel) rfl rfl dX5_differences_25 ?_
    refine xn_icmp_eq C 33 (by omega) (by omega) dX5_differences_28 (by decide) (fun h_2 => ?_) (fun h_2 => ?_)
    ·
      refine x_iconst C (nI 0) dX5_differences_33 (by decide +kernel) ?_
      refine x_istore_n C [(1, .int (nI 0)), (0, .ref yo)] dX5_differences_34 rfl (by decide) rfl ?_
      refine x_iconst C (nI 0) dX5_differences_35 (by decide +kernel) ?_
      refine x_istore_n C [(2, .int (nI 0)), (1, .int (nI 0)), (0, .ref yo)] dX5_differences_36 rfl (by decide) rfl ?_
      have K_3 : ∀ (fuel : Nat) (i : Nat), (i ≤ np) → np - i < fuel → X_ p l e rm_m_diff s m args below meth c Q D A H0 3 0 0 [(yo, OB 5 [.int (nI 0), .int ri, .ref yt, .ref ys, .ref yf, .ref yc, .int (nI nw), .int (nI np), .ref yd]), (ys, AI cI 2 (sz2 nw np)), (yt, AI cI 10 ti), (yf, AR cA 2 (gr2 g0 g1)), (g0, AI cI 40 bw), (g1, AI cI 40 bp), (yd, AJ cJ 40 fr)] [(0, .ref yo), (1, .int (dfS (wvF ri ti bp bw nw (fun _ => 0) np) fr i)), (2, .int (nI i))] 37 [] := by
        intro fuel
        induction fuel with
        | zero =>
          intros
          exact absurd (by assumption) (Nat.not_lt_zero _)
        | succ fuel ih_K_3 =>
          intro i hi hm_4
          refine x_iload_n C dX5_differences_37 rfl 2 rfl ?_
          refine x_aload_n C dX5_differences_38 rfl 0 rfl ?_
          refine x_get C hK in_X5_differences_X5 0 rfl rfl 7 (by decide) (by decide +kernel) rfl rfl dX5_differences_39 ?_
          refine xn_icmp_ge C 69 (by omega) (by omega) dX5_differences_42 (by decide) (fun h_5 => ?_) (fun h_5 => ?_)
          ·
            have heq_i : np = i := by omega
            subst heq_i
            refine x_iload_n C dX5_differences_69 rfl 1 rfl ?_
            refine x_iret C hK hlk hrt hQ hH0 hAA () ?_ [0, 1, 2, 3, 4, 5, 6] (by decide) rfl (by first | decide | omega) (by first | decide | omega) dX5_differences_70
            first | rfl | (exact ⟨rfl, rfl⟩) | trivial | assumption | omega
          ·
            refine x_iload_n C dX5_differences_45 rfl 1 rfl ?_
            refine x_aload_n C dX5_differences_46 rfl 0 rfl ?_
            refine x_iload_n C dX5_differences_47 rfl 2 rfl ?_
            refine x_calll (x_runV C hK hNW (c_m_above l D tys cI cJ cA hI hJ hR yo (nI 0) ri yt ys yf yc nw np yd nw np ti g0 g1 bw bp i (by first | omega | assumption) (by first | omega | assumption) (by first | omega | assumption) (by first | omega | assumption)) (cwV 1 C.2.2.2.2 gX5_differences_X5_above rfl rfl rfl (by decide +kernel) ⟨by decide, by decide⟩) [0, 1, 2, 3, 4, 5] rfl (by decide) 0 5 rfl rfl rfl (st := [.int (dfS (wvF ri ti bp bw nw (fun _ => 0) np) fr i)]) rfl rfl (Nat.le_of_ble_eq_true rfl) dX5_differences_48 ⟨by first | decide | omega | exact (show _ ≤ 0 by omega), by first | decide | omega | exact (show _ ≤ 0 by omega)⟩) hA [0, 1, 2, 3, 4, 5] rfl [6] [(yd, AJ cJ 40 fr)] rfl (by decide) (by decide) [1, 2, 3, 4, 5, 6, 0] (by decide) (wf := (fun (u : Unit) => [(yo, OB 5 [.int (nI 0), .int ri, .ref yt, .ref ys, .ref yf, .ref yc, .int (nI nw), .int (nI np), .ref yd]), (ys, AI cI 2 (sz2 nw np)), (yt, AI cI 10 ti), (yf, AR cA 2 (gr2 g0 g1)), (g0, AI cI 40 bw), (g1, AI cI 40 bp), (yd, AJ cJ 40 fr)])) (fun _ => rfl) (fun r_6 u h_7 => ?_)
            subst h_7
            refine x_aload_n C dX5_differences_51 rfl 0 rfl ?_
            refine x_get C hK in_X5_differences_X5 0 rfl rfl 8 (by decide) (by decide +kernel) rfl rfl dX5_differences_52 ?_
            refine x_iload_n C dX5_differences_55 rfl 2 rfl ?_
            refine x_lald C hK 6 1 rfl hJ (by omega) (by omega) dX5_differences_56 ?_
            refine x_lxor C _ dX5_differences_57 rfl ?_
            refine x_calli (x_runS C hK hNW (c_bit64 l D tys cI cJ hI hJ ((mkB (fun y0 => hbit (suA ri ti (bp i)) (bw y0)) nw) ^^^ (fr i)) ) (va_cwS 1 C.2.2.2.2 gX5_differences_J13_bitCount_95d88 rfl rfl rfl (by decide +kernel) ⟨by decide, by decide⟩) [] rfl (by decide) (st := [.int (dfS (wvF ri ti bp bw nw (fun _ => 0) np) fr i)]) rfl rfl (Nat.le_of_ble_eq_true rfl) dX5_differences_58 ⟨by first | decide | omega | exact (show _ ≤ 0 by omega), by first | decide | omega | exact (show _ ≤ 0 by omega)⟩) hA [] rfl [0, 1, 2, 3, 4, 5, 6] [(yo, OB 5 [.int (nI 0), .int ri, .ref yt, .ref ys, .ref yf, .ref yc, .int (nI nw), .int (nI np), .ref yd]), (ys, AI cI 2 (sz2 nw np)), (yt, AI cI 10 ti), (yf, AR cA 2 (gr2 g0 g1)), (g0, AI cI 40 bw), (g1, AI cI 40 bp), (yd, AJ cJ 40 fr)] rfl (by decide) (by decide) [0, 1, 2, 3, 4, 5, 6] (by decide) (wf := (fun (u : Unit) => [(yo, OB 5 [.int (nI 0), .int ri, .ref yt, .ref ys, .ref yf, .ref yc, .int (nI nw), .int (nI np), .ref yd]), (ys, AI cI 2 (sz2 nw np)), (yt, AI cI 10 ti), (yf, AR cA 2 (gr2 g0 g1)), (g0, AI cI 40 bw), (g1, AI cI 40 bp), (yd, AJ cJ 40 fr)])) (fun _ => rfl) (fun r_8 u h_9 => ?_)
            subst h_9
            refine x_iadd C _ dX5_differences_61 rfl ?_
            refine x_istore_n C [(1, .int ((dfS (wvF ri ti bp bw nw (fun _ => 0) np) fr i) + (bc64 ((mkB (fun y0 => hbit (suA ri ti (bp i)) (bw y0)) nw) ^^^ (fr i))))), (0, .ref yo), (2, .int (nI i))] dX5_differences_62 rfl (by decide) rfl ?_
            refine xn_iinc C (i + 1) [(2, .int (nI (i + 1))), (1, .int ((dfS (wvF ri ti bp bw nw (fun _ => 0) np) fr i) + (bc64 ((mkB (fun y0 => hbit (suA ri ti (bp i)) (bw y0)) nw) ^^^ (fr i))))), (0, .ref yo)] dX5_differences_63 2 rfl (by rw [show Int32.ofInt 1 = nI 1 from by decide +kernel]; exact nI_add _ _) (by decide) rfl ?_
            refine x_goto C 37 dX5_differences_66 (by decide) ?_
            refine x_lv [(0, .ref yo), (1, .int (dfS (wvF ri ti bp bw nw (fun _ => 0) np) fr (i + 1))), (2, .int (nI (i + 1)))] [2, 1, 0] (by rw [show dfS (wvF ri ti bp bw nw (fun _ => 0) np) fr (i + 1) = (dfS (wvF ri ti bp bw nw (fun _ => 0) np) fr i) + (bc64 ((mkB (fun y0 => hbit (suA ri ti (bp i)) (bw y0)) nw) ^^^ (fr i))) from by exact dfW (by omega)]; rfl) ?_
            exact ih_K_3 (i + 1) (by first | assumption | omega) (by omega)
      refine x_lv [(0, .ref yo), (1, .int (dfS (wvF ri ti bp bw nw (fun _ => 0) np) fr 0)), (2, .int (nI 0))] [2, 1, 0] (by rw [show dfS (wvF ri ti bp bw nw (fun _ => 0) np) fr 0 = nI 0 from by rfl]; rfl) ?_
      exact K_3 (np - 0 + 1) 0 (by first | assumption | omega) (Nat.lt_succ_self _)
    ·
      exact absurd rfl h_2
abbrev rm_m_digest : Room := { frames := 0, cells := 0, slots := 0, locals := 0 }
set_option maxRecDepth 100000 in
set_option maxHeartbeats 4000000 in
theorem c_m_digest (l : Launch) (D : va_G) (tys : List (ClassId × FieldType)) (cI cJ cA : ClassId) (hI : tys[0]? = some (cI, .int)) (hJ : tys[1]? = some (cJ, .long)) (hR : tys[2]? = some (cA, .array .int)) (yo : Nat) (thr : Int32) (ri : Int32) (yt : Nat) (ys : Nat) (yf : Nat) (yc : Nat) (co : Nat) (dn : Nat) (yd : Nat) (nw : Nat) (np : Nat) (ti : Nat → Int32) (g0 : Nat) (g1 : Nat) (bw : Nat → Int32) (bp : Nat → Int32) (k0 : Nat) (k1 : Nat) (cw : Nat → Int32) (cp : Nat → Int32) (fr : Nat → Int64) (hnw : nw ≤ 40) (hnp : np ≤ 40) (hco : co ≤ 40) (hdn : dn ≤ 40) : ML l yX5_digest wsX5_digest rm_m_digest D tys [.ref yo] [(yo, OB 5 [.int thr, .int ri, .ref yt, .ref ys, .ref yf, .ref yc, .int (nI co), .int (nI dn), .ref yd]), (ys, AI cI 2 (sz2 nw np)), (yt, AI cI 10 ti), (yf, AR cA 2 (gr2 g0 g1)), (g0, AI cI 40 bw), (g1, AI cI 40 bp), (yc, AR cA 2 (gr2 k0 k1)), (k0, AI cI 40 cw), (k1, AI cI 40 cp), (yd, AJ cJ 40 fr)] Unit (fun r (_ : Unit) => r = dgD fr (dgw (dgw (dgR bp cp (dgw (dgR bw cw (dgw (dgT ti (dgw 241 (if ri = 0 then 0 else 1)) 10) (nI nw).toInt64) nw) (nI np).toInt64) np) (nI co).toInt64) (nI dn).toInt64) dn) (fun (_ : Unit) => [(yo, OB 5 [.int (nI 0), .int ri, .ref yt, .ref ys, .ref yf, .ref yc, .int (nI co), .int (nI dn), .ref yd]), (ys, AI cI 2 (sz2 nw np)), (yt, AI cI 10 ti), (yf, AR cA 2 (gr2 g0 g1)), (g0, AI cI 40 bw), (g1, AI cI 40 bp), (yc, AR cA 2 (gr2 k0 k1)), (k0, AI cI 40 cw), (k1, AI cI 40 cp), (yd, AJ cJ 40 fr)]) 0 0 := by
  intro sz
  refine x_met (cc := cX5_digest) (maxL := 7) (ret := (some .long)) (by decide +kernel) rfl (by show _ ≤ _; simp [lg_sl, Value.category]) [(0, .ref yo)] rfl ?_
  intro p e s m args below meth c Q A H0 C hK hNW hlk hrt hnm hQ hH0 hAA hA
  refine x_aload_n C dX5_digest_0 rfl 0 rfl ?_
  refine x_iconst C (nI 0) dX5_digest_1 (by decide +kernel) ?_
  refine x_put C hK in_X5_digest_X5 tyX5 tyX5_ok nmX5 0 rfl rfl 0 (by decide) (by decide +kernel) rfl rfl (tyX5_ok 0 (by decide)) rfl rfl (Nat.le_of_ble_eq_true rfl) [(yo, OB 5 [.int (nI 0), .int ri, .ref yt, .ref ys, .ref yf, .ref yc, .int (nI co), .int (nI dn), .ref yd]), (ys, AI cI 2 (sz2 nw np)), (yt, AI cI 10 ti), (yf, AR cA 2 (gr2 g0 g1)), (g0, AI cI 40 bw), (g1, AI cI 40 bp), (yc, AR cA 2 (gr2 k0 k1)), (k0, AI cI 40 cw), (k1, AI cI 40 cp), (yd, AJ cJ 40 fr)] rfl dX5_digest_2 ?_
  refine x_ldc2 C (7471) (by decide +kernel) dX5_digest_5 ?_
  refine x_aload_n C dX5_digest_8 rfl 0 rfl ?_
  refine x_get C hK in_X5_digest_X5 0 rfl rfl 1 (by decide) (by decide +kernel) rfl rfl dX5_digest_9 ?_
  refine x_if_eq C 19 dX5_digest_12 (by decide) (fun h_1 => ?_) (fun h_1 => ?_)
  ·
    refine x_lconst C (0 : Int64) dX5_digest_19 rfl ?_
    refine x_topl (if ri = 0 then 0 else 1) (by first | (rw [if_pos (by assumption)]; done) | (rw [if_neg (by assumption)]; done)) ?_
    refine x_ladd C _ dX5_digest_20 rfl ?_
    refine x_topl (dgw 241 (if ri = 0 then 0 else 1)) (by exact dg0 _) ?_
    refine x_lstore_n C [(1, .long (dgw 241 (if ri = 0 then 0 else 1))), (0, .ref yo)] dX5_digest_21 rfl (by decide) rfl ?_
    refine x_aload_n C dX5_digest_22 rfl 1 rfl ?_
    refine x_get C hK in_X5_digest_X5 0 rfl rfl 2 (by decide) (by decide +kernel) rfl rfl dX5_digest_23 ?_
    refine x_astore_n C [(3, .ref yt), (1, .long (dgw 241 (if ri = 0 then 0 else 1))), (0, .ref yo)] dX5_digest_26 rfl (by decide) rfl ?_
    refine x_aload_n C dX5_digest_27 rfl 0 rfl ?_
    refine x_alen C hK 2 0 rfl hI dX5_digest_28 ?_
    refine x_istore C [(4, .int (nI 10)), (3, .ref yt), (1, .long (dgw 241 (if ri = 0 then 0 else 1))), (0, .ref yo)] dX5_digest_29 (by decide) rfl ?_
    refine x_iconst C (nI 0) dX5_digest_31 (by decide +kernel) ?_
    refine x_istore C [(5, .int (nI 0)), (4, .int (nI 10)), (3, .ref yt), (1, .long (dgw 241 (if ri = 0 then 0 else 1))), (0, .ref yo)] dX5_digest_32 (by decide) rfl ?_
    have LT_2 : ∀ (fuel : Nat) (i : Nat), (i ≤ 10) → 10 - i < fuel → X_ p l e rm_m_digest s m args below meth c Q D A H0 7 0 0 [(yo, OB 5 [.int (nI 0), .int ri, .ref yt, .ref ys, .ref yf, .ref yc, .int (nI co), .int (nI dn), .ref yd]), (ys, AI cI 2 (sz2 nw np)), (yt, AI cI 10 ti), (yf, AR cA 2 (gr2 g0 g1)), (g0, AI cI 40 bw), (g1, AI cI 40 bp), (yc, AR cA 2 (gr2 k0 k1)), (k0, AI cI 40 cw), (k1, AI cI 40 cp), (yd, AJ cJ 40 fr)] [(0, .ref yo), (1, .long (dgT ti (dgw 241 (if ri = 0 then 0 else 1)) i)), (3, .ref yt), (4, .int (nI 10)), (5, .int (nI i))] 34 [] := by
      intro fuel
      induction fuel with
      | zero =>
        intros
        exact absurd (by assumption) (Nat.not_lt_zero _)
      | succ fuel ih_LT_2 =>
        intro i hi hm_3
        refine x_iload C dX5_digest_34 4 rfl ?_
        refine x_iload C dX5_digest_36 3 rfl ?_
        refine xn_icmp_ge C 63 (by omega) (by omega) dX5_digest_38 (by decide) (fun h_4 => ?_) (fun h_4 => ?_)
        ·
          have heq_i : i = 10 := by omega
          subst heq_i
          refine x_iconst C (nI 0) dX5_digest_63 (by decide +kernel) ?_
          refine x_istore_n C [(3, .int (nI 0)), (0, .ref yo), (1, .long (dgT ti (dgw 241 (if ri = 0 then 0 else 1)) 10)), (4, .int (nI 10)), (5, .int (nI 10))] dX5_digest_64 rfl (by decide) rfl ?_
          refine x_iload_n C dX5_digest_65 rfl 0 rfl ?_
          refine x_iconst C (nI 2) dX5_digest_66 (by decide +kernel) ?_
          refine xn_icmp_ge C 142 (by omega) (by omega) dX5_digest_67 (by decide) (fun h_5 => ?_) (fun h_5 => ?_)
          ·
            exact absurd h_5 (by first | decide | omega)
          ·
            refine x_lload_n C dX5_digest_70 rfl 2 rfl ?_
            refine x_ldc2 C (31) (by decide +kernel) dX5_digest_71 ?_
            refine x_lmul C _ dX5_digest_74 rfl ?_
            refine x_aload_n C dX5_digest_75 rfl 1 rfl ?_
            refine x_get C hK in_X5_digest_X5 0 rfl rfl 3 (by decide) (by decide +kernel) rfl rfl dX5_digest_76 ?_
            refine x_iload_n C dX5_digest_79 rfl 0 rfl ?_
            refine x_iald C hK 1 0 rfl hI (by omega) (by omega) dX5_digest_80 ?_
            refine x_topi (nI nw) rfl ?_
            refine x_i2l C _ dX5_digest_81 rfl ?_
            refine x_ladd C _ dX5_digest_82 rfl ?_
            refine x_lstore_n C [(1, .long (((dgT ti (dgw 241 (if ri = 0 then 0 else 1)) 10) * (31)) + ((nI nw).toInt64))), (3, .int (nI 0)), (0, .ref yo), (4, .int (nI 10)), (5, .int (nI 10))] dX5_digest_83 rfl (by decide) rfl ?_
            refine x_iconst C (nI 0) dX5_digest_84 (by decide +kernel) ?_
            refine x_istore C [(4, .int (nI 0)), (1, .long (((dgT ti (dgw 241 (if ri = 0 then 0 else 1)) 10) * (31)) + ((nI nw).toInt64))), (3, .int (nI 0)), (0, .ref yo), (5, .int (nI 10))] dX5_digest_85 (by decide) rfl ?_
            have LA_6 : ∀ (fuel : Nat) (i : Nat), (i ≤ nw) → nw - i < fuel → X_ p l e rm_m_digest s m args below meth c Q D A H0 7 0 0 [(yo, OB 5 [.int (nI 0), .int ri, .ref yt, .ref ys, .ref yf, .ref yc, .int (nI co), .int (nI dn), .ref yd]), (ys, AI cI 2 (sz2 nw np)), (yt, AI cI 10 ti), (yf, AR cA 2 (gr2 g0 g1)), (g0, AI cI 40 bw), (g1, AI cI 40 bp), (yc, AR cA 2 (gr2 k0 k1)), (k0, AI cI 40 cw), (k1, AI cI 40 cp), (yd, AJ cJ 40 fr)] [(0, .ref yo), (1, .long (dgR bw cw (dgw (dgT ti (dgw 241 (if ri = 0 then 0 else 1)) 10) (nI nw).toInt64) i)), (3, .int (nI 0)), (4, .int (nI i))] 87 [] := by
              intro fuel
              induction fuel with
              | zero =>
                intros
                exact absurd (by assumption) (Nat.not_lt_zero _)
              | succ fuel ih_LA_6 =>
                intro i hi hm_7
                refine x_iload C dX5_digest_87 3 rfl ?_
                refine x_aload_n C dX5_digest_89 rfl 0 rfl ?_
                refine x_get C hK in_X5_digest_X5 0 rfl rfl 3 (by decide) (by decide +kernel) rfl rfl dX5_digest_90 ?_
                refine x_iload_n C dX5_digest_93 rfl 2 rfl ?_
                refine x_iald C hK 1 0 rfl hI (by omega) (by omega) dX5_digest_94 ?_
                refine x_topi (nI nw) rfl ?_
                refine xn_icmp_ge C 136 (by omega) (by omega) dX5_digest_95 (by decide) (fun h_8 => ?_) (fun h_8 => ?_)
                ·
                  have heq_i : nw = i := by omega
                  subst heq_i
                  refine xn_iinc C 1 [(3, .int (nI 1)), (0, .ref yo), (1, .long (dgR bw cw (dgw (dgT ti (dgw 241 (if ri = 0 then 0 else 1)) 10) (nI nw).toInt64) nw)), (4, .int (nI nw))] dX5_digest_136 2 rfl (by decide +kernel) (by decide) rfl ?_
                  refine x_goto C 65 dX5_digest_139 (by decide) ?_
                  refine x_iload_n C dX5_digest_65 rfl 0 rfl ?_
                  refine x_iconst C (nI 2) dX5_digest_66 (by decide +kernel) ?_
                  refine xn_icmp_ge C 142 (by omega) (by omega) dX5_digest_67 (by decide) (fun h_9 => ?_) (fun h_9 => ?_)
                  ·
                    exact absurd h_9 (by first | decide | omega)
                  ·
                    refine x_lload_n C dX5_digest_70 rfl 2 rfl ?_
                    refine x_ldc2 C (31) (by decide +kernel) dX5_digest_71 ?_
                    refine x_lmul C _ dX5_digest_74 rfl ?_
                    refine x_aload_n C dX5_digest_75 rfl 1 rfl ?_
                    refine x_get C hK in_X5_digest_X5 0 rfl rfl 3 (by decide) (by decide +kernel) rfl rfl dX5_digest_76 ?_
                    refine x_iload_n C dX5_digest_79 rfl 0 rfl ?_
                    refine x_iald C hK 1 0 rfl hI (by omega) (by omega) dX5_digest_80 ?_
                    refine x_topi (nI np) rfl ?_
                    refine x_i2l C _ dX5_digest_81 rfl ?_
                    refine x_ladd C _ dX5_digest_82 rfl ?_
                    refine x_lstore_n C [(1, .long (((dgR bw cw (dgw (dgT ti (dgw 241 (if ri = 0 then 0 else 1)) 10) (nI nw).toInt64) nw) * (31)) + ((nI np).toInt64))), (3, .int (nI 1)), (0, .ref yo), (4, .int (nI nw))] dX5_digest_83 rfl (by decide) rfl ?_
                    refine x_iconst C (nI 0) dX5_digest_84 (by decide +kernel) ?_
                    refine x_istore C [(4, .int (nI 0)), (1, .long (((dgR bw cw (dgw (dgT ti (dgw 241 (if ri = 0 then 0 else 1)) 10) (nI nw).toInt64) nw) * (31)) + ((nI np).toInt64))), (3, .int (nI 1)), (0, .ref yo)] dX5_digest_85 (by decide) rfl ?_
                    have LB_10 : ∀ (fuel : Nat) (i : Nat), (i ≤ np) → np - i < fuel → X_ p l e rm_m_digest s m args below meth c Q D A H0 7 0 0 [(yo, OB 5 [.int (nI 0), .int ri, .ref yt, .ref ys, .ref yf, .ref yc, .int (nI co), .int (nI dn), .ref yd]), (ys, AI cI 2 (sz2 nw np)), (yt, AI cI 10 ti), (yf, AR cA 2 (gr2 g0 g1)), (g0, AI cI 40 bw), (g1, AI cI 40 bp), (yc, AR cA 2 (gr2 k0 k1)), (k0, AI cI 40 cw), (k1, AI cI 40 cp), (yd, AJ cJ 40 fr)] [(0, .ref yo), (1, .long (dgR bp cp (dgw (dgR bw cw (dgw (dgT ti (dgw 241 (if ri = 0 then 0 else 1)) 10) (nI nw).toInt64) nw) (nI np).toInt64) i)), (3, .int (nI 1)), (4, .int (nI i))] 87 [] := by
                      intro fuel
                      induction fuel with
                      | zero =>
                        intros
                        exact absurd (by assumption) (Nat.not_lt_zero _)
                      | succ fuel ih_LB_10 =>
                        intro i hi hm_11
                        refine x_iload C dX5_digest_87 3 rfl ?_
                        refine x_aload_n C dX5_digest_89 rfl 0 rfl ?_
                        refine x_get C hK in_X5_digest_X5 0 rfl rfl 3 (by decide) (by decide +kernel) rfl rfl dX5_digest_90 ?_
                        refine x_iload_n C dX5_digest_93 rfl 2 rfl ?_
                        refine x_iald C hK 1 0 rfl hI (by omega) (by omega) dX5_digest_94 ?_
                        refine x_topi (nI np) rfl ?_
                        refine xn_icmp_ge C 136 (by omega) (by omega) dX5_digest_95 (by decide) (fun h_12 => ?_) (fun h_12 => ?_)
                        ·
                          have heq_i : np = i := by omega
                          subst heq_i
                          refine xn_iinc C 2 [(3, .int (nI 2)), (0, .ref yo), (1, .long (dgR bp cp (dgw (dgR bw cw (dgw (dgT ti (dgw 241 (if ri = 0 then 0 else 1)) 10) (nI nw).toInt64) nw) (nI np).toInt64) np)), (4, .int (nI np))] dX5_digest_136 2 rfl (by decide +kernel) (by decide) rfl ?_
                          refine x_goto C 65 dX5_digest_139 (by decide) ?_
                          refine x_iload_n C dX5_digest_65 rfl 0 rfl ?_
                          refine x_iconst C (nI 2) dX5_digest_66 (by decide +kernel) ?_
                          refine xn_icmp_ge C 142 (by omega) (by omega) dX5_digest_67 (by decide) (fun h_13 => ?_) (fun h_13 => ?_)
                          ·
                            refine x_lload_n C dX5_digest_142 rfl 2 rfl ?_
                            refine x_ldc2 C (31) (by decide +kernel) dX5_digest_143 ?_
                            refine x_lmul C _ dX5_digest_146 rfl ?_
                            refine x_aload_n C dX5_digest_147 rfl 1 rfl ?_
                            refine x_get C hK in_X5_digest_X5 0 rfl rfl 6 (by decide) (by decide +kernel) rfl rfl dX5_digest_148 ?_
                            refine x_i2l C _ dX5_digest_151 rfl ?_
                            refine x_ladd C _ dX5_digest_152 rfl ?_
                            refine x_ldc2 C (31) (by decide +kernel) dX5_digest_153 ?_
                            refine x_lmul C _ dX5_digest_156 rfl ?_
                            refine x_aload_n C dX5_digest_157 rfl 1 rfl ?_
                            refine x_get C hK in_X5_digest_X5 0 rfl rfl 7 (by decide) (by decide +kernel) rfl rfl dX5_digest_158 ?_
                            refine x_i2l C _ dX5_digest_161 rfl ?_
                            refine x_ladd C _ dX5_digest_162 rfl ?_
                            refine x_lstore_n C [(1, .long (((((dgR bp cp (dgw (dgR bw cw (dgw (dgT ti (dgw 241 (if ri = 0 then 0 else 1)) 10) (nI nw).toInt64) nw) (nI np).toInt64) np) * (31)) + ((nI co).toInt64)) * (31)) + ((nI dn).toInt64))), (3, .int (nI 2)), (0, .ref yo), (4, .int (nI np))] dX5_digest_163 rfl (by decide) rfl ?_
                            refine x_iconst C (nI 0) dX5_digest_164 (by decide +kernel) ?_
                            refine x_istore_n C [(3, .int (nI 0)), (1, .long (((((dgR bp cp (dgw (dgR bw cw (dgw (dgT ti (dgw 241 (if ri = 0 then 0 else 1)) 10) (nI nw).toInt64) nw) (nI np).toInt64) np) * (31)) + ((nI co).toInt64)) * (31)) + ((nI dn).toInt64))), (0, .ref yo), (4, .int (nI np))] dX5_digest_165 rfl (by decide) rfl ?_
                            have LR_14 : ∀ (fuel : Nat) (i : Nat), (i ≤ dn) → dn - i < fuel → X_ p l e rm_m_digest s m args below meth c Q D A H0 7 0 0 [(yo, OB 5 [.int (nI 0), .int ri, .ref yt, .ref ys, .ref yf, .ref yc, .int (nI co), .int (nI dn), .ref yd]), (ys, AI cI 2 (sz2 nw np)), (yt, AI cI 10 ti), (yf, AR cA 2 (gr2 g0 g1)), (g0, AI cI 40 bw), (g1, AI cI 40 bp), (yc, AR cA 2 (gr2 k0 k1)), (k0, AI cI 40 cw), (k1, AI cI 40 cp), (yd, AJ cJ 40 fr)] [(0, .ref yo), (1, .long (dgD fr (dgw (dgw (dgR bp cp (dgw (dgR bw cw (dgw (dgT ti (dgw 241 (if ri = 0 then 0 else 1)) 10) (nI nw).toInt64) nw) (nI np).toInt64) np) (nI co).toInt64) (nI dn).toInt64) i)), (3, .int (nI i))] 166 [] := by
                              intro fuel
                              induction fuel with
                              | zero =>
                                intros
                                exact absurd (by assumption) (Nat.not_lt_zero _)
                              | succ fuel ih_LR_14 =>
                                intro i hi hm_15
                                refine x_iload_n C dX5_digest_166 rfl 2 rfl ?_
                                refine x_aload_n C dX5_digest_167 rfl 0 rfl ?_
                                refine x_get C hK in_X5_digest_X5 0 rfl rfl 7 (by decide) (by decide +kernel) rfl rfl dX5_digest_168 ?_
                                refine xn_icmp_ge C 193 (by omega) (by omega) dX5_digest_171 (by decide) (fun h_16 => ?_) (fun h_16 => ?_)
                                ·
                                  have heq_i : dn = i := by omega
                                  subst heq_i
                                  refine x_lload_n C dX5_digest_193 rfl 1 rfl ?_
                                  refine x_lret C hK hlk hrt hQ hH0 hAA () ?_ [0, 1, 2, 3, 4, 5, 6, 7, 8, 9] (by decide) rfl (by first | decide | omega) (by first | decide | omega) dX5_digest_194
                                  first | rfl | (exact ⟨rfl, rfl⟩) | trivial | assumption | omega
                                ·
                                  refine x_lload_n C dX5_digest_174 rfl 1 rfl ?_
                                  refine x_ldc2 C (31) (by decide +kernel) dX5_digest_175 ?_
                                  refine x_lmul C _ dX5_digest_178 rfl ?_
                                  refine x_aload_n C dX5_digest_179 rfl 0 rfl ?_
                                  refine x_get C hK in_X5_digest_X5 0 rfl rfl 8 (by decide) (by decide +kernel) rfl rfl dX5_digest_180 ?_
                                  refine x_iload_n C dX5_digest_183 rfl 2 rfl ?_
                                  refine x_lald C hK 9 1 rfl hJ (by omega) (by omega) dX5_digest_184 ?_
                                  refine x_ladd C _ dX5_digest_185 rfl ?_
                                  refine x_lstore_n C [(1, .long (((dgD fr (dgw (dgw (dgR bp cp (dgw (dgR bw cw (dgw (dgT ti (dgw 241 (if ri = 0 then 0 else 1)) 10) (nI nw).toInt64) nw) (nI np).toInt64) np) (nI co).toInt64) (nI dn).toInt64) i) * (31)) + (fr i))), (0, .ref yo), (3, .int (nI i))] dX5_digest_186 rfl (by decide) rfl ?_
                                  refine xn_iinc C (i + 1) [(3, .int (nI (i + 1))), (1, .long (((dgD fr (dgw (dgw (dgR bp cp (dgw (dgR bw cw (dgw (dgT ti (dgw 241 (if ri = 0 then 0 else 1)) 10) (nI nw).toInt64) nw) (nI np).toInt64) np) (nI co).toInt64) (nI dn).toInt64) i) * (31)) + (fr i))), (0, .ref yo)] dX5_digest_187 2 rfl (by rw [show Int32.ofInt 1 = nI 1 from by decide +kernel]; exact nI_add _ _) (by decide) rfl ?_
                                  refine x_goto C 166 dX5_digest_190 (by decide) ?_
                                  refine x_lv [(0, .ref yo), (1, .long (dgD fr (dgw (dgw (dgR bp cp (dgw (dgR bw cw (dgw (dgT ti (dgw 241 (if ri = 0 then 0 else 1)) 10) (nI nw).toInt64) nw) (nI np).toInt64) np) (nI co).toInt64) (nI dn).toInt64) (i + 1))), (3, .int (nI (i + 1)))] [2, 1, 0] (by rw [show dgD fr (dgw (dgw (dgR bp cp (dgw (dgR bw cw (dgw (dgT ti (dgw 241 (if ri = 0 then 0 else 1)) 10) (nI nw).toInt64) nw) (nI np).toInt64) np) (nI co).toInt64) (nI dn).toInt64) (i + 1) = ((dgD fr (dgw (dgw (dgR bp cp (dgw (dgR bw cw (dgw (dgT ti (dgw 241 (if ri = 0 then 0 else 1)) 10) (nI nw).toInt64) nw) (nI np).toInt64) np) (nI co).toInt64) (nI dn).toInt64) i) * (31)) + (fr i) from by rfl]; rfl) ?_
                                  exact ih_LR_14 (i + 1) (by first | assumption | omega) (by omega)
                            refine x_lv [(0, .ref yo), (1, .long (dgD fr (dgw (dgw (dgR bp cp (dgw (dgR bw cw (dgw (dgT ti (dgw 241 (if ri = 0 then 0 else 1)) 10) (nI nw).toInt64) nw) (nI np).toInt64) np) (nI co).toInt64) (nI dn).toInt64) 0)), (3, .int (nI 0))] [2, 1, 0] (by rw [show dgD fr (dgw (dgw (dgR bp cp (dgw (dgR bw cw (dgw (dgT ti (dgw 241 (if ri = 0 then 0 else 1)) 10) (nI nw).toInt64) nw) (nI np).toInt64) np) (nI co).toInt64) (nI dn).toInt64) 0 = ((((dgR bp cp (dgw (dgR bw cw (dgw (dgT ti (dgw 241 (if ri = 0 then 0 else 1)) 10) (nI nw).toInt64) nw) (nI np).toInt64) np) * (31)) + ((nI co).toInt64)) * (31)) + ((nI dn).toInt64) from by rfl]; rfl) ?_
                            exact LR_14 (dn - 0 + 1) 0 (by first | assumption | omega) (Nat.lt_succ_self _)
                          ·
                            exact absurd h_13 (by first | decide | omega)
                        ·
                          refine x_lload_n C dX5_digest_98 rfl 1 rfl ?_
                          refine x_ldc2 C (31) (by decide +kernel) dX5_digest_99 ?_
                          refine x_lmul C _ dX5_digest_102 rfl ?_
                          refine x_aload_n C dX5_digest_103 rfl 0 rfl ?_
                          refine x_get C hK in_X5_digest_X5 0 rfl rfl 4 (by decide) (by decide +kernel) rfl rfl dX5_digest_104 ?_
                          refine x_iload_n C dX5_digest_107 rfl 2 rfl ?_
                          refine x_aald C hK (r := g1) 3 2 rfl hR rfl (by omega) (by omega) (by rfl) dX5_digest_108 ?_
                          refine x_iload C dX5_digest_109 3 rfl ?_
                          refine x_iald C hK 5 0 rfl hI (by omega) (by omega) dX5_digest_111 ?_
                          refine x_i2l C _ dX5_digest_112 rfl ?_
                          refine x_ladd C _ dX5_digest_113 rfl ?_
                          refine x_ldc2 C (31) (by decide +kernel) dX5_digest_114 ?_
                          refine x_lmul C _ dX5_digest_117 rfl ?_
                          refine x_aload_n C dX5_digest_118 rfl 0 rfl ?_
                          refine x_get C hK in_X5_digest_X5 0 rfl rfl 5 (by decide) (by decide +kernel) rfl rfl dX5_digest_119 ?_
                          refine x_iload_n C dX5_digest_122 rfl 2 rfl ?_
                          refine x_aald C hK (r := k1) 6 2 rfl hR rfl (by omega) (by omega) (by rfl) dX5_digest_123 ?_
                          refine x_iload C dX5_digest_124 3 rfl ?_
                          refine x_iald C hK 8 0 rfl hI (by omega) (by omega) dX5_digest_126 ?_
                          refine x_i2l C _ dX5_digest_127 rfl ?_
                          refine x_ladd C _ dX5_digest_128 rfl ?_
                          refine x_lstore_n C [(1, .long (((((dgR bp cp (dgw (dgR bw cw (dgw (dgT ti (dgw 241 (if ri = 0 then 0 else 1)) 10) (nI nw).toInt64) nw) (nI np).toInt64) i) * (31)) + ((bp i).toInt64)) * (31)) + ((cp i).toInt64))), (0, .ref yo), (3, .int (nI 1)), (4, .int (nI i))] dX5_digest_129 rfl (by decide) rfl ?_
                          refine xn_iinc C (i + 1) [(4, .int (nI (i + 1))), (1, .long (((((dgR bp cp (dgw (dgR bw cw (dgw (dgT ti (dgw 241 (if ri = 0 then 0 else 1)) 10) (nI nw).toInt64) nw) (nI np).toInt64) i) * (31)) + ((bp i).toInt64)) * (31)) + ((cp i).toInt64))), (0, .ref yo), (3, .int (nI 1))] dX5_digest_130 3 rfl (by rw [show Int32.ofInt 1 = nI 1 from by decide +kernel]; exact nI_add _ _) (by decide) rfl ?_
                          refine x_goto C 87 dX5_digest_133 (by decide) ?_
                          refine x_lv [(0, .ref yo), (1, .long (dgR bp cp (dgw (dgR bw cw (dgw (dgT ti (dgw 241 (if ri = 0 then 0 else 1)) 10) (nI nw).toInt64) nw) (nI np).toInt64) (i + 1))), (3, .int (nI 1)), (4, .int (nI (i + 1)))] [2, 1, 3, 0] (by rw [show dgR bp cp (dgw (dgR bw cw (dgw (dgT ti (dgw 241 (if ri = 0 then 0 else 1)) 10) (nI nw).toInt64) nw) (nI np).toInt64) (i + 1) = ((((dgR bp cp (dgw (dgR bw cw (dgw (dgT ti (dgw 241 (if ri = 0 then 0 else 1)) 10) (nI nw).toInt64) nw) (nI np).toInt64) i) * (31)) + ((bp i).toInt64)) * (31)) + ((cp i).toInt64) from by rfl]; rfl) ?_
                          exact ih_LB_10 (i + 1) (by first | assumption | omega) (by omega)
                    refine x_lv [(0, .ref yo), (1, .long (dgR bp cp (dgw (dgR bw cw (dgw (dgT ti (dgw 241 (if ri = 0 then 0 else 1)) 10) (nI nw).toInt64) nw) (nI np).toInt64) 0)), (3, .int (nI 1)), (4, .int (nI 0))] [3, 1, 2, 0] (by rw [show dgR bp cp (dgw (dgR bw cw (dgw (dgT ti (dgw 241 (if ri = 0 then 0 else 1)) 10) (nI nw).toInt64) nw) (nI np).toInt64) 0 = ((dgR bw cw (dgw (dgT ti (dgw 241 (if ri = 0 then 0 else 1)) 10) (nI nw).toInt64) nw) * (31)) + ((nI np).toInt64) from by rfl]; rfl) ?_
                    exact LB_10 (np - 0 + 1) 0 (by first | assumption | omega) (Nat.lt_succ_self _)
                ·
                  refine x_lload_n C dX5_digest_98 rfl 1 rfl ?_
                  refine x_ldc2 C (31) (by decide +kernel) dX5_digest_99 ?_
                  refine x_lmul C _ dX5_digest_102 rfl ?_
                  refine x_aload_n C dX5_digest_103 rfl 0 rfl ?_
                  refine x_get C hK in_X5_digest_X5 0 rfl rfl 4 (by decide) (by decide +kernel) rfl rfl dX5_digest_104 ?_
                  refine x_iload_n C dX5_digest_107 rfl 2 rfl ?_
                  refine x_aald C hK (r := g0) 3 2 rfl hR rfl (by omega) (by omega) (by rfl) dX5_digest_108 ?_
                  refine x_iload C dX5_digest_109 3 rfl ?_
                  refine x_iald C hK 4 0 rfl hI (by omega) (by omega) dX5_digest_111 ?_
                  refine x_i2l C _ dX5_digest_112 rfl ?_
                  refine x_ladd C _ dX5_digest_113 rfl ?_
                  refine x_ldc2 C (31) (by decide +kernel) dX5_digest_114 ?_
                  refine x_lmul C _ dX5_digest_117 rfl ?_
                  refine x_aload_n C dX5_digest_118 rfl 0 rfl ?_
                  refine x_get C hK in_X5_digest_X5 0 rfl rfl 5 (by decide) (by decide +kernel) rfl rfl dX5_digest_119 ?_
                  refine x_iload_n C dX5_digest_122 rfl 2 rfl ?_
                  refine x_aald C hK (r := k0) 6 2 rfl hR rfl (by omega) (by omega) (by rfl) dX5_digest_123 ?_
                  refine x_iload C dX5_digest_124 3 rfl ?_
                  refine x_iald C hK 7 0 rfl hI (by omega) (by omega) dX5_digest_126 ?_
                  refine x_i2l C _ dX5_digest_127 rfl ?_
                  refine x_ladd C _ dX5_digest_128 rfl ?_
                  refine x_lstore_n C [(1, .long (((((dgR bw cw (dgw (dgT ti (dgw 241 (if ri = 0 then 0 else 1)) 10) (nI nw).toInt64) i) * (31)) + ((bw i).toInt64)) * (31)) + ((cw i).toInt64))), (0, .ref yo), (3, .int (nI 0)), (4, .int (nI i))] dX5_digest_129 rfl (by decide) rfl ?_
                  refine xn_iinc C (i + 1) [(4, .int (nI (i + 1))), (1, .long (((((dgR bw cw (dgw (dgT ti (dgw 241 (if ri = 0 then 0 else 1)) 10) (nI nw).toInt64) i) * (31)) + ((bw i).toInt64)) * (31)) + ((cw i).toInt64))), (0, .ref yo), (3, .int (nI 0))] dX5_digest_130 3 rfl (by rw [show Int32.ofInt 1 = nI 1 from by decide +kernel]; exact nI_add _ _) (by decide) rfl ?_
                  refine x_goto C 87 dX5_digest_133 (by decide) ?_
                  refine x_lv [(0, .ref yo), (1, .long (dgR bw cw (dgw (dgT ti (dgw 241 (if ri = 0 then 0 else 1)) 10) (nI nw).toInt64) (i + 1))), (3, .int (nI 0)), (4, .int (nI (i + 1)))] [2, 1, 3, 0] (by rw [show dgR bw cw (dgw (dgT ti (dgw 241 (if ri = 0 then 0 else 1)) 10) (nI nw).toInt64) (i + 1) = ((((dgR bw cw (dgw (dgT ti (dgw 241 (if ri = 0 then 0 else 1)) 10) (nI nw).toInt64) i) * (31)) + ((bw i).toInt64)) * (31)) + ((cw i).toInt64) from by rfl]; rfl) ?_
                  exact ih_LA_6 (i + 1) (by first | assumption | omega) (by omega)
            refine x_lv [(0, .ref yo), (1, .long (dgR bw cw (dgw (dgT ti (dgw 241 (if ri = 0 then 0 else 1)) 10) (nI nw).toInt64) 0)), (3, .int (nI 0)), (4, .int (nI 0))] [3, 1, 2, 0] (by rw [show dgR bw cw (dgw (dgT ti (dgw 241 (if ri = 0 then 0 else 1)) 10) (nI nw).toInt64) 0 = ((dgT ti (dgw 241 (if ri = 0 then 0 else 1)) 10) * (31)) + ((nI nw).toInt64) from by rfl]; rfl) ?_
            exact LA_6 (nw - 0 + 1) 0 (by first | assumption | omega) (Nat.lt_succ_self _)
        ·
          refine x_aload_n C dX5_digest_41 rfl 2 rfl ?_
          refine x_iload C dX5_digest_42 4 rfl ?_
          refine x_iald C hK 2 0 rfl hI (by omega) (by omega) dX5_digest_44 ?_
          refine x_istore C [(6, .int (ti i)), (0, .ref yo), (1, .long (dgT ti (dgw 241 (if ri = 0 then 0 else 1)) i)), (3, .ref yt), (4, .int (nI 10)), (5, .int (nI i))] dX5_digest_45 (by decide) rfl ?_
          refine x_lload_n C dX5_digest_47 rfl 2 rfl ?_
          refine x_ldc2 C (31) (by decide +kernel) dX5_digest_48 ?_
          refine x_lmul C _ dX5_digest_51 rfl ?_
          refine x_iload C dX5_digest_52 0 rfl ?_
          refine x_i2l C _ dX5_digest_54 rfl ?_
          refine x_ladd C _ dX5_digest_55 rfl ?_
          refine x_lstore_n C [(1, .long (((dgT ti (dgw 241 (if ri = 0 then 0 else 1)) i) * (31)) + ((ti i).toInt64))), (6, .int (ti i)), (0, .ref yo), (3, .ref yt), (4, .int (nI 10)), (5, .int (nI i))] dX5_digest_56 rfl (by decide) rfl ?_
          refine xn_iinc C (i + 1) [(5, .int (nI (i + 1))), (1, .long (((dgT ti (dgw 241 (if ri = 0 then 0 else 1)) i) * (31)) + ((ti i).toInt64))), (6, .int (ti i)), (0, .ref yo), (3, .ref yt), (4, .int (nI 10))] dX5_digest_57 5 rfl (by rw [show Int32.ofInt 1 = nI 1 from by decide +kernel]; exact nI_add _ _) (by decide) rfl ?_
          refine x_goto C 34 dX5_digest_60 (by decide) ?_
          refine x_lv [(0, .ref yo), (1, .long (dgT ti (dgw 241 (if ri = 0 then 0 else 1)) (i + 1))), (3, .ref yt), (4, .int (nI 10)), (5, .int (nI (i + 1)))] [3, 1, 4, 5, 0] (by rw [show dgT ti (dgw 241 (if ri = 0 then 0 else 1)) (i + 1) = ((dgT ti (dgw 241 (if ri = 0 then 0 else 1)) i) * (31)) + ((ti i).toInt64) from by rfl]; rfl) ?_
          exact ih_LT_2 (i + 1) (by first | assumption | omega) (by omega)
    refine x_lv [(0, .ref yo), (1, .long (dgT ti (dgw 241 (if ri = 0 then 0 else 1)) 0)), (3, .ref yt), (4, .int (nI 10)), (5, .int (nI 0))] [4, 3, 2, 1, 0] (by rw [show dgT ti (dgw 241 (if ri = 0 then 0 else 1)) 0 = dgw 241 (if ri = 0 then 0 else 1) from by rfl]; rfl) ?_
    exact LT_2 (10 - 0 + 1) 0 (by first | assumption | omega) (Nat.lt_succ_self _)
  ·
    refine x_lconst C (1 : Int64) dX5_digest_15 rfl ?_
    refine x_goto C 20 dX5_digest_16 (by decide) ?_
    refine x_topl (if ri = 0 then 0 else 1) (by first | (rw [if_pos (by assumption)]; done) | (rw [if_neg (by assumption)]; done)) ?_
    refine x_ladd C _ dX5_digest_20 rfl ?_
    refine x_topl (dgw 241 (if ri = 0 then 0 else 1)) (by exact dg0 _) ?_
    refine x_lstore_n C [(1, .long (dgw 241 (if ri = 0 then 0 else 1))), (0, .ref yo)] dX5_digest_21 rfl (by decide) rfl ?_
    refine x_aload_n C dX5_digest_22 rfl 1 rfl ?_
    refine x_get C hK in_X5_digest_X5 0 rfl rfl 2 (by decide) (by decide +kernel) rfl rfl dX5_digest_23 ?_
    refine x_astore_n C [(3, .ref yt), (1, .long (dgw 241 (if ri = 0 then 0 else 1))), (0, .ref yo)] dX5_digest_26 rfl (by decide) rfl ?_
    refine x_aload_n C dX5_digest_27 rfl 0 rfl ?_
    refine x_alen C hK 2 0 rfl hI dX5_digest_28 ?_
    refine x_istore C [(4, .int (nI 10)), (3, .ref yt), (1, .long (dgw 241 (if ri = 0 then 0 else 1))), (0, .ref yo)] dX5_digest_29 (by decide) rfl ?_
    refine x_iconst C (nI 0) dX5_digest_31 (by decide +kernel) ?_
    refine x_istore C [(5, .int (nI 0)), (4, .int (nI 10)), (3, .ref yt), (1, .long (dgw 241 (if ri = 0 then 0 else 1))), (0, .ref yo)] dX5_digest_32 (by decide) rfl ?_
    have LT_17 : ∀ (fuel : Nat) (i : Nat), (i ≤ 10) → 10 - i < fuel → X_ p l e rm_m_digest s m args below meth c Q D A H0 7 0 0 [(yo, OB 5 [.int (nI 0), .int ri, .ref yt, .ref ys, .ref yf, .ref yc, .int (nI co), .int (nI dn), .ref yd]), (ys, AI cI 2 (sz2 nw np)), (yt, AI cI 10 ti), (yf, AR cA 2 (gr2 g0 g1)), (g0, AI cI 40 bw), (g1, AI cI 40 bp), (yc, AR cA 2 (gr2 k0 k1)), (k0, AI cI 40 cw), (k1, AI cI 40 cp), (yd, AJ cJ 40 fr)] [(0, .ref yo), (1, .long (dgT ti (dgw 241 (if ri = 0 then 0 else 1)) i)), (3, .ref yt), (4, .int (nI 10)), (5, .int (nI i))] 34 [] := by
      intro fuel
      induction fuel with
      | zero =>
        intros
        exact absurd (by assumption) (Nat.not_lt_zero _)
      | succ fuel ih_LT_17 =>
        intro i hi hm_18
        refine x_iload C dX5_digest_34 4 rfl ?_
        refine x_iload C dX5_digest_36 3 rfl ?_
        refine xn_icmp_ge C 63 (by omega) (by omega) dX5_digest_38 (by decide) (fun h_19 => ?_) (fun h_19 => ?_)
        ·
          have heq_i : i = 10 := by omega
          subst heq_i
          refine x_iconst C (nI 0) dX5_digest_63 (by decide +kernel) ?_
          refine x_istore_n C [(3, .int (nI 0)), (0, .ref yo), (1, .long (dgT ti (dgw 241 (if ri = 0 then 0 else 1)) 10)), (4, .int (nI 10)), (5, .int (nI 10))] dX5_digest_64 rfl (by decide) rfl ?_
          refine x_iload_n C dX5_digest_65 rfl 0 rfl ?_
          refine x_iconst C (nI 2) dX5_digest_66 (by decide +kernel) ?_
          refine xn_icmp_ge C 142 (by omega) (by omega) dX5_digest_67 (by decide) (fun h_20 => ?_) (fun h_20 => ?_)
          ·
            exact absurd h_20 (by first | decide | omega)
          ·
            refine x_lload_n C dX5_digest_70 rfl 2 rfl ?_
            refine x_ldc2 C (31) (by decide +kernel) dX5_digest_71 ?_
            refine x_lmul C _ dX5_digest_74 rfl ?_
            refine x_aload_n C dX5_digest_75 rfl 1 rfl ?_
            refine x_get C hK in_X5_digest_X5 0 rfl rfl 3 (by decide) (by decide +kernel) rfl rfl dX5_digest_76 ?_
            refine x_iload_n C dX5_digest_79 rfl 0 rfl ?_
            refine x_iald C hK 1 0 rfl hI (by omega) (by omega) dX5_digest_80 ?_
            refine x_topi (nI nw) rfl ?_
            refine x_i2l C _ dX5_digest_81 rfl ?_
            refine x_ladd C _ dX5_digest_82 rfl ?_
            refine x_lstore_n C [(1, .long (((dgT ti (dgw 241 (if ri = 0 then 0 else 1)) 10) * (31)) + ((nI nw).toInt64))), (3, .int (nI 0)), (0, .ref yo), (4, .int (nI 10)), (5, .int (nI 10))] dX5_digest_83 rfl (by decide) rfl ?_
            refine x_iconst C (nI 0) dX5_digest_84 (by decide +kernel) ?_
            refine x_istore C [(4, .int (nI 0)), (1, .long (((dgT ti (dgw 241 (if ri = 0 then 0 else 1)) 10) * (31)) + ((nI nw).toInt64))), (3, .int (nI 0)), (0, .ref yo), (5, .int (nI 10))] dX5_digest_85 (by decide) rfl ?_
            have LA_21 : ∀ (fuel : Nat) (i : Nat), (i ≤ nw) → nw - i < fuel → X_ p l e rm_m_digest s m args below meth c Q D A H0 7 0 0 [(yo, OB 5 [.int (nI 0), .int ri, .ref yt, .ref ys, .ref yf, .ref yc, .int (nI co), .int (nI dn), .ref yd]), (ys, AI cI 2 (sz2 nw np)), (yt, AI cI 10 ti), (yf, AR cA 2 (gr2 g0 g1)), (g0, AI cI 40 bw), (g1, AI cI 40 bp), (yc, AR cA 2 (gr2 k0 k1)), (k0, AI cI 40 cw), (k1, AI cI 40 cp), (yd, AJ cJ 40 fr)] [(0, .ref yo), (1, .long (dgR bw cw (dgw (dgT ti (dgw 241 (if ri = 0 then 0 else 1)) 10) (nI nw).toInt64) i)), (3, .int (nI 0)), (4, .int (nI i))] 87 [] := by
              intro fuel
              induction fuel with
              | zero =>
                intros
                exact absurd (by assumption) (Nat.not_lt_zero _)
              | succ fuel ih_LA_21 =>
                intro i hi hm_22
                refine x_iload C dX5_digest_87 3 rfl ?_
                refine x_aload_n C dX5_digest_89 rfl 0 rfl ?_
                refine x_get C hK in_X5_digest_X5 0 rfl rfl 3 (by decide) (by decide +kernel) rfl rfl dX5_digest_90 ?_
                refine x_iload_n C dX5_digest_93 rfl 2 rfl ?_
                refine x_iald C hK 1 0 rfl hI (by omega) (by omega) dX5_digest_94 ?_
                refine x_topi (nI nw) rfl ?_
                refine xn_icmp_ge C 136 (by omega) (by omega) dX5_digest_95 (by decide) (fun h_23 => ?_) (fun h_23 => ?_)
                ·
                  have heq_i : nw = i := by omega
                  subst heq_i
                  refine xn_iinc C 1 [(3, .int (nI 1)), (0, .ref yo), (1, .long (dgR bw cw (dgw (dgT ti (dgw 241 (if ri = 0 then 0 else 1)) 10) (nI nw).toInt64) nw)), (4, .int (nI nw))] dX5_digest_136 2 rfl (by decide +kernel) (by decide) rfl ?_
                  refine x_goto C 65 dX5_digest_139 (by decide) ?_
                  refine x_iload_n C dX5_digest_65 rfl 0 rfl ?_
                  refine x_iconst C (nI 2) dX5_digest_66 (by decide +kernel) ?_
                  refine xn_icmp_ge C 142 (by omega) (by omega) dX5_digest_67 (by decide) (fun h_24 => ?_) (fun h_24 => ?_)
                  ·
                    exact absurd h_24 (by first | decide | omega)
                  ·
                    refine x_lload_n C dX5_digest_70 rfl 2 rfl ?_
                    refine x_ldc2 C (31) (by decide +kernel) dX5_digest_71 ?_
                    refine x_lmul C _ dX5_digest_74 rfl ?_
                    refine x_aload_n C dX5_digest_75 rfl 1 rfl ?_
                    refine x_get C hK in_X5_digest_X5 0 rfl rfl 3 (by decide) (by decide +kernel) rfl rfl dX5_digest_76 ?_
                    refine x_iload_n C dX5_digest_79 rfl 0 rfl ?_
                    refine x_iald C hK 1 0 rfl hI (by omega) (by omega) dX5_digest_80 ?_
                    refine x_topi (nI np) rfl ?_
                    refine x_i2l C _ dX5_digest_81 rfl ?_
                    refine x_ladd C _ dX5_digest_82 rfl ?_
                    refine x_lstore_n C [(1, .long (((dgR bw cw (dgw (dgT ti (dgw 241 (if ri = 0 then 0 else 1)) 10) (nI nw).toInt64) nw) * (31)) + ((nI np).toInt64))), (3, .int (nI 1)), (0, .ref yo), (4, .int (nI nw))] dX5_digest_83 rfl (by decide) rfl ?_
                    refine x_iconst C (nI 0) dX5_digest_84 (by decide +kernel) ?_
                    refine x_istore C [(4, .int (nI 0)), (1, .long (((dgR bw cw (dgw (dgT ti (dgw 241 (if ri = 0 then 0 else 1)) 10) (nI nw).toInt64) nw) * (31)) + ((nI np).toInt64))), (3, .int (nI 1)), (0, .ref yo)] dX5_digest_85 (by decide) rfl ?_
                    have LB_25 : ∀ (fuel : Nat) (i : Nat), (i ≤ np) → np - i < fuel → X_ p l e rm_m_digest s m args below meth c Q D A H0 7 0 0 [(yo, OB 5 [.int (nI 0), .int ri, .ref yt, .ref ys, .ref yf, .ref yc, .int (nI co), .int (nI dn), .ref yd]), (ys, AI cI 2 (sz2 nw np)), (yt, AI cI 10 ti), (yf, AR cA 2 (gr2 g0 g1)), (g0, AI cI 40 bw), (g1, AI cI 40 bp), (yc, AR cA 2 (gr2 k0 k1)), (k0, AI cI 40 cw), (k1, AI cI 40 cp), (yd, AJ cJ 40 fr)] [(0, .ref yo), (1, .long (dgR bp cp (dgw (dgR bw cw (dgw (dgT ti (dgw 241 (if ri = 0 then 0 else 1)) 10) (nI nw).toInt64) nw) (nI np).toInt64) i)), (3, .int (nI 1)), (4, .int (nI i))] 87 [] := by
                      intro fuel
                      induction fuel with
                      | zero =>
                        intros
                        exact absurd (by assumption) (Nat.not_lt_zero _)
                      | succ fuel ih_LB_25 =>
                        intro i hi hm_26
                        refine x_iload C dX5_digest_87 3 rfl ?_
                        refine x_aload_n C dX5_digest_89 rfl 0 rfl ?_
                        refine x_get C hK in_X5_digest_X5 0 rfl rfl 3 (by decide) (by decide +kernel) rfl rfl dX5_digest_90 ?_
                        refine x_iload_n C dX5_digest_93 rfl 2 rfl ?_
                        refine x_iald C hK 1 0 rfl hI (by omega) (by omega) dX5_digest_94 ?_
                        refine x_topi (nI np) rfl ?_
                        refine xn_icmp_ge C 136 (by omega) (by omega) dX5_digest_95 (by decide) (fun h_27 => ?_) (fun h_27 => ?_)
                        ·
                          have heq_i : np = i := by omega
                          subst heq_i
                          refine xn_iinc C 2 [(3, .int (nI 2)), (0, .ref yo), (1, .long (dgR bp cp (dgw (dgR bw cw (dgw (dgT ti (dgw 241 (if ri = 0 then 0 else 1)) 10) (nI nw).toInt64) nw) (nI np).toInt64) np)), (4, .int (nI np))] dX5_digest_136 2 rfl (by decide +kernel) (by decide) rfl ?_
                          refine x_goto C 65 dX5_digest_139 (by decide) ?_
                          refine x_iload_n C dX5_digest_65 rfl 0 rfl ?_
                          refine x_iconst C (nI 2) dX5_digest_66 (by decide +kernel) ?_
                          refine xn_icmp_ge C 142 (by omega) (by omega) dX5_digest_67 (by decide) (fun h_28 => ?_) (fun h_28 => ?_)
                          ·
                            refine x_lload_n C dX5_digest_142 rfl 2 rfl ?_
                            refine x_ldc2 C (31) (by decide +kernel) dX5_digest_143 ?_
                            refine x_lmul C _ dX5_digest_146 rfl ?_
                            refine x_aload_n C dX5_digest_147 rfl 1 rfl ?_
                            refine x_get C hK in_X5_digest_X5 0 rfl rfl 6 (by decide) (by decide +kernel) rfl rfl dX5_digest_148 ?_
                            refine x_i2l C _ dX5_digest_151 rfl ?_
                            refine x_ladd C _ dX5_digest_152 rfl ?_
                            refine x_ldc2 C (31) (by decide +kernel) dX5_digest_153 ?_
                            refine x_lmul C _ dX5_digest_156 rfl ?_
                            refine x_aload_n C dX5_digest_157 rfl 1 rfl ?_
                            refine x_get C hK in_X5_digest_X5 0 rfl rfl 7 (by decide) (by decide +kernel) rfl rfl dX5_digest_158 ?_
                            refine x_i2l C _ dX5_digest_161 rfl ?_
                            refine x_ladd C _ dX5_digest_162 rfl ?_
                            refine x_lstore_n C [(1, .long (((((dgR bp cp (dgw (dgR bw cw (dgw (dgT ti (dgw 241 (if ri = 0 then 0 else 1)) 10) (nI nw).toInt64) nw) (nI np).toInt64) np) * (31)) + ((nI co).toInt64)) * (31)) + ((nI dn).toInt64))), (3, .int (nI 2)), (0, .ref yo), (4, .int (nI np))] dX5_digest_163 rfl (by decide) rfl ?_
                            refine x_iconst C (nI 0) dX5_digest_164 (by decide +kernel) ?_
                            refine x_istore_n C [(3, .int (nI 0)), (1, .long (((((dgR bp cp (dgw (dgR bw cw (dgw (dgT ti (dgw 241 (if ri = 0 then 0 else 1)) 10) (nI nw).toInt64) nw) (nI np).toInt64) np) * (31)) + ((nI co).toInt64)) * (31)) + ((nI dn).toInt64))), (0, .ref yo), (4, .int (nI np))] dX5_digest_165 rfl (by decide) rfl ?_
                            have LR_29 : ∀ (fuel : Nat) (i : Nat), (i ≤ dn) → dn - i < fuel → X_ p l e rm_m_digest s m args below meth c Q D A H0 7 0 0 [(yo, OB 5 [.int (nI 0), .int ri, .ref yt, .ref ys, .ref yf, .ref yc, .int (nI co), .int (nI dn), .ref yd]), (ys, AI cI 2 (sz2 nw np)), (yt, AI cI 10 ti), (yf, AR cA 2 (gr2 g0 g1)), (g0, AI cI 40 bw), (g1, AI cI 40 bp), (yc, AR cA 2 (gr2 k0 k1)), (k0, AI cI 40 cw), (k1, AI cI 40 cp), (yd, AJ cJ 40 fr)] [(0, .ref yo), (1, .long (dgD fr (dgw (dgw (dgR bp cp (dgw (dgR bw cw (dgw (dgT ti (dgw 241 (if ri = 0 then 0 else 1)) 10) (nI nw).toInt64) nw) (nI np).toInt64) np) (nI co).toInt64) (nI dn).toInt64) i)), (3, .int (nI i))] 166 [] := by
                              intro fuel
                              induction fuel with
                              | zero =>
                                intros
                                exact absurd (by assumption) (Nat.not_lt_zero _)
                              | succ fuel ih_LR_29 =>
                                intro i hi hm_30
                                refine x_iload_n C dX5_digest_166 rfl 2 rfl ?_
                                refine x_aload_n C dX5_digest_167 rfl 0 rfl ?_
                                refine x_get C hK in_X5_digest_X5 0 rfl rfl 7 (by decide) (by decide +kernel) rfl rfl dX5_digest_168 ?_
                                refine xn_icmp_ge C 193 (by omega) (by omega) dX5_digest_171 (by decide) (fun h_31 => ?_) (fun h_31 => ?_)
                                ·
                                  have heq_i : dn = i := by omega
                                  subst heq_i
                                  refine x_lload_n C dX5_digest_193 rfl 1 rfl ?_
                                  refine x_lret C hK hlk hrt hQ hH0 hAA () ?_ [0, 1, 2, 3, 4, 5, 6, 7, 8, 9] (by decide) rfl (by first | decide | omega) (by first | decide | omega) dX5_digest_194
                                  first | rfl | (exact ⟨rfl, rfl⟩) | trivial | assumption | omega
                                ·
                                  refine x_lload_n C dX5_digest_174 rfl 1 rfl ?_
                                  refine x_ldc2 C (31) (by decide +kernel) dX5_digest_175 ?_
                                  refine x_lmul C _ dX5_digest_178 rfl ?_
                                  refine x_aload_n C dX5_digest_179 rfl 0 rfl ?_
                                  refine x_get C hK in_X5_digest_X5 0 rfl rfl 8 (by decide) (by decide +kernel) rfl rfl dX5_digest_180 ?_
                                  refine x_iload_n C dX5_digest_183 rfl 2 rfl ?_
                                  refine x_lald C hK 9 1 rfl hJ (by omega) (by omega) dX5_digest_184 ?_
                                  refine x_ladd C _ dX5_digest_185 rfl ?_
                                  refine x_lstore_n C [(1, .long (((dgD fr (dgw (dgw (dgR bp cp (dgw (dgR bw cw (dgw (dgT ti (dgw 241 (if ri = 0 then 0 else 1)) 10) (nI nw).toInt64) nw) (nI np).toInt64) np) (nI co).toInt64) (nI dn).toInt64) i) * (31)) + (fr i))), (0, .ref yo), (3, .int (nI i))] dX5_digest_186 rfl (by decide) rfl ?_
                                  refine xn_iinc C (i + 1) [(3, .int (nI (i + 1))), (1, .long (((dgD fr (dgw (dgw (dgR bp cp (dgw (dgR bw cw (dgw (dgT ti (dgw 241 (if ri = 0 then 0 else 1)) 10) (nI nw).toInt64) nw) (nI np).toInt64) np) (nI co).toInt64) (nI dn).toInt64) i) * (31)) + (fr i))), (0, .ref yo)] dX5_digest_187 2 rfl (by rw [show Int32.ofInt 1 = nI 1 from by decide +kernel]; exact nI_add _ _) (by decide) rfl ?_
                                  refine x_goto C 166 dX5_digest_190 (by decide) ?_
                                  refine x_lv [(0, .ref yo), (1, .long (dgD fr (dgw (dgw (dgR bp cp (dgw (dgR bw cw (dgw (dgT ti (dgw 241 (if ri = 0 then 0 else 1)) 10) (nI nw).toInt64) nw) (nI np).toInt64) np) (nI co).toInt64) (nI dn).toInt64) (i + 1))), (3, .int (nI (i + 1)))] [2, 1, 0] (by rw [show dgD fr (dgw (dgw (dgR bp cp (dgw (dgR bw cw (dgw (dgT ti (dgw 241 (if ri = 0 then 0 else 1)) 10) (nI nw).toInt64) nw) (nI np).toInt64) np) (nI co).toInt64) (nI dn).toInt64) (i + 1) = ((dgD fr (dgw (dgw (dgR bp cp (dgw (dgR bw cw (dgw (dgT ti (dgw 241 (if ri = 0 then 0 else 1)) 10) (nI nw).toInt64) nw) (nI np).toInt64) np) (nI co).toInt64) (nI dn).toInt64) i) * (31)) + (fr i) from by rfl]; rfl) ?_
                                  exact ih_LR_29 (i + 1) (by first | assumption | omega) (by omega)
                            refine x_lv [(0, .ref yo), (1, .long (dgD fr (dgw (dgw (dgR bp cp (dgw (dgR bw cw (dgw (dgT ti (dgw 241 (if ri = 0 then 0 else 1)) 10) (nI nw).toInt64) nw) (nI np).toInt64) np) (nI co).toInt64) (nI dn).toInt64) 0)), (3, .int (nI 0))] [2, 1, 0] (by rw [show dgD fr (dgw (dgw (dgR bp cp (dgw (dgR bw cw (dgw (dgT ti (dgw 241 (if ri = 0 then 0 else 1)) 10) (nI nw).toInt64) nw) (nI np).toInt64) np) (nI co).toInt64) (nI dn).toInt64) 0 = ((((dgR bp cp (dgw (dgR bw cw (dgw (dgT ti (dgw 241 (if ri = 0 then 0 else 1)) 10) (nI nw).toInt64) nw) (nI np).toInt64) np) * (31)) + ((nI co).toInt64)) * (31)) + ((nI dn).toInt64) from by rfl]; rfl) ?_
                            exact LR_29 (dn - 0 + 1) 0 (by first | assumption | omega) (Nat.lt_succ_self _)
                          ·
                            exact absurd h_28 (by first | decide | omega)
                        ·
                          refine x_lload_n C dX5_digest_98 rfl 1 rfl ?_
                          refine x_ldc2 C (31) (by decide +kernel) dX5_digest_99 ?_
                          refine x_lmul C _ dX5_digest_102 rfl ?_
                          refine x_aload_n C dX5_digest_103 rfl 0 rfl ?_
                          refine x_get C hK in_X5_digest_X5 0 rfl rfl 4 (by decide) (by decide +kernel) rfl rfl dX5_digest_104 ?_
                          refine x_iload_n C dX5_digest_107 rfl 2 rfl ?_
                          refine x_aald C hK (r := g1) 3 2 rfl hR rfl (by omega) (by omega) (by rfl) dX5_digest_108 ?_
                          refine x_iload C dX5_digest_109 3 rfl ?_
                          refine x_iald C hK 5 0 rfl hI (by omega) (by omega) dX5_digest_111 ?_
                          refine x_i2l C _ dX5_digest_112 rfl ?_
                          refine x_ladd C _ dX5_digest_113 rfl ?_
                          refine x_ldc2 C (31) (by decide +kernel) dX5_digest_114 ?_
                          refine x_lmul C _ dX5_digest_117 rfl ?_
                          refine x_aload_n C dX5_digest_118 rfl 0 rfl ?_
                          refine x_get C hK in_X5_digest_X5 0 rfl rfl 5 (by decide) (by decide +kernel) rfl rfl dX5_digest_119 ?_
                          refine x_iload_n C dX5_digest_122 rfl 2 rfl ?_
                          refine x_aald C hK (r := k1) 6 2 rfl hR rfl (by omega) (by omega) (by rfl) dX5_digest_123 ?_
                          refine x_iload C dX5_digest_124 3 rfl ?_
                          refine x_iald C hK 8 0 rfl hI (by omega) (by omega) dX5_digest_126 ?_
                          refine x_i2l C _ dX5_digest_127 rfl ?_
                          refine x_ladd C _ dX5_digest_128 rfl ?_
                          refine x_lstore_n C [(1, .long (((((dgR bp cp (dgw (dgR bw cw (dgw (dgT ti (dgw 241 (if ri = 0 then 0 else 1)) 10) (nI nw).toInt64) nw) (nI np).toInt64) i) * (31)) + ((bp i).toInt64)) * (31)) + ((cp i).toInt64))), (0, .ref yo), (3, .int (nI 1)), (4, .int (nI i))] dX5_digest_129 rfl (by decide) rfl ?_
                          refine xn_iinc C (i + 1) [(4, .int (nI (i + 1))), (1, .long (((((dgR bp cp (dgw (dgR bw cw (dgw (dgT ti (dgw 241 (if ri = 0 then 0 else 1)) 10) (nI nw).toInt64) nw) (nI np).toInt64) i) * (31)) + ((bp i).toInt64)) * (31)) + ((cp i).toInt64))), (0, .ref yo), (3, .int (nI 1))] dX5_digest_130 3 rfl (by rw [show Int32.ofInt 1 = nI 1 from by decide +kernel]; exact nI_add _ _) (by decide) rfl ?_
                          refine x_goto C 87 dX5_digest_133 (by decide) ?_
                          refine x_lv [(0, .ref yo), (1, .long (dgR bp cp (dgw (dgR bw cw (dgw (dgT ti (dgw 241 (if ri = 0 then 0 else 1)) 10) (nI nw).toInt64) nw) (nI np).toInt64) (i + 1))), (3, .int (nI 1)), (4, .int (nI (i + 1)))] [2, 1, 3, 0] (by rw [show dgR bp cp (dgw (dgR bw cw (dgw (dgT ti (dgw 241 (if ri = 0 then 0 else 1)) 10) (nI nw).toInt64) nw) (nI np).toInt64) (i + 1) = ((((dgR bp cp (dgw (dgR bw cw (dgw (dgT ti (dgw 241 (if ri = 0 then 0 else 1)) 10) (nI nw).toInt64) nw) (nI np).toInt64) i) * (31)) + ((bp i).toInt64)) * (31)) + ((cp i).toInt64) from by rfl]; rfl) ?_
                          exact ih_LB_25 (i + 1) (by first | assumption | omega) (by omega)
                    refine x_lv [(0, .ref yo), (1, .long (dgR bp cp (dgw (dgR bw cw (dgw (dgT ti (dgw 241 (if ri = 0 then 0 else 1)) 10) (nI nw).toInt64) nw) (nI np).toInt64) 0)), (3, .int (nI 1)), (4, .int (nI 0))] [3, 1, 2, 0] (by rw [show dgR bp cp (dgw (dgR bw cw (dgw (dgT ti (dgw 241 (if ri = 0 then 0 else 1)) 10) (nI nw).toInt64) nw) (nI np).toInt64) 0 = ((dgR bw cw (dgw (dgT ti (dgw 241 (if ri = 0 then 0 else 1)) 10) (nI nw).toInt64) nw) * (31)) + ((nI np).toInt64) from by rfl]; rfl) ?_
                    exact LB_25 (np - 0 + 1) 0 (by first | assumption | omega) (Nat.lt_succ_self _)
                ·
                  refine x_lload_n C dX5_digest_98 rfl 1 rfl ?_
                  refine x_ldc2 C (31) (by decide +kernel) dX5_digest_99 ?_
                  refine x_lmul C _ dX5_digest_102 rfl ?_
                  refine x_aload_n C dX5_digest_103 rfl 0 rfl ?_
                  refine x_get C hK in_X5_digest_X5 0 rfl rfl 4 (by decide) (by decide +kernel) rfl rfl dX5_digest_104 ?_
                  refine x_iload_n C dX5_digest_107 rfl 2 rfl ?_
                  refine x_aald C hK (r := g0) 3 2 rfl hR rfl (by omega) (by omega) (by rfl) dX5_digest_108 ?_
                  refine x_iload C dX5_digest_109 3 rfl ?_
                  refine x_iald C hK 4 0 rfl hI (by omega) (by omega) dX5_digest_111 ?_
                  refine x_i2l C _ dX5_digest_112 rfl ?_
                  refine x_ladd C _ dX5_digest_113 rfl ?_
                  refine x_ldc2 C (31) (by decide +kernel) dX5_digest_114 ?_
                  refine x_lmul C _ dX5_digest_117 rfl ?_
                  refine x_aload_n C dX5_digest_118 rfl 0 rfl ?_
                  refine x_get C hK in_X5_digest_X5 0 rfl rfl 5 (by decide) (by decide +kernel) rfl rfl dX5_digest_119 ?_
                  refine x_iload_n C dX5_digest_122 rfl 2 rfl ?_
                  refine x_aald C hK (r := k0) 6 2 rfl hR rfl (by omega) (by omega) (by rfl) dX5_digest_123 ?_
                  refine x_iload C dX5_digest_124 3 rfl ?_
                  refine x_iald C hK 7 0 rfl hI (by omega) (by omega) dX5_digest_126 ?_
                  refine x_i2l C _ dX5_digest_127 rfl ?_
                  refine x_ladd C _ dX5_digest_128 rfl ?_
                  refine x_lstore_n C [(1, .long (((((dgR bw cw (dgw (dgT ti (dgw 241 (if ri = 0 then 0 else 1)) 10) (nI nw).toInt64) i) * (31)) + ((bw i).toInt64)) * (31)) + ((cw i).toInt64))), (0, .ref yo), (3, .int (nI 0)), (4, .int (nI i))] dX5_digest_129 rfl (by decide) rfl ?_
                  refine xn_iinc C (i + 1) [(4, .int (nI (i + 1))), (1, .long (((((dgR bw cw (dgw (dgT ti (dgw 241 (if ri = 0 then 0 else 1)) 10) (nI nw).toInt64) i) * (31)) + ((bw i).toInt64)) * (31)) + ((cw i).toInt64))), (0, .ref yo), (3, .int (nI 0))] dX5_digest_130 3 rfl (by rw [show Int32.ofInt 1 = nI 1 from by decide +kernel]; exact nI_add _ _) (by decide) rfl ?_
                  refine x_goto C 87 dX5_digest_133 (by decide) ?_
                  refine x_lv [(0, .ref yo), (1, .long (dgR bw cw (dgw (dgT ti (dgw 241 (if ri = 0 then 0 else 1)) 10) (nI nw).toInt64) (i + 1))), (3, .int (nI 0)), (4, .int (nI (i + 1)))] [2, 1, 3, 0] (by rw [show dgR bw cw (dgw (dgT ti (dgw 241 (if ri = 0 then 0 else 1)) 10) (nI nw).toInt64) (i + 1) = ((((dgR bw cw (dgw (dgT ti (dgw 241 (if ri = 0 then 0 else 1)) 10) (nI nw).toInt64) i) * (31)) + ((bw i).toInt64)) * (31)) + ((cw i).toInt64) from by rfl]; rfl) ?_
                  exact ih_LA_21 (i + 1) (by first | assumption | omega) (by omega)
            refine x_lv [(0, .ref yo), (1, .long (dgR bw cw (dgw (dgT ti (dgw 241 (if ri = 0 then 0 else 1)) 10) (nI nw).toInt64) 0)), (3, .int (nI 0)), (4, .int (nI 0))] [3, 1, 2, 0] (by rw [show dgR bw cw (dgw (dgT ti (dgw 241 (if ri = 0 then 0 else 1)) 10) (nI nw).toInt64) 0 = ((dgT ti (dgw 241 (if ri = 0 then 0 else 1)) 10) * (31)) + ((nI nw).toInt64) from by rfl]; rfl) ?_
            exact LA_21 (nw - 0 + 1) 0 (by first | assumption | omega) (Nat.lt_succ_self _)
        ·
          refine x_aload_n C dX5_digest_41 rfl 2 rfl ?_
          refine x_iload C dX5_digest_42 4 rfl ?_
          refine x_iald C hK 2 0 rfl hI (by omega) (by omega) dX5_digest_44 ?_
          refine x_istore C [(6, .int (ti i)), (0, .ref yo), (1, .long (dgT ti (dgw 241 (if ri = 0 then 0 else 1)) i)), (3, .ref yt), (4, .int (nI 10)), (5, .int (nI i))] dX5_digest_45 (by decide) rfl ?_
          refine x_lload_n C dX5_digest_47 rfl 2 rfl ?_
          refine x_ldc2 C (31) (by decide +kernel) dX5_digest_48 ?_
          refine x_lmul C _ dX5_digest_51 rfl ?_
          refine x_iload C dX5_digest_52 0 rfl ?_
          refine x_i2l C _ dX5_digest_54 rfl ?_
          refine x_ladd C _ dX5_digest_55 rfl ?_
          refine x_lstore_n C [(1, .long (((dgT ti (dgw 241 (if ri = 0 then 0 else 1)) i) * (31)) + ((ti i).toInt64))), (6, .int (ti i)), (0, .ref yo), (3, .ref yt), (4, .int (nI 10)), (5, .int (nI i))] dX5_digest_56 rfl (by decide) rfl ?_
          refine xn_iinc C (i + 1) [(5, .int (nI (i + 1))), (1, .long (((dgT ti (dgw 241 (if ri = 0 then 0 else 1)) i) * (31)) + ((ti i).toInt64))), (6, .int (ti i)), (0, .ref yo), (3, .ref yt), (4, .int (nI 10))] dX5_digest_57 5 rfl (by rw [show Int32.ofInt 1 = nI 1 from by decide +kernel]; exact nI_add _ _) (by decide) rfl ?_
          refine x_goto C 34 dX5_digest_60 (by decide) ?_
          refine x_lv [(0, .ref yo), (1, .long (dgT ti (dgw 241 (if ri = 0 then 0 else 1)) (i + 1))), (3, .ref yt), (4, .int (nI 10)), (5, .int (nI (i + 1)))] [3, 1, 4, 5, 0] (by rw [show dgT ti (dgw 241 (if ri = 0 then 0 else 1)) (i + 1) = ((dgT ti (dgw 241 (if ri = 0 then 0 else 1)) i) * (31)) + ((ti i).toInt64) from by rfl]; rfl) ?_
          exact ih_LT_17 (i + 1) (by first | assumption | omega) (by omega)
    refine x_lv [(0, .ref yo), (1, .long (dgT ti (dgw 241 (if ri = 0 then 0 else 1)) 0)), (3, .ref yt), (4, .int (nI 10)), (5, .int (nI 0))] [4, 3, 2, 1, 0] (by rw [show dgT ti (dgw 241 (if ri = 0 then 0 else 1)) 0 = dgw 241 (if ri = 0 then 0 else 1) from by rfl]; rfl) ?_
    exact LT_17 (10 - 0 + 1) 0 (by first | assumption | omega) (Nat.lt_succ_self _)
