/-! the reference, sixth part -/
theorem in_X5_spread_X5 : ∀ w ∈ wsX50, w ∈ wsX5_spread := by decide +kernel
theorem in_X5_leads_X5 : ∀ w ∈ wsX50, w ∈ wsX5_leads := by decide +kernel
abbrev rm_m_spread1 : Room := { frames := 1, cells := 1, slots := 2, locals := 22 }
set_option maxRecDepth 100000 in
set_option maxHeartbeats 4000000 in
theorem c_m_spread1 (l : Launch) (D : va_G) (tys : List (ClassId × FieldType)) (cI cJ cA : ClassId) (hI : tys[0]? = some (cI, .int)) (hJ : tys[1]? = some (cJ, .long)) (hR : tys[2]? = some (cA, .array .int)) (yo : Nat) (thr : Int32) (ri : Int32) (yt : Nat) (ys : Nat) (yf : Nat) (yc : Nat) (co : Nat) (dn : Nat) (yd : Nat) (nw : Nat) (np : Nat) (q : Nat) (rw9 : Nat → Int64) (ti9 : Nat) (hnw : nw ≤ 40) (hnp : np ≤ 40) (ht : ti9 < nw) : MR l yX5_spread wsX5_spread rm_m_spread1 D tys [.ref yo, .int (nI 1), .int (nI ti9), .ref q] [(yo, OB 5 [.int thr, .int ri, .ref yt, .ref ys, .ref yf, .ref yc, .int (nI co), .int (nI dn), .ref yd]), (ys, AI cI 2 (sz2 nw np)), (q, AJ cJ np rw9)] (Int64 × Int64) (fun (u : Int64 × Int64) => ∀ x, x < nw + np → ldP nw u.1 u.2 x = gtB (ldB rw9 nw) (nw + np) (ti9) x) (fun (u : Int64 × Int64) ra => [(yo, OB 5 [.int thr, .int ri, .ref yt, .ref ys, .ref yf, .ref yc, .int (nI co), .int (nI dn), .ref yd]), (ys, AI cI 2 (sz2 nw np)), (q, AJ cJ np rw9), (ra, AJ cJ 2 (lpA u.1 u.2))]) 1 2 := by
  intro sz
  refine x_met (cc := cX5_spread) (maxL := 16) (ret := (some (.array .long))) (by decide +kernel) rfl (by show _ ≤ _; simp [lg_sl, Value.category]) [(0, .ref yo), (1, .int (nI 1)), (2, .int (nI ti9)), (3, .ref q)] rfl ?_
  intro p e s m args below meth c Q A H0 C hK hNW hlk hrt hnm hQ hH0 hAA hA
  have hst := sp_st1 (rows := rw9) (np := np) (N := nw + np) hnw ht
  refine x_iload_n C dX5_spread_0 rfl 1 rfl ?_
  refine xn_if_eq C 10 (by omega) dX5_spread_1 (by decide) (fun h_1 => ?_) (fun h_1 => ?_)
  ·
    exact absurd h_1 (by first | decide | omega)
  ·
    refine x_lconst C (1 : Int64) dX5_spread_4 rfl ?_
    refine x_iload_n C dX5_spread_5 rfl 2 rfl ?_
    refine x_lshl C _ dX5_spread_6 rfl ?_
    refine x_goto C 11 dX5_spread_7 (by decide) ?_
    refine x_lstore C [(4, .long ((1 : Int64) <<< ((nI ti9).toInt64 &&& 63))), (0, .ref yo), (1, .int (nI 1)), (2, .int (nI ti9)), (3, .ref q)] dX5_spread_11 (by decide) rfl ?_
    refine x_iload_n C dX5_spread_13 rfl 2 rfl ?_
    refine xn_if_eq C 21 (by omega) dX5_spread_14 (by decide) (fun h_2 => ?_) (fun h_2 => ?_)
    ·
      exact absurd h_2 (by first | decide | omega)
    ·
      refine x_lconst C (0 : Int64) dX5_spread_17 rfl ?_
      refine x_goto C 24 dX5_spread_18 (by decide) ?_
      refine x_lstore C [(6, .long (0 : Int64)), (4, .long ((1 : Int64) <<< ((nI ti9).toInt64 &&& 63))), (0, .ref yo), (1, .int (nI 1)), (2, .int (nI ti9)), (3, .ref q)] dX5_spread_24 (by decide) rfl ?_
      refine x_lconst C (1 : Int64) dX5_spread_26 rfl ?_
      refine x_aload_n C dX5_spread_27 rfl 2 rfl ?_
      refine x_get C hK in_X5_spread_X5 0 rfl rfl 3 (by decide) (by decide +kernel) rfl rfl dX5_spread_28 ?_
      refine x_iconst C (nI 0) dX5_spread_31 (by decide +kernel) ?_
      refine x_iald C hK 1 0 rfl hI (by omega) (by omega) dX5_spread_32 ?_
      refine x_topi (nI nw) rfl ?_
      refine x_lshl C _ dX5_spread_33 rfl ?_
      refine x_lconst C (1 : Int64) dX5_spread_34 rfl ?_
      refine x_lsub C _ dX5_spread_35 rfl ?_
      refine x_topl (allof (nI nw)) (by rfl) ?_
      refine x_lstore C [(8, .long (allof (nI nw))), (6, .long (0 : Int64)), (4, .long ((1 : Int64) <<< ((nI ti9).toInt64 &&& 63))), (0, .ref yo), (1, .int (nI 1)), (2, .int (nI ti9)), (3, .ref q)] dX5_spread_36 (by decide) rfl ?_
      refine x_iconst C (nI 1) dX5_spread_38 (by decide +kernel) ?_
      refine x_istore C [(10, .int (nI 1)), (8, .long (allof (nI nw))), (6, .long (0 : Int64)), (4, .long ((1 : Int64) <<< ((nI ti9).toInt64 &&& 63))), (0, .ref yo), (1, .int (nI 1)), (2, .int (nI ti9)), (3, .ref q)] dX5_spread_39 (by decide) rfl ?_
      have LW_3 : ∀ (fuel : Nat) (E9 : Int64) (P9 : Int64) (mo : Nat), (mo ≤ 1) → (spOK nw np (gtB (ldB rw9 nw) (nw + np) (ti9)) (E9, P9)) → (ldP nw E9 P9 (ti9) = true) → (mo = 0 → spCl nw np rw9 (E9, P9)) → 2 * (128 - crd (E9, P9)) + mo < fuel → X_ p l e rm_m_spread1 s m args below meth c Q D A H0 16 0 0 [(yo, OB 5 [.int thr, .int ri, .ref yt, .ref ys, .ref yf, .ref yc, .int (nI co), .int (nI dn), .ref yd]), (ys, AI cI 2 (sz2 nw np)), (q, AJ cJ np rw9)] [(0, .ref yo), (1, .int (nI 1)), (2, .int (nI ti9)), (3, .ref q), (4, .long E9), (6, .long P9), (8, .long (allof (nI nw))), (10, .int (nI mo))] 41 [] := by
        intro fuel
        induction fuel with
        | zero =>
          intros
          exact absurd (by assumption) (Nat.not_lt_zero _)
        | succ fuel ih_LW_3 =>
          intro E9 P9 mo hmo hok hti hcl hm_4
          refine x_iload C dX5_spread_41 7 rfl ?_
          refine xn_if_eq C 147 (by omega) dX5_spread_43 (by decide) (fun h_5 => ?_) (fun h_5 => ?_)
          ·
            have hmo0 : mo = 0 := by omega
            refine x_iconst C (nI 2) dX5_spread_147 (by decide +kernel) ?_
            refine x_new_long C hK hA (by decide +kernel) 1 hJ (by omega) (by first | decide | omega | exact (show _ ≤ 1 by omega)) (by first | decide | omega | exact (show _ ≤ 2 by omega)) dX5_spread_148 (fun q_6 => ?_)
            refine x_dup C dX5_spread_150 rfl ?_
            refine x_iconst C (nI 0) dX5_spread_151 (by decide +kernel) ?_
            refine x_lload C dX5_spread_152 4 rfl ?_
            refine x_last C hK 3 1 rfl hJ (by omega) (by omega) [(yo, OB 5 [.int thr, .int ri, .ref yt, .ref ys, .ref yf, .ref yc, .int (nI co), .int (nI dn), .ref yd]), (ys, AI cI 2 (sz2 nw np)), (q, AJ cJ np rw9), (q_6, AJ cJ 2 (vp_updL (fun _ => 0) 0 E9))] rfl dX5_spread_154 ?_
            refine x_dup C dX5_spread_155 rfl ?_
            refine x_iconst C (nI 1) dX5_spread_156 (by decide +kernel) ?_
            refine x_lload C dX5_spread_157 5 rfl ?_
            refine x_last C hK 3 1 rfl hJ (by omega) (by omega) [(yo, OB 5 [.int thr, .int ri, .ref yt, .ref ys, .ref yf, .ref yc, .int (nI co), .int (nI dn), .ref yd]), (ys, AI cI 2 (sz2 nw np)), (q, AJ cJ np rw9), (q_6, AJ cJ 2 (vp_updL (vp_updL (fun _ => 0) 0 E9) 1 P9))] rfl dX5_spread_159 ?_
            refine x_ws [(yo, OB 5 [.int thr, .int ri, .ref yt, .ref ys, .ref yf, .ref yc, .int (nI co), .int (nI dn), .ref yd]), (ys, AI cI 2 (sz2 nw np)), (q, AJ cJ np rw9), (q_6, AJ cJ 2 (lpA E9 P9))] (by rfl) ?_
            refine x_aret C hK hlk hrt (by first | exact Or.inl ⟨_, rfl⟩ | exact Or.inr ⟨_, rfl⟩) hQ hH0 hAA (E9, P9) ?_ [0, 1, 2, 3] (by decide) rfl (by first | decide | omega) (by first | decide | omega) dX5_spread_160
            exact sp_end hnw hnp rfl (by omega) hok (hcl hmo0) hti
          ·
            have hmo1 : mo = 1 := by omega
            refine x_lload C dX5_spread_46 4 rfl ?_
            refine x_lstore C [(11, .long E9), (0, .ref yo), (1, .int (nI 1)), (2, .int (nI ti9)), (3, .ref q), (4, .long E9), (6, .long P9), (8, .long (allof (nI nw))), (10, .int (nI mo))] dX5_spread_48 (by decide) rfl ?_
            refine x_lload C dX5_spread_50 6 rfl ?_
            refine x_lstore C [(13, .long P9), (11, .long E9), (0, .ref yo), (1, .int (nI 1)), (2, .int (nI ti9)), (3, .ref q), (4, .long E9), (6, .long P9), (8, .long (allof (nI nw))), (10, .int (nI mo))] dX5_spread_52 (by decide) rfl ?_
            refine x_iconst C (nI 0) dX5_spread_54 (by decide +kernel) ?_
            refine x_istore C [(15, .int (nI 0)), (13, .long P9), (11, .long E9), (0, .ref yo), (1, .int (nI 1)), (2, .int (nI ti9)), (3, .ref q), (4, .long E9), (6, .long P9), (8, .long (allof (nI nw))), (10, .int (nI mo))] dX5_spread_55 (by decide) rfl ?_
            have LP_7 : ∀ (fuel : Nat) (i : Nat), (i ≤ np) → np - i < fuel → X_ p l e rm_m_spread1 s m args below meth c Q D A H0 16 0 0 [(yo, OB 5 [.int thr, .int ri, .ref yt, .ref ys, .ref yf, .ref yc, .int (nI co), .int (nI dn), .ref yd]), (ys, AI cI 2 (sz2 nw np)), (q, AJ cJ np rw9)] [(0, .ref yo), (1, .int (nI 1)), (2, .int (nI ti9)), (3, .ref q), (4, .long ((spS rw9 (allof (nI nw)) E9 P9 i).1)), (6, .long ((spS rw9 (allof (nI nw)) E9 P9 i).2)), (8, .long (allof (nI nw))), (11, .long E9), (13, .long P9), (15, .int (nI i))] 57 [] := by
              intro fuel
              induction fuel with
              | zero =>
                intros
                exact absurd (by assumption) (Nat.not_lt_zero _)
              | succ fuel ih_LP_7 =>
                intro i hi hm_8
                refine x_iload C dX5_spread_57 9 rfl ?_
                refine x_aload_n C dX5_spread_59 rfl 0 rfl ?_
                refine x_get C hK in_X5_spread_X5 0 rfl rfl 3 (by decide) (by decide +kernel) rfl rfl dX5_spread_60 ?_
                refine x_iconst C (nI 1) dX5_spread_63 (by decide +kernel) ?_
                refine x_iald C hK 1 0 rfl hI (by omega) (by omega) dX5_spread_64 ?_
                refine x_topi (nI np) rfl ?_
                refine xn_icmp_ge C 121 (by omega) (by omega) dX5_spread_65 (by decide) (fun h_9 => ?_) (fun h_9 => ?_)
                ·
                  have heq_i : np = i := by omega
                  subst heq_i
                  refine x_lload C dX5_spread_121 4 rfl ?_
                  refine x_lload C dX5_spread_123 7 rfl ?_
                  refine x_lcmp C dX5_spread_125 ?_
                  refine x_if_ne C 137 dX5_spread_126 (by decide) (fun h_10 => ?_) (fun h_10 => ?_)
                  ·
                    have hch : ¬ (spS rw9 (allof (nI nw)) E9 P9 np).1 = E9 ∨ ¬ (spS rw9 (allof (nI nw)) E9 P9 np).2 = P9 := Or.inl (fun q9 => h_10 ((lg_cmp_eq _ _).mpr q9))
                    refine x_iconst C (nI 1) dX5_spread_137 (by decide +kernel) ?_
                    refine x_goto C 142 dX5_spread_138 (by decide) ?_
                    refine x_istore C [(10, .int (nI 1)), (0, .ref yo), (1, .int (nI 1)), (2, .int (nI ti9)), (3, .ref q), (4, .long ((spS rw9 (allof (nI nw)) E9 P9 np).1)), (6, .long ((spS rw9 (allof (nI nw)) E9 P9 np).2)), (8, .long (allof (nI nw))), (11, .long E9), (13, .long P9), (15, .int (nI np))] dX5_spread_142 (by decide) rfl ?_
                    refine x_goto C 41 dX5_spread_144 (by decide) ?_
                    refine x_lv [(0, .ref yo), (1, .int (nI 1)), (2, .int (nI ti9)), (3, .ref q), (4, .long ((spS rw9 (allof (nI nw)) E9 P9 np).1)), (6, .long ((spS rw9 (allof (nI nw)) E9 P9 np).2)), (8, .long (allof (nI nw))), (10, .int (nI 1))] [1, 2, 3, 4, 5, 6, 7, 0] rfl ?_
                    exact ih_LW_3 ((spS rw9 (allof (nI nw)) E9 P9 np).1) ((spS rw9 (allof (nI nw)) E9 P9 np).2) 1 (by omega) (by exact spS_ok hnw hnp rfl hok np (Nat.le_refl _)) (by exact ldP_sub hnw (by omega) hti) (by first | (intro q; omega) | (intro _; rw [show ((spS rw9 (allof (nI nw)) E9 P9 np).1, (spS rw9 (allof (nI nw)) E9 P9 np).2) = (E9, P9) from Prod.ext hun1 hun2]; exact spS_cl hnw hnp hun1 hun2)) (by first | (have hc9 := crd_lt (rows := rw9) (al := allof (nI nw)) (a := E9) (b := P9) (n := np) hch; have hc8 := crd_le (spS rw9 (allof (nI nw)) E9 P9 np); have hc7 : crd ((spS rw9 (allof (nI nw)) E9 P9 np).1, (spS rw9 (allof (nI nw)) E9 P9 np).2) = crd (spS rw9 (allof (nI nw)) E9 P9 np) := rfl; omega) | (rw [show ((spS rw9 (allof (nI nw)) E9 P9 np).1, (spS rw9 (allof (nI nw)) E9 P9 np).2) = (E9, P9) from Prod.ext hun1 hun2]; omega))
                  ·
                    have hun1 := (lg_cmp_eq _ _).mp h_10
                    refine x_lload C dX5_spread_129 5 rfl ?_
                    refine x_lload C dX5_spread_131 8 rfl ?_
                    refine x_lcmp C dX5_spread_133 ?_
                    refine x_if_eq C 141 dX5_spread_134 (by decide) (fun h_11 => ?_) (fun h_11 => ?_)
                    ·
                      have hun2 := (lg_cmp_eq _ _).mp h_11
                      refine x_iconst C (nI 0) dX5_spread_141 (by decide +kernel) ?_
                      refine x_istore C [(10, .int (nI 0)), (0, .ref yo), (1, .int (nI 1)), (2, .int (nI ti9)), (3, .ref q), (4, .long ((spS rw9 (allof (nI nw)) E9 P9 np).1)), (6, .long ((spS rw9 (allof (nI nw)) E9 P9 np).2)), (8, .long (allof (nI nw))), (11, .long E9), (13, .long P9), (15, .int (nI np))] dX5_spread_142 (by decide) rfl ?_
                      refine x_goto C 41 dX5_spread_144 (by decide) ?_
                      refine x_lv [(0, .ref yo), (1, .int (nI 1)), (2, .int (nI ti9)), (3, .ref q), (4, .long ((spS rw9 (allof (nI nw)) E9 P9 np).1)), (6, .long ((spS rw9 (allof (nI nw)) E9 P9 np).2)), (8, .long (allof (nI nw))), (10, .int (nI 0))] [1, 2, 3, 4, 5, 6, 7, 0] rfl ?_
                      exact ih_LW_3 ((spS rw9 (allof (nI nw)) E9 P9 np).1) ((spS rw9 (allof (nI nw)) E9 P9 np).2) 0 (by omega) (by exact spS_ok hnw hnp rfl hok np (Nat.le_refl _)) (by exact ldP_sub hnw (by omega) hti) (by first | (intro q; omega) | (intro _; rw [show ((spS rw9 (allof (nI nw)) E9 P9 np).1, (spS rw9 (allof (nI nw)) E9 P9 np).2) = (E9, P9) from Prod.ext hun1 hun2]; exact spS_cl hnw hnp hun1 hun2)) (by first | (have hc9 := crd_lt (rows := rw9) (al := allof (nI nw)) (a := E9) (b := P9) (n := np) hch; have hc8 := crd_le (spS rw9 (allof (nI nw)) E9 P9 np); have hc7 : crd ((spS rw9 (allof (nI nw)) E9 P9 np).1, (spS rw9 (allof (nI nw)) E9 P9 np).2) = crd (spS rw9 (allof (nI nw)) E9 P9 np) := rfl; omega) | (rw [show ((spS rw9 (allof (nI nw)) E9 P9 np).1, (spS rw9 (allof (nI nw)) E9 P9 np).2) = (E9, P9) from Prod.ext hun1 hun2]; omega))
                    ·
                      have hch : ¬ (spS rw9 (allof (nI nw)) E9 P9 np).1 = E9 ∨ ¬ (spS rw9 (allof (nI nw)) E9 P9 np).2 = P9 := Or.inr (fun q9 => h_11 ((lg_cmp_eq _ _).mpr q9))
                      refine x_iconst C (nI 1) dX5_spread_137 (by decide +kernel) ?_
                      refine x_goto C 142 dX5_spread_138 (by decide) ?_
                      refine x_istore C [(10, .int (nI 1)), (0, .ref yo), (1, .int (nI 1)), (2, .int (nI ti9)), (3, .ref q), (4, .long ((spS rw9 (allof (nI nw)) E9 P9 np).1)), (6, .long ((spS rw9 (allof (nI nw)) E9 P9 np).2)), (8, .long (allof (nI nw))), (11, .long E9), (13, .long P9), (15, .int (nI np))] dX5_spread_142 (by decide) rfl ?_
                      refine x_goto C 41 dX5_spread_144 (by decide) ?_
                      refine x_lv [(0, .ref yo), (1, .int (nI 1)), (2, .int (nI ti9)), (3, .ref q), (4, .long ((spS rw9 (allof (nI nw)) E9 P9 np).1)), (6, .long ((spS rw9 (allof (nI nw)) E9 P9 np).2)), (8, .long (allof (nI nw))), (10, .int (nI 1))] [1, 2, 3, 4, 5, 6, 7, 0] rfl ?_
                      exact ih_LW_3 ((spS rw9 (allof (nI nw)) E9 P9 np).1) ((spS rw9 (allof (nI nw)) E9 P9 np).2) 1 (by omega) (by exact spS_ok hnw hnp rfl hok np (Nat.le_refl _)) (by exact ldP_sub hnw (by omega) hti) (by first | (intro q; omega) | (intro _; rw [show ((spS rw9 (allof (nI nw)) E9 P9 np).1, (spS rw9 (allof (nI nw)) E9 P9 np).2) = (E9, P9) from Prod.ext hun1 hun2]; exact spS_cl hnw hnp hun1 hun2)) (by first | (have hc9 := crd_lt (rows := rw9) (al := allof (nI nw)) (a := E9) (b := P9) (n := np) hch; have hc8 := crd_le (spS rw9 (allof (nI nw)) E9 P9 np); have hc7 : crd ((spS rw9 (allof (nI nw)) E9 P9 np).1, (spS rw9 (allof (nI nw)) E9 P9 np).2) = crd (spS rw9 (allof (nI nw)) E9 P9 np) := rfl; omega) | (rw [show ((spS rw9 (allof (nI nw)) E9 P9 np).1, (spS rw9 (allof (nI nw)) E9 P9 np).2) = (E9, P9) from Prod.ext hun1 hun2]; omega))
                ·
                  refine x_aload_n C dX5_spread_68 rfl 3 rfl ?_
                  refine x_iload C dX5_spread_69 9 rfl ?_
                  refine x_lald C hK 2 1 rfl hJ (by omega) (by omega) dX5_spread_71 ?_
                  refine x_lload C dX5_spread_72 4 rfl ?_
                  refine x_land C _ dX5_spread_74 rfl ?_
                  refine x_lconst C (0 : Int64) dX5_spread_75 rfl ?_
                  refine x_lcmp C dX5_spread_76 ?_
                  refine x_if_eq C 89 dX5_spread_77 (by decide) (fun h_12 => ?_) (fun h_12 => ?_)
                  ·
                    have hz1 := (lg_cmp_eq _ _).mp h_12
                    refine x_lload C dX5_spread_89 5 rfl ?_
                    refine x_iload C dX5_spread_91 9 rfl ?_
                    refine x_calli (x_runS C hK hNW (c_m_has l D tys cI cJ cA hI hJ hR ((spS rw9 (allof (nI nw)) E9 P9 i).2) (nI i) ) (va_cwS 2 C.2.2.2.2 gX5_spread_X5_has rfl rfl rfl (by decide +kernel) ⟨by decide, by decide⟩) [] rfl (by decide) (st := []) rfl rfl (Nat.le_of_ble_eq_true rfl) dX5_spread_93 ⟨by first | decide | omega | exact (show _ ≤ 1 by omega), by first | decide | omega | exact (show _ ≤ 2 by omega)⟩) hA [] rfl [0, 1, 2] [(yo, OB 5 [.int thr, .int ri, .ref yt, .ref ys, .ref yf, .ref yc, .int (nI co), .int (nI dn), .ref yd]), (ys, AI cI 2 (sz2 nw np)), (q, AJ cJ np rw9)] rfl (by decide) (by decide) [0, 1, 2] (by decide) (wf := (fun (u : Unit) => [(yo, OB 5 [.int thr, .int ri, .ref yt, .ref ys, .ref yf, .ref yc, .int (nI co), .int (nI dn), .ref yd]), (ys, AI cI 2 (sz2 nw np)), (q, AJ cJ np rw9)])) (fun _ => rfl) (fun r_13 u h_14 => ?_)
                    subst h_14
                    refine x_if_eq C 115 dX5_spread_96 (by decide) (fun h_15 => ?_) (fun h_15 => ?_)
                    ·
                      have hz2 := bI_eq0 h_15
                      refine xn_iinc C (i + 1) [(15, .int (nI (i + 1))), (0, .ref yo), (1, .int (nI 1)), (2, .int (nI ti9)), (3, .ref q), (4, .long ((spS rw9 (allof (nI nw)) E9 P9 i).1)), (6, .long ((spS rw9 (allof (nI nw)) E9 P9 i).2)), (8, .long (allof (nI nw))), (11, .long E9), (13, .long P9)] dX5_spread_115 9 rfl (by rw [show Int32.ofInt 1 = nI 1 from by decide +kernel]; exact nI_add _ _) (by decide) rfl ?_
                      refine x_goto C 57 dX5_spread_118 (by decide) ?_
                      refine x_lv [(0, .ref yo), (1, .int (nI 1)), (2, .int (nI ti9)), (3, .ref q), (4, .long ((spS rw9 (allof (nI nw)) E9 P9 (i + 1)).1)), (6, .long ((spS rw9 (allof (nI nw)) E9 P9 (i + 1)).2)), (8, .long (allof (nI nw))), (11, .long E9), (13, .long P9), (15, .int (nI (i + 1)))] [1, 2, 3, 4, 5, 6, 7, 8, 9, 0] (by rw [show (spS rw9 (allof (nI nw)) E9 P9 (i + 1)).1 = (spS rw9 (allof (nI nw)) E9 P9 i).1 from by first | rw [sp_yy hz1 hz2] | rw [sp_yn hz1 hz2] | rw [sp_ny hz1 hz2] | rw [sp_nn hz1 hz2], show (spS rw9 (allof (nI nw)) E9 P9 (i + 1)).2 = (spS rw9 (allof (nI nw)) E9 P9 i).2 from by first | rw [sp_yy hz1 hz2] | rw [sp_yn hz1 hz2] | rw [sp_ny hz1 hz2] | rw [sp_nn hz1 hz2]]; rfl) ?_
                      exact ih_LP_7 (i + 1) (by first | assumption | omega) (by omega)
                    ·
                      have hz2 := bI_ne0 h_15
                      refine x_lload C dX5_spread_99 4 rfl ?_
                      refine x_lload C dX5_spread_101 6 rfl ?_
                      refine x_aload_n C dX5_spread_103 rfl 3 rfl ?_
                      refine x_iload C dX5_spread_104 9 rfl ?_
                      refine x_lald C hK 2 1 rfl hJ (by omega) (by omega) dX5_spread_106 ?_
                      refine x_ldc2 C (-1) (by decide +kernel) dX5_spread_107 ?_
                      refine x_lxor C _ dX5_spread_110 rfl ?_
                      refine x_land C _ dX5_spread_111 rfl ?_
                      refine x_lor C _ dX5_spread_112 rfl ?_
                      refine x_lstore C [(4, .long (((spS rw9 (allof (nI nw)) E9 P9 i).1) ||| ((allof (nI nw)) &&& ((rw9 i) ^^^ (-1))))), (0, .ref yo), (1, .int (nI 1)), (2, .int (nI ti9)), (3, .ref q), (6, .long ((spS rw9 (allof (nI nw)) E9 P9 i).2)), (8, .long (allof (nI nw))), (11, .long E9), (13, .long P9), (15, .int (nI i))] dX5_spread_113 (by decide) rfl ?_
                      refine xn_iinc C (i + 1) [(15, .int (nI (i + 1))), (4, .long (((spS rw9 (allof (nI nw)) E9 P9 i).1) ||| ((allof (nI nw)) &&& ((rw9 i) ^^^ (-1))))), (0, .ref yo), (1, .int (nI 1)), (2, .int (nI ti9)), (3, .ref q), (6, .long ((spS rw9 (allof (nI nw)) E9 P9 i).2)), (8, .long (allof (nI nw))), (11, .long E9), (13, .long P9)] dX5_spread_115 9 rfl (by rw [show Int32.ofInt 1 = nI 1 from by decide +kernel]; exact nI_add _ _) (by decide) rfl ?_
                      refine x_goto C 57 dX5_spread_118 (by decide) ?_
                      refine x_lv [(0, .ref yo), (1, .int (nI 1)), (2, .int (nI ti9)), (3, .ref q), (4, .long ((spS rw9 (allof (nI nw)) E9 P9 (i + 1)).1)), (6, .long ((spS rw9 (allof (nI nw)) E9 P9 (i + 1)).2)), (8, .long (allof (nI nw))), (11, .long E9), (13, .long P9), (15, .int (nI (i + 1)))] [2, 3, 4, 5, 1, 6, 7, 8, 9, 0] (by rw [show (spS rw9 (allof (nI nw)) E9 P9 (i + 1)).1 = ((spS rw9 (allof (nI nw)) E9 P9 i).1) ||| ((allof (nI nw)) &&& ((rw9 i) ^^^ (-1))) from by first | rw [sp_yy hz1 hz2] | rw [sp_yn hz1 hz2] | rw [sp_ny hz1 hz2] | rw [sp_nn hz1 hz2], show (spS rw9 (allof (nI nw)) E9 P9 (i + 1)).2 = (spS rw9 (allof (nI nw)) E9 P9 i).2 from by first | rw [sp_yy hz1 hz2] | rw [sp_yn hz1 hz2] | rw [sp_ny hz1 hz2] | rw [sp_nn hz1 hz2]]; rfl) ?_
                      exact ih_LP_7 (i + 1) (by first | assumption | omega) (by omega)
                  ·
                    have hz1 := fun q9 => h_12 ((lg_cmp_eq _ _).mpr q9)
                    refine x_lload C dX5_spread_80 5 rfl ?_
                    refine x_lconst C (1 : Int64) dX5_spread_82 rfl ?_
                    refine x_iload C dX5_spread_83 9 rfl ?_
                    refine x_lshl C _ dX5_spread_85 rfl ?_
                    refine x_lor C _ dX5_spread_86 rfl ?_
                    refine x_lstore C [(6, .long (((spS rw9 (allof (nI nw)) E9 P9 i).2) ||| ((1 : Int64) <<< ((nI i).toInt64 &&& 63)))), (0, .ref yo), (1, .int (nI 1)), (2, .int (nI ti9)), (3, .ref q), (4, .long ((spS rw9 (allof (nI nw)) E9 P9 i).1)), (8, .long (allof (nI nw))), (11, .long E9), (13, .long P9), (15, .int (nI i))] dX5_spread_87 (by decide) rfl ?_
                    refine x_lload C dX5_spread_89 0 rfl ?_
                    refine x_iload C dX5_spread_91 9 rfl ?_
                    refine x_calli (x_runS C hK hNW (c_m_has l D tys cI cJ cA hI hJ hR (((spS rw9 (allof (nI nw)) E9 P9 i).2) ||| ((1 : Int64) <<< ((nI i).toInt64 &&& 63))) (nI i) ) (va_cwS 2 C.2.2.2.2 gX5_spread_X5_has rfl rfl rfl (by decide +kernel) ⟨by decide, by decide⟩) [] rfl (by decide) (st := []) rfl rfl (Nat.le_of_ble_eq_true rfl) dX5_spread_93 ⟨by first | decide | omega | exact (show _ ≤ 1 by omega), by first | decide | omega | exact (show _ ≤ 2 by omega)⟩) hA [] rfl [0, 1, 2] [(yo, OB 5 [.int thr, .int ri, .ref yt, .ref ys, .ref yf, .ref yc, .int (nI co), .int (nI dn), .ref yd]), (ys, AI cI 2 (sz2 nw np)), (q, AJ cJ np rw9)] rfl (by decide) (by decide) [0, 1, 2] (by decide) (wf := (fun (u : Unit) => [(yo, OB 5 [.int thr, .int ri, .ref yt, .ref ys, .ref yf, .ref yc, .int (nI co), .int (nI dn), .ref yd]), (ys, AI cI 2 (sz2 nw np)), (q, AJ cJ np rw9)])) (fun _ => rfl) (fun r_16 u h_17 => ?_)
                    subst h_17
                    refine x_if_eq C 115 dX5_spread_96 (by decide) (fun h_18 => ?_) (fun h_18 => ?_)
                    ·
                      have hz2 := bI_eq0 h_18
                      refine xn_iinc C (i + 1) [(15, .int (nI (i + 1))), (6, .long (((spS rw9 (allof (nI nw)) E9 P9 i).2) ||| ((1 : Int64) <<< ((nI i).toInt64 &&& 63)))), (0, .ref yo), (1, .int (nI 1)), (2, .int (nI ti9)), (3, .ref q), (4, .long ((spS rw9 (allof (nI nw)) E9 P9 i).1)), (8, .long (allof (nI nw))), (11, .long E9), (13, .long P9)] dX5_spread_115 9 rfl (by rw [show Int32.ofInt 1 = nI 1 from by decide +kernel]; exact nI_add _ _) (by decide) rfl ?_
                      refine x_goto C 57 dX5_spread_118 (by decide) ?_
                      refine x_lv [(0, .ref yo), (1, .int (nI 1)), (2, .int (nI ti9)), (3, .ref q), (4, .long ((spS rw9 (allof (nI nw)) E9 P9 (i + 1)).1)), (6, .long ((spS rw9 (allof (nI nw)) E9 P9 (i + 1)).2)), (8, .long (allof (nI nw))), (11, .long E9), (13, .long P9), (15, .int (nI (i + 1)))] [2, 3, 4, 5, 6, 1, 7, 8, 9, 0] (by rw [show (spS rw9 (allof (nI nw)) E9 P9 (i + 1)).1 = (spS rw9 (allof (nI nw)) E9 P9 i).1 from by first | rw [sp_yy hz1 hz2] | rw [sp_yn hz1 hz2] | rw [sp_ny hz1 hz2] | rw [sp_nn hz1 hz2], show (spS rw9 (allof (nI nw)) E9 P9 (i + 1)).2 = ((spS rw9 (allof (nI nw)) E9 P9 i).2) ||| ((1 : Int64) <<< ((nI i).toInt64 &&& 63)) from by first | rw [sp_yy hz1 hz2] | rw [sp_yn hz1 hz2] | rw [sp_ny hz1 hz2] | rw [sp_nn hz1 hz2]]; rfl) ?_
                      exact ih_LP_7 (i + 1) (by first | assumption | omega) (by omega)
                    ·
                      have hz2 := bI_ne0 h_18
                      refine x_lload C dX5_spread_99 5 rfl ?_
                      refine x_lload C dX5_spread_101 6 rfl ?_
                      refine x_aload_n C dX5_spread_103 rfl 4 rfl ?_
                      refine x_iload C dX5_spread_104 9 rfl ?_
                      refine x_lald C hK 2 1 rfl hJ (by omega) (by omega) dX5_spread_106 ?_
                      refine x_ldc2 C (-1) (by decide +kernel) dX5_spread_107 ?_
                      refine x_lxor C _ dX5_spread_110 rfl ?_
                      refine x_land C _ dX5_spread_111 rfl ?_
                      refine x_lor C _ dX5_spread_112 rfl ?_
                      refine x_lstore C [(4, .long (((spS rw9 (allof (nI nw)) E9 P9 i).1) ||| ((allof (nI nw)) &&& ((rw9 i) ^^^ (-1))))), (6, .long (((spS rw9 (allof (nI nw)) E9 P9 i).2) ||| ((1 : Int64) <<< ((nI i).toInt64 &&& 63)))), (0, .ref yo), (1, .int (nI 1)), (2, .int (nI ti9)), (3, .ref q), (8, .long (allof (nI nw))), (11, .long E9), (13, .long P9), (15, .int (nI i))] dX5_spread_113 (by decide) rfl ?_
                      refine xn_iinc C (i + 1) [(15, .int (nI (i + 1))), (4, .long (((spS rw9 (allof (nI nw)) E9 P9 i).1) ||| ((allof (nI nw)) &&& ((rw9 i) ^^^ (-1))))), (6, .long (((spS rw9 (allof (nI nw)) E9 P9 i).2) ||| ((1 : Int64) <<< ((nI i).toInt64 &&& 63)))), (0, .ref yo), (1, .int (nI 1)), (2, .int (nI ti9)), (3, .ref q), (8, .long (allof (nI nw))), (11, .long E9), (13, .long P9)] dX5_spread_115 9 rfl (by rw [show Int32.ofInt 1 = nI 1 from by decide +kernel]; exact nI_add _ _) (by decide) rfl ?_
                      refine x_goto C 57 dX5_spread_118 (by decide) ?_
                      refine x_lv [(0, .ref yo), (1, .int (nI 1)), (2, .int (nI ti9)), (3, .ref q), (4, .long ((spS rw9 (allof (nI nw)) E9 P9 (i + 1)).1)), (6, .long ((spS rw9 (allof (nI nw)) E9 P9 (i + 1)).2)), (8, .long (allof (nI nw))), (11, .long E9), (13, .long P9), (15, .int (nI (i + 1)))] [3, 4, 5, 6, 1, 2, 7, 8, 9, 0] (by rw [show (spS rw9 (allof (nI nw)) E9 P9 (i + 1)).1 = ((spS rw9 (allof (nI nw)) E9 P9 i).1) ||| ((allof (nI nw)) &&& ((rw9 i) ^^^ (-1))) from by first | rw [sp_yy hz1 hz2] | rw [sp_yn hz1 hz2] | rw [sp_ny hz1 hz2] | rw [sp_nn hz1 hz2], show (spS rw9 (allof (nI nw)) E9 P9 (i + 1)).2 = ((spS rw9 (allof (nI nw)) E9 P9 i).2) ||| ((1 : Int64) <<< ((nI i).toInt64 &&& 63)) from by first | rw [sp_yy hz1 hz2] | rw [sp_yn hz1 hz2] | rw [sp_ny hz1 hz2] | rw [sp_nn hz1 hz2]]; rfl) ?_
                      exact ih_LP_7 (i + 1) (by first | assumption | omega) (by omega)
            refine x_lv [(0, .ref yo), (1, .int (nI 1)), (2, .int (nI ti9)), (3, .ref q), (4, .long ((spS rw9 (allof (nI nw)) E9 P9 0).1)), (6, .long ((spS rw9 (allof (nI nw)) E9 P9 0).2)), (8, .long (allof (nI nw))), (11, .long E9), (13, .long P9), (15, .int (nI 0))] [3, 4, 5, 6, 7, 8, 9, 2, 1, 0] (by rw [show (spS rw9 (allof (nI nw)) E9 P9 0).1 = E9 from by rfl, show (spS rw9 (allof (nI nw)) E9 P9 0).2 = P9 from by rfl]; rfl) ?_
            exact LP_7 (np - 0 + 1) 0 (by first | assumption | omega) (Nat.lt_succ_self _)
      refine x_lv [(0, .ref yo), (1, .int (nI 1)), (2, .int (nI ti9)), (3, .ref q), (4, .long ((1 : Int64) <<< ((nI ti9).toInt64 &&& 63))), (6, .long (0 : Int64)), (8, .long (allof (nI nw))), (10, .int (nI 1))] [4, 5, 6, 7, 3, 2, 1, 0] rfl ?_
      exact LW_3 (2 * (128 - crd (((1 : Int64) <<< ((nI ti9).toInt64 &&& 63)), (0 : Int64))) + 1 + 1) ((1 : Int64) <<< ((nI ti9).toInt64 &&& 63)) (0 : Int64) 1 (by omega) (by exact hst.1) (by exact hst.2) (by intro q; omega) (Nat.lt_succ_self _)
abbrev rm_m_spread0 : Room := { frames := 1, cells := 1, slots := 2, locals := 22 }
set_option maxRecDepth 100000 in
set_option maxHeartbeats 4000000 in
theorem c_m_spread0 (l : Launch) (D : va_G) (tys : List (ClassId × FieldType)) (cI cJ cA : ClassId) (hI : tys[0]? = some (cI, .int)) (hJ : tys[1]? = some (cJ, .long)) (hR : tys[2]? = some (cA, .array .int)) (yo : Nat) (thr : Int32) (ri : Int32) (yt : Nat) (ys : Nat) (yf : Nat) (yc : Nat) (co : Nat) (dn : Nat) (yd : Nat) (nw : Nat) (np : Nat) (q : Nat) (rw9 : Nat → Int64) (ti9 : Nat) (hnw : nw ≤ 40) (hnp : np ≤ 40) (ht : ti9 < np) : MR l yX5_spread wsX5_spread rm_m_spread0 D tys [.ref yo, .int (nI 0), .int (nI ti9), .ref q] [(yo, OB 5 [.int thr, .int ri, .ref yt, .ref ys, .ref yf, .ref yc, .int (nI co), .int (nI dn), .ref yd]), (ys, AI cI 2 (sz2 nw np)), (q, AJ cJ np rw9)] (Int64 × Int64) (fun (u : Int64 × Int64) => ∀ x, x < nw + np → ldP nw u.1 u.2 x = gtB (ldB rw9 nw) (nw + np) (nw + ti9) x) (fun (u : Int64 × Int64) ra => [(yo, OB 5 [.int thr, .int ri, .ref yt, .ref ys, .ref yf, .ref yc, .int (nI co), .int (nI dn), .ref yd]), (ys, AI cI 2 (sz2 nw np)), (q, AJ cJ np rw9), (ra, AJ cJ 2 (lpA u.1 u.2))]) 1 2 := by
  intro sz
  refine x_met (cc := cX5_spread) (maxL := 16) (ret := (some (.array .long))) (by decide +kernel) rfl (by show _ ≤ _; simp [lg_sl, Value.category]) [(0, .ref yo), (1, .int (nI 0)), (2, .int (nI ti9)), (3, .ref q)] rfl ?_
  intro p e s m args below meth c Q A H0 C hK hNW hlk hrt hnm hQ hH0 hAA hA
  have hst := sp_st0 (rows := rw9) (nw := nw) (N := nw + np) hnp ht
  refine x_iload_n C dX5_spread_0 rfl 1 rfl ?_
  refine xn_if_eq C 10 (by omega) dX5_spread_1 (by decide) (fun h_1 => ?_) (fun h_1 => ?_)
  ·
    refine x_lconst C (0 : Int64) dX5_spread_10 rfl ?_
    refine x_lstore C [(4, .long (0 : Int64)), (0, .ref yo), (1, .int (nI 0)), (2, .int (nI ti9)), (3, .ref q)] dX5_spread_11 (by decide) rfl ?_
    refine x_iload_n C dX5_spread_13 rfl 2 rfl ?_
    refine xn_if_eq C 21 (by omega) dX5_spread_14 (by decide) (fun h_2 => ?_) (fun h_2 => ?_)
    ·
      refine x_lconst C (1 : Int64) dX5_spread_21 rfl ?_
      refine x_iload_n C dX5_spread_22 rfl 3 rfl ?_
      refine x_lshl C _ dX5_spread_23 rfl ?_
      refine x_lstore C [(6, .long ((1 : Int64) <<< ((nI ti9).toInt64 &&& 63))), (4, .long (0 : Int64)), (0, .ref yo), (1, .int (nI 0)), (2, .int (nI ti9)), (3, .ref q)] dX5_spread_24 (by decide) rfl ?_
      refine x_lconst C (1 : Int64) dX5_spread_26 rfl ?_
      refine x_aload_n C dX5_spread_27 rfl 2 rfl ?_
      refine x_get C hK in_X5_spread_X5 0 rfl rfl 3 (by decide) (by decide +kernel) rfl rfl dX5_spread_28 ?_
      refine x_iconst C (nI 0) dX5_spread_31 (by decide +kernel) ?_
      refine x_iald C hK 1 0 rfl hI (by omega) (by omega) dX5_spread_32 ?_
      refine x_topi (nI nw) rfl ?_
      refine x_lshl C _ dX5_spread_33 rfl ?_
      refine x_lconst C (1 : Int64) dX5_spread_34 rfl ?_
      refine x_lsub C _ dX5_spread_35 rfl ?_
      refine x_topl (allof (nI nw)) (by rfl) ?_
      refine x_lstore C [(8, .long (allof (nI nw))), (6, .long ((1 : Int64) <<< ((nI ti9).toInt64 &&& 63))), (4, .long (0 : Int64)), (0, .ref yo), (1, .int (nI 0)), (2, .int (nI ti9)), (3, .ref q)] dX5_spread_36 (by decide) rfl ?_
      refine x_iconst C (nI 1) dX5_spread_38 (by decide +kernel) ?_
      refine x_istore C [(10, .int (nI 1)), (8, .long (allof (nI nw))), (6, .long ((1 : Int64) <<< ((nI ti9).toInt64 &&& 63))), (4, .long (0 : Int64)), (0, .ref yo), (1, .int (nI 0)), (2, .int (nI ti9)), (3, .ref q)] dX5_spread_39 (by decide) rfl ?_
      have LW_3 : ∀ (fuel : Nat) (E9 : Int64) (P9 : Int64) (mo : Nat), (mo ≤ 1) → (spOK nw np (gtB (ldB rw9 nw) (nw + np) (nw + ti9)) (E9, P9)) → (ldP nw E9 P9 (nw + ti9) = true) → (mo = 0 → spCl nw np rw9 (E9, P9)) → 2 * (128 - crd (E9, P9)) + mo < fuel → X_ p l e rm_m_spread0 s m args below meth c Q D A H0 16 0 0 [(yo, OB 5 [.int thr, .int ri, .ref yt, .ref ys, .ref yf, .ref yc, .int (nI co), .int (nI dn), .ref yd]), (ys, AI cI 2 (sz2 nw np)), (q, AJ cJ np rw9)] [(0, .ref yo), (1, .int (nI 0)), (2, .int (nI ti9)), (3, .ref q), (4, .long E9), (6, .long P9), (8, .long (allof (nI nw))), (10, .int (nI mo))] 41 [] := by
        intro fuel
        induction fuel with
        | zero =>
          intros
          exact absurd (by assumption) (Nat.not_lt_zero _)
        | succ fuel ih_LW_3 =>
          intro E9 P9 mo hmo hok hti hcl hm_4
          refine x_iload C dX5_spread_41 7 rfl ?_
          refine xn_if_eq C 147 (by omega) dX5_spread_43 (by decide) (fun h_5 => ?_) (fun h_5 => ?_)
          ·
            have hmo0 : mo = 0 := by omega
            refine x_iconst C (nI 2) dX5_spread_147 (by decide +kernel) ?_
            refine x_new_long C hK hA (by decide +kernel) 1 hJ (by omega) (by first | decide | omega | exact (show _ ≤ 1 by omega)) (by first | decide | omega | exact (show _ ≤ 2 by omega)) dX5_spread_148 (fun q_6 => ?_)
            refine x_dup C dX5_spread_150 rfl ?_
            refine x_iconst C (nI 0) dX5_spread_151 (by decide +kernel) ?_
            refine x_lload C dX5_spread_152 4 rfl ?_
            refine x_last C hK 3 1 rfl hJ (by omega) (by omega) [(yo, OB 5 [.int thr, .int ri, .ref yt, .ref ys, .ref yf, .ref yc, .int (nI co), .int (nI dn), .ref yd]), (ys, AI cI 2 (sz2 nw np)), (q, AJ cJ np rw9), (q_6, AJ cJ 2 (vp_updL (fun _ => 0) 0 E9))] rfl dX5_spread_154 ?_
            refine x_dup C dX5_spread_155 rfl ?_
            refine x_iconst C (nI 1) dX5_spread_156 (by decide +kernel) ?_
            refine x_lload C dX5_spread_157 5 rfl ?_
            refine x_last C hK 3 1 rfl hJ (by omega) (by omega) [(yo, OB 5 [.int thr, .int ri, .ref yt, .ref ys, .ref yf, .ref yc, .int (nI co), .int (nI dn), .ref yd]), (ys, AI cI 2 (sz2 nw np)), (q, AJ cJ np rw9), (q_6, AJ cJ 2 (vp_updL (vp_updL (fun _ => 0) 0 E9) 1 P9))] rfl dX5_spread_159 ?_
            refine x_ws [(yo, OB 5 [.int thr, .int ri, .ref yt, .ref ys, .ref yf, .ref yc, .int (nI co), .int (nI dn), .ref yd]), (ys, AI cI 2 (sz2 nw np)), (q, AJ cJ np rw9), (q_6, AJ cJ 2 (lpA E9 P9))] (by rfl) ?_
            refine x_aret C hK hlk hrt (by first | exact Or.inl ⟨_, rfl⟩ | exact Or.inr ⟨_, rfl⟩) hQ hH0 hAA (E9, P9) ?_ [0, 1, 2, 3] (by decide) rfl (by first | decide | omega) (by first | decide | omega) dX5_spread_160
            exact sp_end hnw hnp rfl (by omega) hok (hcl hmo0) hti
          ·
            have hmo1 : mo = 1 := by omega
            refine x_lload C dX5_spread_46 4 rfl ?_
            refine x_lstore C [(11, .long E9), (0, .ref yo), (1, .int (nI 0)), (2, .int (nI ti9)), (3, .ref q), (4, .long E9), (6, .long P9), (8, .long (allof (nI nw))), (10, .int (nI mo))] dX5_spread_48 (by decide) rfl ?_
            refine x_lload C dX5_spread_50 6 rfl ?_
            refine x_lstore C [(13, .long P9), (11, .long E9), (0, .ref yo), (1, .int (nI 0)), (2, .int (nI ti9)), (3, .ref q), (4, .long E9), (6, .long P9), (8, .long (allof (nI nw))), (10, .int (nI mo))] dX5_spread_52 (by decide) rfl ?_
            refine x_iconst C (nI 0) dX5_spread_54 (by decide +kernel) ?_
            refine x_istore C [(15, .int (nI 0)), (13, .long P9), (11, .long E9), (0, .ref yo), (1, .int (nI 0)), (2, .int (nI ti9)), (3, .ref q), (4, .long E9), (6, .long P9), (8, .long (allof (nI nw))), (10, .int (nI mo))] dX5_spread_55 (by decide) rfl ?_
            have LP_7 : ∀ (fuel : Nat) (i : Nat), (i ≤ np) → np - i < fuel → X_ p l e rm_m_spread0 s m args below meth c Q D A H0 16 0 0 [(yo, OB 5 [.int thr, .int ri, .ref yt, .ref ys, .ref yf, .ref yc, .int (nI co), .int (nI dn), .ref yd]), (ys, AI cI 2 (sz2 nw np)), (q, AJ cJ np rw9)] [(0, .ref yo), (1, .int (nI 0)), (2, .int (nI ti9)), (3, .ref q), (4, .long ((spS rw9 (allof (nI nw)) E9 P9 i).1)), (6, .long ((spS rw9 (allof (nI nw)) E9 P9 i).2)), (8, .long (allof (nI nw))), (11, .long E9), (13, .long P9), (15, .int (nI i))] 57 [] := by
              intro fuel
              induction fuel with
              | zero =>
                intros
                exact absurd (by assumption) (Nat.not_lt_zero _)
              | succ fuel ih_LP_7 =>
                intro i hi hm_8
                refine x_iload C dX5_spread_57 9 rfl ?_
                refine x_aload_n C dX5_spread_59 rfl 0 rfl ?_
                refine x_get C hK in_X5_spread_X5 0 rfl rfl 3 (by decide) (by decide +kernel) rfl rfl dX5_spread_60 ?_
                refine x_iconst C (nI 1) dX5_spread_63 (by decide +kernel) ?_
                refine x_iald C hK 1 0 rfl hI (by omega) (by omega) dX5_spread_64 ?_
                refine x_topi (nI np) rfl ?_
                refine xn_icmp_ge C 121 (by omega) (by omega) dX5_spread_65 (by decide) (fun h_9 => ?_) (fun h_9 => ?_)
                ·
                  have heq_i : np = i := by omega
                  subst heq_i
                  refine x_lload C dX5_spread_121 4 rfl ?_
                  refine x_lload C dX5_spread_123 7 rfl ?_
                  refine x_lcmp C dX5_spread_125 ?_
                  refine x_if_ne C 137 dX5_spread_126 (by decide) (fun h_10 => ?_) (fun h_10 => ?_)
                  ·
                    have hch : ¬ (spS rw9 (allof (nI nw)) E9 P9 np).1 = E9 ∨ ¬ (spS rw9 (allof (nI nw)) E9 P9 np).2 = P9 := Or.inl (fun q9 => h_10 ((lg_cmp_eq _ _).mpr q9))
                    refine x_iconst C (nI 1) dX5_spread_137 (by decide +kernel) ?_
                    refine x_goto C 142 dX5_spread_138 (by decide) ?_
                    refine x_istore C [(10, .int (nI 1)), (0, .ref yo), (1, .int (nI 0)), (2, .int (nI ti9)), (3, .ref q), (4, .long ((spS rw9 (allof (nI nw)) E9 P9 np).1)), (6, .long ((spS rw9 (allof (nI nw)) E9 P9 np).2)), (8, .long (allof (nI nw))), (11, .long E9), (13, .long P9), (15, .int (nI np))] dX5_spread_142 (by decide) rfl ?_
                    refine x_goto C 41 dX5_spread_144 (by decide) ?_
                    refine x_lv [(0, .ref yo), (1, .int (nI 0)), (2, .int (nI ti9)), (3, .ref q), (4, .long ((spS rw9 (allof (nI nw)) E9 P9 np).1)), (6, .long ((spS rw9 (allof (nI nw)) E9 P9 np).2)), (8, .long (allof (nI nw))), (10, .int (nI 1))] [1, 2, 3, 4, 5, 6, 7, 0] rfl ?_
                    exact ih_LW_3 ((spS rw9 (allof (nI nw)) E9 P9 np).1) ((spS rw9 (allof (nI nw)) E9 P9 np).2) 1 (by omega) (by exact spS_ok hnw hnp rfl hok np (Nat.le_refl _)) (by exact ldP_sub hnw (by omega) hti) (by first | (intro q; omega) | (intro _; rw [show ((spS rw9 (allof (nI nw)) E9 P9 np).1, (spS rw9 (allof (nI nw)) E9 P9 np).2) = (E9, P9) from Prod.ext hun1 hun2]; exact spS_cl hnw hnp hun1 hun2)) (by first | (have hc9 := crd_lt (rows := rw9) (al := allof (nI nw)) (a := E9) (b := P9) (n := np) hch; have hc8 := crd_le (spS rw9 (allof (nI nw)) E9 P9 np); have hc7 : crd ((spS rw9 (allof (nI nw)) E9 P9 np).1, (spS rw9 (allof (nI nw)) E9 P9 np).2) = crd (spS rw9 (allof (nI nw)) E9 P9 np) := rfl; omega) | (rw [show ((spS rw9 (allof (nI nw)) E9 P9 np).1, (spS rw9 (allof (nI nw)) E9 P9 np).2) = (E9, P9) from Prod.ext hun1 hun2]; omega))
                  ·
                    have hun1 := (lg_cmp_eq _ _).mp h_10
                    refine x_lload C dX5_spread_129 5 rfl ?_
                    refine x_lload C dX5_spread_131 8 rfl ?_
                    refine x_lcmp C dX5_spread_133 ?_
                    refine x_if_eq C 141 dX5_spread_134 (by decide) (fun h_11 => ?_) (fun h_11 => ?_)
                    ·
                      have hun2 := (lg_cmp_eq _ _).mp h_11
                      refine x_iconst C (nI 0) dX5_spread_141 (by decide +kernel) ?_
                      refine x_istore C [(10, .int (nI 0)), (0, .ref yo), (1, .int (nI 0)), (2, .int (nI ti9)), (3, .ref q), (4, .long ((spS rw9 (allof (nI nw)) E9 P9 np).1)), (6, .long ((spS rw9 (allof (nI nw)) E9 P9 np).2)), (8, .long (allof (nI nw))), (11, .long E9), (13, .long P9), (15, .int (nI np))] dX5_spread_142 (by decide) rfl ?_
                      refine x_goto C 41 dX5_spread_144 (by decide) ?_
                      refine x_lv [(0, .ref yo), (1, .int (nI 0)), (2, .int (nI ti9)), (3, .ref q), (4, .long ((spS rw9 (allof (nI nw)) E9 P9 np).1)), (6, .long ((spS rw9 (allof (nI nw)) E9 P9 np).2)), (8, .long (allof (nI nw))), (10, .int (nI 0))] [1, 2, 3, 4, 5, 6, 7, 0] rfl ?_
                      exact ih_LW_3 ((spS rw9 (allof (nI nw)) E9 P9 np).1) ((spS rw9 (allof (nI nw)) E9 P9 np).2) 0 (by omega) (by exact spS_ok hnw hnp rfl hok np (Nat.le_refl _)) (by exact ldP_sub hnw (by omega) hti) (by first | (intro q; omega) | (intro _; rw [show ((spS rw9 (allof (nI nw)) E9 P9 np).1, (spS rw9 (allof (nI nw)) E9 P9 np).2) = (E9, P9) from Prod.ext hun1 hun2]; exact spS_cl hnw hnp hun1 hun2)) (by first | (have hc9 := crd_lt (rows := rw9) (al := allof (nI nw)) (a := E9) (b := P9) (n := np) hch; have hc8 := crd_le (spS rw9 (allof (nI nw)) E9 P9 np); have hc7 : crd ((spS rw9 (allof (nI nw)) E9 P9 np).1, (spS rw9 (allof (nI nw)) E9 P9 np).2) = crd (spS rw9 (allof (nI nw)) E9 P9 np) := rfl; omega) | (rw [show ((spS rw9 (allof (nI nw)) E9 P9 np).1, (spS rw9 (allof (nI nw)) E9 P9 np).2) = (E9, P9) from Prod.ext hun1 hun2]; omega))
                    ·
                      have hch : ¬ (spS rw9 (allof (nI nw)) E9 P9 np).1 = E9 ∨ ¬ (spS rw9 (allof (nI nw)) E9 P9 np).2 = P9 := Or.inr (fun q9 => h_11 ((lg_cmp_eq _ _).mpr q9))
                      refine x_iconst C (nI 1) dX5_spread_137 (by decide +kernel) ?_
                      refine x_goto C 142 dX5_spread_138 (by decide) ?_
                      refine x_istore C [(10, .int (nI 1)), (0, .ref yo), (1, .int (nI 0)), (2, .int (nI ti9)), (3, .ref q), (4, .long ((spS rw9 (allof (nI nw)) E9 P9 np).1)), (6, .long ((spS rw9 (allof (nI nw)) E9 P9 np).2)), (8, .long (allof (nI nw))), (11, .long E9), (13, .long P9), (15, .int (nI np))] dX5_spread_142 (by decide) rfl ?_
                      refine x_goto C 41 dX5_spread_144 (by decide) ?_
                      refine x_lv [(0, .ref yo), (1, .int (nI 0)), (2, .int (nI ti9)), (3, .ref q), (4, .long ((spS rw9 (allof (nI nw)) E9 P9 np).1)), (6, .long ((spS rw9 (allof (nI nw)) E9 P9 np).2)), (8, .long (allof (nI nw))), (10, .int (nI 1))] [1, 2, 3, 4, 5, 6, 7, 0] rfl ?_
                      exact ih_LW_3 ((spS rw9 (allof (nI nw)) E9 P9 np).1) ((spS rw9 (allof (nI nw)) E9 P9 np).2) 1 (by omega) (by exact spS_ok hnw hnp rfl hok np (Nat.le_refl _)) (by exact ldP_sub hnw (by omega) hti) (by first | (intro q; omega) | (intro _; rw [show ((spS rw9 (allof (nI nw)) E9 P9 np).1, (spS rw9 (allof (nI nw)) E9 P9 np).2) = (E9, P9) from Prod.ext hun1 hun2]; exact spS_cl hnw hnp hun1 hun2)) (by first | (have hc9 := crd_lt (rows := rw9) (al := allof (nI nw)) (a := E9) (b := P9) (n := np) hch; have hc8 := crd_le (spS rw9 (allof (nI nw)) E9 P9 np); have hc7 : crd ((spS rw9 (allof (nI nw)) E9 P9 np).1, (spS rw9 (allof (nI nw)) E9 P9 np).2) = crd (spS rw9 (allof (nI nw)) E9 P9 np) := rfl; omega) | (rw [show ((spS rw9 (allof (nI nw)) E9 P9 np).1, (spS rw9 (allof (nI nw)) E9 P9 np).2) = (E9, P9) from Prod.ext hun1 hun2]; omega))
                ·
                  refine x_aload_n C dX5_spread_68 rfl 3 rfl ?_
                  refine x_iload C dX5_spread_69 9 rfl ?_
                  refine x_lald C hK 2 1 rfl hJ (by omega) (by omega) dX5_spread_71 ?_
                  refine x_lload C dX5_spread_72 4 rfl ?_
                  refine x_land C _ dX5_spread_74 rfl ?_
                  refine x_lconst C (0 : Int64) dX5_spread_75 rfl ?_
                  refine x_lcmp C dX5_spread_76 ?_
                  refine x_if_eq C 89 dX5_spread_77 (by decide) (fun h_12 => ?_) (fun h_12 => ?_)
                  ·
                    have hz1 := (lg_cmp_eq _ _).mp h_12
                    refine x_lload C dX5_spread_89 5 rfl ?_
                    refine x_iload C dX5_spread_91 9 rfl ?_
                    refine x_calli (x_runS C hK hNW (c_m_has l D tys cI cJ cA hI hJ hR ((spS rw9 (allof (nI nw)) E9 P9 i).2) (nI i) ) (va_cwS 2 C.2.2.2.2 gX5_spread_X5_has rfl rfl rfl (by decide +kernel) ⟨by decide, by decide⟩) [] rfl (by decide) (st := []) rfl rfl (Nat.le_of_ble_eq_true rfl) dX5_spread_93 ⟨by first | decide | omega | exact (show _ ≤ 1 by omega), by first | decide | omega | exact (show _ ≤ 2 by omega)⟩) hA [] rfl [0, 1, 2] [(yo, OB 5 [.int thr, .int ri, .ref yt, .ref ys, .ref yf, .ref yc, .int (nI co), .int (nI dn), .ref yd]), (ys, AI cI 2 (sz2 nw np)), (q, AJ cJ np rw9)] rfl (by decide) (by decide) [0, 1, 2] (by decide) (wf := (fun (u : Unit) => [(yo, OB 5 [.int thr, .int ri, .ref yt, .ref ys, .ref yf, .ref yc, .int (nI co), .int (nI dn), .ref yd]), (ys, AI cI 2 (sz2 nw np)), (q, AJ cJ np rw9)])) (fun _ => rfl) (fun r_13 u h_14 => ?_)
                    subst h_14
                    refine x_if_eq C 115 dX5_spread_96 (by decide) (fun h_15 => ?_) (fun h_15 => ?_)
                    ·
                      have hz2 := bI_eq0 h_15
                      refine xn_iinc C (i + 1) [(15, .int (nI (i + 1))), (0, .ref yo), (1, .int (nI 0)), (2, .int (nI ti9)), (3, .ref q), (4, .long ((spS rw9 (allof (nI nw)) E9 P9 i).1)), (6, .long ((spS rw9 (allof (nI nw)) E9 P9 i).2)), (8, .long (allof (nI nw))), (11, .long E9), (13, .long P9)] dX5_spread_115 9 rfl (by rw [show Int32.ofInt 1 = nI 1 from by decide +kernel]; exact nI_add _ _) (by decide) rfl ?_
                      refine x_goto C 57 dX5_spread_118 (by decide) ?_
                      refine x_lv [(0, .ref yo), (1, .int (nI 0)), (2, .int (nI ti9)), (3, .ref q), (4, .long ((spS rw9 (allof (nI nw)) E9 P9 (i + 1)).1)), (6, .long ((spS rw9 (allof (nI nw)) E9 P9 (i + 1)).2)), (8, .long (allof (nI nw))), (11, .long E9), (13, .long P9), (15, .int (nI (i + 1)))] [1, 2, 3, 4, 5, 6, 7, 8, 9, 0] (by rw [show (spS rw9 (allof (nI nw)) E9 P9 (i + 1)).1 = (spS rw9 (allof (nI nw)) E9 P9 i).1 from by first | rw [sp_yy hz1 hz2] | rw [sp_yn hz1 hz2] | rw [sp_ny hz1 hz2] | rw [sp_nn hz1 hz2], show (spS rw9 (allof (nI nw)) E9 P9 (i + 1)).2 = (spS rw9 (allof (nI nw)) E9 P9 i).2 from by first | rw [sp_yy hz1 hz2] | rw [sp_yn hz1 hz2] | rw [sp_ny hz1 hz2] | rw [sp_nn hz1 hz2]]; rfl) ?_
                      exact ih_LP_7 (i + 1) (by first | assumption | omega) (by omega)
                    ·
                      have hz2 := bI_ne0 h_15
                      refine x_lload C dX5_spread_99 4 rfl ?_
                      refine x_lload C dX5_spread_101 6 rfl ?_
                      refine x_aload_n C dX5_spread_103 rfl 3 rfl ?_
                      refine x_iload C dX5_spread_104 9 rfl ?_
                      refine x_lald C hK 2 1 rfl hJ (by omega) (by omega) dX5_spread_106 ?_
                      refine x_ldc2 C (-1) (by decide +kernel) dX5_spread_107 ?_
                      refine x_lxor C _ dX5_spread_110 rfl ?_
                      refine x_land C _ dX5_spread_111 rfl ?_
                      refine x_lor C _ dX5_spread_112 rfl ?_
                      refine x_lstore C [(4, .long (((spS rw9 (allof (nI nw)) E9 P9 i).1) ||| ((allof (nI nw)) &&& ((rw9 i) ^^^ (-1))))), (0, .ref yo), (1, .int (nI 0)), (2, .int (nI ti9)), (3, .ref q), (6, .long ((spS rw9 (allof (nI nw)) E9 P9 i).2)), (8, .long (allof (nI nw))), (11, .long E9), (13, .long P9), (15, .int (nI i))] dX5_spread_113 (by decide) rfl ?_
                      refine xn_iinc C (i + 1) [(15, .int (nI (i + 1))), (4, .long (((spS rw9 (allof (nI nw)) E9 P9 i).1) ||| ((allof (nI nw)) &&& ((rw9 i) ^^^ (-1))))), (0, .ref yo), (1, .int (nI 0)), (2, .int (nI ti9)), (3, .ref q), (6, .long ((spS rw9 (allof (nI nw)) E9 P9 i).2)), (8, .long (allof (nI nw))), (11, .long E9), (13, .long P9)] dX5_spread_115 9 rfl (by rw [show Int32.ofInt 1 = nI 1 from by decide +kernel]; exact nI_add _ _) (by decide) rfl ?_
                      refine x_goto C 57 dX5_spread_118 (by decide) ?_
                      refine x_lv [(0, .ref yo), (1, .int (nI 0)), (2, .int (nI ti9)), (3, .ref q), (4, .long ((spS rw9 (allof (nI nw)) E9 P9 (i + 1)).1)), (6, .long ((spS rw9 (allof (nI nw)) E9 P9 (i + 1)).2)), (8, .long (allof (nI nw))), (11, .long E9), (13, .long P9), (15, .int (nI (i + 1)))] [2, 3, 4, 5, 1, 6, 7, 8, 9, 0] (by rw [show (spS rw9 (allof (nI nw)) E9 P9 (i + 1)).1 = ((spS rw9 (allof (nI nw)) E9 P9 i).1) ||| ((allof (nI nw)) &&& ((rw9 i) ^^^ (-1))) from by first | rw [sp_yy hz1 hz2] | rw [sp_yn hz1 hz2] | rw [sp_ny hz1 hz2] | rw [sp_nn hz1 hz2], show (spS rw9 (allof (nI nw)) E9 P9 (i + 1)).2 = (spS rw9 (allof (nI nw)) E9 P9 i).2 from by first | rw [sp_yy hz1 hz2] | rw [sp_yn hz1 hz2] | rw [sp_ny hz1 hz2] | rw [sp_nn hz1 hz2]]; rfl) ?_
                      exact ih_LP_7 (i + 1) (by first | assumption | omega) (by omega)
                  ·
                    have hz1 := fun q9 => h_12 ((lg_cmp_eq _ _).mpr q9)
                    refine x_lload C dX5_spread_80 5 rfl ?_
                    refine x_lconst C (1 : Int64) dX5_spread_82 rfl ?_
                    refine x_iload C dX5_spread_83 9 rfl ?_
                    refine x_lshl C _ dX5_spread_85 rfl ?_
                    refine x_lor C _ dX5_spread_86 rfl ?_
                    refine x_lstore C [(6, .long (((spS rw9 (allof (nI nw)) E9 P9 i).2) ||| ((1 : Int64) <<< ((nI i).toInt64 &&& 63)))), (0, .ref yo), (1, .int (nI 0)), (2, .int (nI ti9)), (3, .ref q), (4, .long ((spS rw9 (allof (nI nw)) E9 P9 i).1)), (8, .long (allof (nI nw))), (11, .long E9), (13, .long P9), (15, .int (nI i))] dX5_spread_87 (by decide) rfl ?_
                    refine x_lload C dX5_spread_89 0 rfl ?_
                    refine x_iload C dX5_spread_91 9 rfl ?_
                    refine x_calli (x_runS C hK hNW (c_m_has l D tys cI cJ cA hI hJ hR (((spS rw9 (allof (nI nw)) E9 P9 i).2) ||| ((1 : Int64) <<< ((nI i).toInt64 &&& 63))) (nI i) ) (va_cwS 2 C.2.2.2.2 gX5_spread_X5_has rfl rfl rfl (by decide +kernel) ⟨by decide, by decide⟩) [] rfl (by decide) (st := []) rfl rfl (Nat.le_of_ble_eq_true rfl) dX5_spread_93 ⟨by first | decide | omega | exact (show _ ≤ 1 by omega), by first | decide | omega | exact (show _ ≤ 2 by omega)⟩) hA [] rfl [0, 1, 2] [(yo, OB 5 [.int thr, .int ri, .ref yt, .ref ys, .ref yf, .ref yc, .int (nI co), .int (nI dn), .ref yd]), (ys, AI cI 2 (sz2 nw np)), (q, AJ cJ np rw9)] rfl (by decide) (by decide) [0, 1, 2] (by decide) (wf := (fun (u : Unit) => [(yo, OB 5 [.int thr, .int ri, .ref yt, .ref ys, .ref yf, .ref yc, .int (nI co), .int (nI dn), .ref yd]), (ys, AI cI 2 (sz2 nw np)), (q, AJ cJ np rw9)])) (fun _ => rfl) (fun r_16 u h_17 => ?_)
                    subst h_17
                    refine x_if_eq C 115 dX5_spread_96 (by decide) (fun h_18 => ?_) (fun h_18 => ?_)
                    ·
                      have hz2 := bI_eq0 h_18
                      refine xn_iinc C (i + 1) [(15, .int (nI (i + 1))), (6, .long (((spS rw9 (allof (nI nw)) E9 P9 i).2) ||| ((1 : Int64) <<< ((nI i).toInt64 &&& 63)))), (0, .ref yo), (1, .int (nI 0)), (2, .int (nI ti9)), (3, .ref q), (4, .long ((spS rw9 (allof (nI nw)) E9 P9 i).1)), (8, .long (allof (nI nw))), (11, .long E9), (13, .long P9)] dX5_spread_115 9 rfl (by rw [show Int32.ofInt 1 = nI 1 from by decide +kernel]; exact nI_add _ _) (by decide) rfl ?_
                      refine x_goto C 57 dX5_spread_118 (by decide) ?_
                      refine x_lv [(0, .ref yo), (1, .int (nI 0)), (2, .int (nI ti9)), (3, .ref q), (4, .long ((spS rw9 (allof (nI nw)) E9 P9 (i + 1)).1)), (6, .long ((spS rw9 (allof (nI nw)) E9 P9 (i + 1)).2)), (8, .long (allof (nI nw))), (11, .long E9), (13, .long P9), (15, .int (nI (i + 1)))] [2, 3, 4, 5, 6, 1, 7, 8, 9, 0] (by rw [show (spS rw9 (allof (nI nw)) E9 P9 (i + 1)).1 = (spS rw9 (allof (nI nw)) E9 P9 i).1 from by first | rw [sp_yy hz1 hz2] | rw [sp_yn hz1 hz2] | rw [sp_ny hz1 hz2] | rw [sp_nn hz1 hz2], show (spS rw9 (allof (nI nw)) E9 P9 (i + 1)).2 = ((spS rw9 (allof (nI nw)) E9 P9 i).2) ||| ((1 : Int64) <<< ((nI i).toInt64 &&& 63)) from by first | rw [sp_yy hz1 hz2] | rw [sp_yn hz1 hz2] | rw [sp_ny hz1 hz2] | rw [sp_nn hz1 hz2]]; rfl) ?_
                      exact ih_LP_7 (i + 1) (by first | assumption | omega) (by omega)
                    ·
                      have hz2 := bI_ne0 h_18
                      refine x_lload C dX5_spread_99 5 rfl ?_
                      refine x_lload C dX5_spread_101 6 rfl ?_
                      refine x_aload_n C dX5_spread_103 rfl 4 rfl ?_
                      refine x_iload C dX5_spread_104 9 rfl ?_
                      refine x_lald C hK 2 1 rfl hJ (by omega) (by omega) dX5_spread_106 ?_
                      refine x_ldc2 C (-1) (by decide +kernel) dX5_spread_107 ?_
                      refine x_lxor C _ dX5_spread_110 rfl ?_
                      refine x_land C _ dX5_spread_111 rfl ?_
                      refine x_lor C _ dX5_spread_112 rfl ?_
                      refine x_lstore C [(4, .long (((spS rw9 (allof (nI nw)) E9 P9 i).1) ||| ((allof (nI nw)) &&& ((rw9 i) ^^^ (-1))))), (6, .long (((spS rw9 (allof (nI nw)) E9 P9 i).2) ||| ((1 : Int64) <<< ((nI i).toInt64 &&& 63)))), (0, .ref yo), (1, .int (nI 0)), (2, .int (nI ti9)), (3, .ref q), (8, .long (allof (nI nw))), (11, .long E9), (13, .long P9), (15, .int (nI i))] dX5_spread_113 (by decide) rfl ?_
                      refine xn_iinc C (i + 1) [(15, .int (nI (i + 1))), (4, .long (((spS rw9 (allof (nI nw)) E9 P9 i).1) ||| ((allof (nI nw)) &&& ((rw9 i) ^^^ (-1))))), (6, .long (((spS rw9 (allof (nI nw)) E9 P9 i).2) ||| ((1 : Int64) <<< ((nI i).toInt64 &&& 63)))), (0, .ref yo), (1, .int (nI 0)), (2, .int (nI ti9)), (3, .ref q), (8, .long (allof (nI nw))), (11, .long E9), (13, .long P9)] dX5_spread_115 9 rfl (by rw [show Int32.ofInt 1 = nI 1 from by decide +kernel]; exact nI_add _ _) (by decide) rfl ?_
                      refine x_goto C 57 dX5_spread_118 (by decide) ?_
                      refine x_lv [(0, .ref yo), (1, .int (nI 0)), (2, .int (nI ti9)), (3, .ref q), (4, .long ((spS rw9 (allof (nI nw)) E9 P9 (i + 1)).1)), (6, .long ((spS rw9 (allof (nI nw)) E9 P9 (i + 1)).2)), (8, .long (allof (nI nw))), (11, .long E9), (13, .long P9), (15, .int (nI (i + 1)))] [3, 4, 5, 6, 1, 2, 7, 8, 9, 0] (by rw [show (spS rw9 (allof (nI nw)) E9 P9 (i + 1)).1 = ((spS rw9 (allof (nI nw)) E9 P9 i).1) ||| ((allof (nI nw)) &&& ((rw9 i) ^^^ (-1))) from by first | rw [sp_yy hz1 hz2] | rw [sp_yn hz1 hz2] | rw [sp_ny hz1 hz2] | rw [sp_nn hz1 hz2], show (spS rw9 (allof (nI nw)) E9 P9 (i + 1)).2 = ((spS rw9 (allof (nI nw)) E9 P9 i).2) ||| ((1 : Int64) <<< ((nI i).toInt64 &&& 63)) from by first | rw [sp_yy hz1 hz2] | rw [sp_yn hz1 hz2] | rw [sp_ny hz1 hz2] | rw [sp_nn hz1 hz2]]; rfl) ?_
                      exact ih_LP_7 (i + 1) (by first | assumption | omega) (by omega)
            refine x_lv [(0, .ref yo), (1, .int (nI 0)), (2, .int (nI ti9)), (3, .ref q), (4, .long ((spS rw9 (allof (nI nw)) E9 P9 0).1)), (6, .long ((spS rw9 (allof (nI nw)) E9 P9 0).2)), (8, .long (allof (nI nw))), (11, .long E9), (13, .long P9), (15, .int (nI 0))] [3, 4, 5, 6, 7, 8, 9, 2, 1, 0] (by rw [show (spS rw9 (allof (nI nw)) E9 P9 0).1 = E9 from by rfl, show (spS rw9 (allof (nI nw)) E9 P9 0).2 = P9 from by rfl]; rfl) ?_
            exact LP_7 (np - 0 + 1) 0 (by first | assumption | omega) (Nat.lt_succ_self _)
      refine x_lv [(0, .ref yo), (1, .int (nI 0)), (2, .int (nI ti9)), (3, .ref q), (4, .long (0 : Int64)), (6, .long ((1 : Int64) <<< ((nI ti9).toInt64 &&& 63))), (8, .long (allof (nI nw))), (10, .int (nI 1))] [4, 5, 6, 7, 3, 2, 1, 0] rfl ?_
      exact LW_3 (2 * (128 - crd ((0 : Int64), ((1 : Int64) <<< ((nI ti9).toInt64 &&& 63)))) + 1 + 1) (0 : Int64) ((1 : Int64) <<< ((nI ti9).toInt64 &&& 63)) 1 (by omega) (by exact hst.1) (by exact hst.2) (by intro q; omega) (Nat.lt_succ_self _)
    ·
      exact absurd h_2 (by first | decide | omega)
  ·
    exact absurd h_1 (by first | decide | omega)
abbrev rm_m_leads : Room := { frames := 1, cells := 0, slots := 0, locals := 22 }
set_option maxRecDepth 100000 in
set_option maxHeartbeats 4000000 in
theorem c_m_leads (l : Launch) (D : va_G) (tys : List (ClassId × FieldType)) (cI cJ cA : ClassId) (hI : tys[0]? = some (cI, .int)) (hJ : tys[1]? = some (cJ, .long)) (hR : tys[2]? = some (cA, .array .int)) (yo : Nat) (thr : Int32) (ri : Int32) (yt : Nat) (ys : Nat) (yf : Nat) (yc : Nat) (co : Nat) (dn : Nat) (yd : Nat) (nw : Nat) (np : Nat) (q : Nat) (E9 : Int64) (P9 : Int64) (x9 : Nat) (hnw : nw ≤ 40) (hnp : np ≤ 40) (hx : x9 < nw + np) : MI l yX5_leads wsX5_leads rm_m_leads D tys [.ref yo, .ref q, .int (nI x9)] [(yo, OB 5 [.int thr, .int ri, .ref yt, .ref ys, .ref yf, .ref yc, .int (nI co), .int (nI dn), .ref yd]), (ys, AI cI 2 (sz2 nw np)), (q, AJ cJ 2 (lpA E9 P9))] Unit (fun r (_ : Unit) => r = bI (ldP nw E9 P9 x9)) (fun (_ : Unit) => [(yo, OB 5 [.int thr, .int ri, .ref yt, .ref ys, .ref yf, .ref yc, .int (nI co), .int (nI dn), .ref yd]), (ys, AI cI 2 (sz2 nw np)), (q, AJ cJ 2 (lpA E9 P9))]) 0 0 := by
  intro sz
  refine x_met (cc := cX5_leads) (maxL := 3) (ret := (some .boolean)) (by decide +kernel) rfl (by show _ ≤ _; simp [lg_sl, Value.category]) [(0, .ref yo), (1, .ref q), (2, .int (nI x9))] rfl ?_
  intro p e s m args below meth c Q A H0 C hK hNW hlk hrt hnm hQ hH0 hAA hA
  refine x_iload_n C dX5_leads_0 rfl 2 rfl ?_
  refine x_aload_n C dX5_leads_1 rfl 0 rfl ?_
  refine x_get C hK in_X5_leads_X5 0 rfl rfl 3 (by decide) (by decide +kernel) rfl rfl dX5_leads_2 ?_
  refine x_iconst C (nI 0) dX5_leads_5 (by decide +kernel) ?_
  refine x_iald C hK 1 0 rfl hI (by omega) (by omega) dX5_leads_6 ?_
  refine x_topi (nI nw) rfl ?_
  refine xn_icmp_ge C 20 (by omega) (by omega) dX5_leads_7 (by decide) (fun h_1 => ?_) (fun h_1 => ?_)
  ·
    refine x_aload_n C dX5_leads_20 rfl 1 rfl ?_
    refine x_iconst C (nI 1) dX5_leads_21 (by decide +kernel) ?_
    refine x_lald C hK 2 1 rfl hJ (by omega) (by omega) dX5_leads_22 ?_
    refine x_topl P9 (by rfl) ?_
    refine x_iload_n C dX5_leads_23 rfl 2 rfl ?_
    refine x_aload_n C dX5_leads_24 rfl 0 rfl ?_
    refine x_get C hK in_X5_leads_X5 0 rfl rfl 3 (by decide) (by decide +kernel) rfl rfl dX5_leads_25 ?_
    refine x_iconst C (nI 0) dX5_leads_28 (by decide +kernel) ?_
    refine x_iald C hK 1 0 rfl hI (by omega) (by omega) dX5_leads_29 ?_
    refine x_topi (nI nw) rfl ?_
    refine xn_isub C (by omega) dX5_leads_30 ?_
    refine x_calli (x_runS C hK hNW (c_m_has l D tys cI cJ cA hI hJ hR P9 (nI (x9 - nw)) ) (va_cwS 2 C.2.2.2.2 gX5_leads_X5_has rfl rfl rfl (by decide +kernel) ⟨by decide, by decide⟩) [] rfl (by decide) (st := []) rfl rfl (Nat.le_of_ble_eq_true rfl) dX5_leads_31 ⟨by first | decide | omega | exact (show _ ≤ 0 by omega), by first | decide | omega | exact (show _ ≤ 0 by omega)⟩) hA [] rfl [0, 1, 2] [(yo, OB 5 [.int thr, .int ri, .ref yt, .ref ys, .ref yf, .ref yc, .int (nI co), .int (nI dn), .ref yd]), (ys, AI cI 2 (sz2 nw np)), (q, AJ cJ 2 (lpA E9 P9))] rfl (by decide) (by decide) [0, 1, 2] (by decide) (wf := (fun (u : Unit) => [(yo, OB 5 [.int thr, .int ri, .ref yt, .ref ys, .ref yf, .ref yc, .int (nI co), .int (nI dn), .ref yd]), (ys, AI cI 2 (sz2 nw np)), (q, AJ cJ 2 (lpA E9 P9))])) (fun _ => rfl) (fun r_2 u h_3 => ?_)
    subst h_3
    refine x_zret C hK hlk hrt hQ hH0 hAA () (by exact bI_01 _) ?_ [0, 1, 2] (by decide) rfl (by first | decide | omega) (by first | decide | omega) dX5_leads_34
    unfold ldP; first | (rw [if_pos (by omega)]; done) | (rw [if_neg (by omega)]; done)
  ·
    refine x_aload_n C dX5_leads_10 rfl 1 rfl ?_
    refine x_iconst C (nI 0) dX5_leads_11 (by decide +kernel) ?_
    refine x_lald C hK 2 1 rfl hJ (by omega) (by omega) dX5_leads_12 ?_
    refine x_topl E9 (by rfl) ?_
    refine x_iload_n C dX5_leads_13 rfl 2 rfl ?_
    refine x_calli (x_runS C hK hNW (c_m_has l D tys cI cJ cA hI hJ hR E9 (nI x9) ) (va_cwS 2 C.2.2.2.2 gX5_leads_X5_has rfl rfl rfl (by decide +kernel) ⟨by decide, by decide⟩) [] rfl (by decide) (st := []) rfl rfl (Nat.le_of_ble_eq_true rfl) dX5_leads_14 ⟨by first | decide | omega | exact (show _ ≤ 0 by omega), by first | decide | omega | exact (show _ ≤ 0 by omega)⟩) hA [] rfl [0, 1, 2] [(yo, OB 5 [.int thr, .int ri, .ref yt, .ref ys, .ref yf, .ref yc, .int (nI co), .int (nI dn), .ref yd]), (ys, AI cI 2 (sz2 nw np)), (q, AJ cJ 2 (lpA E9 P9))] rfl (by decide) (by decide) [0, 1, 2] (by decide) (wf := (fun (u : Unit) => [(yo, OB 5 [.int thr, .int ri, .ref yt, .ref ys, .ref yf, .ref yc, .int (nI co), .int (nI dn), .ref yd]), (ys, AI cI 2 (sz2 nw np)), (q, AJ cJ 2 (lpA E9 P9))])) (fun _ => rfl) (fun r_4 u h_5 => ?_)
    subst h_5
    refine x_goto C 34 dX5_leads_17 (by decide) ?_
    refine x_zret C hK hlk hrt hQ hH0 hAA () (by exact bI_01 _) ?_ [0, 1, 2] (by decide) rfl (by first | decide | omega) (by first | decide | omega) dX5_leads_34
    unfold ldP; first | (rw [if_pos (by omega)]; done) | (rw [if_neg (by omega)]; done)
