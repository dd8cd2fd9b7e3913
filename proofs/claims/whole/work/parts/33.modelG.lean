/-! the reference, seventh part; the class made -/
theorem in_X5_layersOf_X5 : ∀ w ∈ wsX50, w ∈ wsX5_layersOf := by decide +kernel
theorem in_X5_layers_X5 : ∀ w ∈ wsX50, w ∈ wsX5_layers := by decide +kernel
theorem in_X5_hangsTogether_X5 : ∀ w ∈ wsX50, w ∈ wsX5_hangsTogether := by decide +kernel
theorem in_X5_init_X5 : ∀ w ∈ wsX50, w ∈ wsX5_init := by decide +kernel
theorem in_X4_init_X0 : ∀ w ∈ wsX00, w ∈ wsX4_init := by decide +kernel
theorem in_X4_init_X1 : ∀ w ∈ wsX10, w ∈ wsX4_init := by decide +kernel
theorem in_X4_init_X2 : ∀ w ∈ wsX20, w ∈ wsX4_init := by decide +kernel
theorem in_X4_init_X3 : ∀ w ∈ wsX30, w ∈ wsX4_init := by decide +kernel
theorem in_X4_init_X4 : ∀ w ∈ wsX40, w ∈ wsX4_init := by decide +kernel
abbrev rm_m_layersOf : Room := { frames := 2, cells := 82, slots := 280, locals := 57 }
set_option maxRecDepth 100000 in
set_option maxHeartbeats 4000000 in
theorem c_m_layersOf (l : Launch) (D : va_G) (tys : List (ClassId × FieldType)) (cI cJ cA : ClassId) (hI : tys[0]? = some (cI, .int)) (hJ : tys[1]? = some (cJ, .long)) (hR : tys[2]? = some (cA, .array .int)) (cW : ClassId) (hB : tys[3]? = some (cW, .array .long)) (yo : Nat) (thr : Int32) (ri : Int32) (yt : Nat) (ys : Nat) (yf : Nat) (yc : Nat) (co : Nat) (dn : Nat) (yd : Nat) (nw : Nat) (np : Nat) (ti : Nat → Int32) (g0 : Nat) (g1 : Nat) (bw : Nat → Int32) (bp : Nat → Int32) (hnw : nw ≤ 40) (hnp : np ≤ 40) (hri : ri = 0 ∨ ri = 1) (hbw : ∀ k, k < nw → ∃ j, j < 8 ∧ bw k = nI j) : MI l yX5_layersOf wsX5_layersOf rm_m_layersOf D tys [.ref yo] [(yo, OB 5 [.int thr, .int ri, .ref yt, .ref ys, .ref yf, .ref yc, .int (nI co), .int (nI dn), .ref yd]), (ys, AI cI 2 (sz2 nw np)), (yt, AI cI 10 ti), (yf, AR cA 2 (gr2 g0 g1)), (g0, AI cI 40 bw), (g1, AI cI 40 bp)] Unit (fun r (_ : Unit) => r = nI (cnB (fun a => cB (ifg (wsB (ldB (wvF ri ti bp bw nw (fun _ => 0) np) nw) (nw + np)) a)) (nw + np))) (fun (_ : Unit) => [(yo, OB 5 [.int thr, .int ri, .ref yt, .ref ys, .ref yf, .ref yc, .int (nI co), .int (nI dn), .ref yd]), (ys, AI cI 2 (sz2 nw np)), (yt, AI cI 10 ti), (yf, AR cA 2 (gr2 g0 g1)), (g0, AI cI 40 bw), (g1, AI cI 40 bp)]) 82 280 := by
  intro sz
  refine x_met (cc := cX5_layersOf) (maxL := 8) (ret := (some .int)) (by decide +kernel) rfl (by show _ ≤ _; simp [lg_sl, Value.category]) [(0, .ref yo)] rfl ?_
  intro p e s m args below meth c Q A H0 C hK hNW hlk hrt hnm hQ hH0 hAA hA
  refine x_aload_n C dX5_layersOf_0 rfl 0 rfl ?_
  refine x_get C hK in_X5_layersOf_X5 0 rfl rfl 3 (by decide) (by decide +kernel) rfl rfl dX5_layersOf_1 ?_
  refine x_iconst C (nI 1) dX5_layersOf_4 (by decide +kernel) ?_
  refine x_iald C hK 1 0 rfl hI (by omega) (by omega) dX5_layersOf_5 ?_
  refine x_topi (nI np) rfl ?_
  refine x_new_long C hK hA (by decide +kernel) 1 hJ (by omega) (by first | decide | omega | exact (show _ ≤ 82 by omega)) (by first | decide | omega | exact (show _ ≤ 280 by omega)) dX5_layersOf_6 (fun q_1 => ?_)
  refine x_widen 1 np (by first | decide | omega) (by first | decide | omega) ?_
  refine x_astore_n C [(1, .ref q_1), (0, .ref yo)] dX5_layersOf_8 rfl (by decide) rfl ?_
  refine x_iconst C (nI 0) dX5_layersOf_9 (by decide +kernel) ?_
  refine x_istore_n C [(2, .int (nI 0)), (1, .ref q_1), (0, .ref yo)] dX5_layersOf_10 rfl (by decide) rfl ?_
  have LRW_2 : ∀ (fuel : Nat) (i : Nat), (i ≤ np) → np - i < fuel → X_ p l e rm_m_layersOf s m args below meth c Q D A H0 8 1 np [(yo, OB 5 [.int thr, .int ri, .ref yt, .ref ys, .ref yf, .ref yc, .int (nI co), .int (nI dn), .ref yd]), (ys, AI cI 2 (sz2 nw np)), (yt, AI cI 10 ti), (yf, AR cA 2 (gr2 g0 g1)), (g0, AI cI 40 bw), (g1, AI cI 40 bp), (q_1, AJ cJ np (wvF ri ti bp bw nw (fun _ => 0) i))] [(0, .ref yo), (1, .ref q_1), (2, .int (nI i))] 11 [] := by
    intro fuel
    induction fuel with
    | zero =>
      intros
      exact absurd (by assumption) (Nat.not_lt_zero _)
    | succ fuel ih_LRW_2 =>
      intro i hi hm_3
      refine x_iload_n C dX5_layersOf_11 rfl 2 rfl ?_
      refine x_aload_n C dX5_layersOf_12 rfl 0 rfl ?_
      refine x_get C hK in_X5_layersOf_X5 0 rfl rfl 3 (by decide) (by decide +kernel) rfl rfl dX5_layersOf_13 ?_
      refine x_iconst C (nI 1) dX5_layersOf_16 (by decide +kernel) ?_
      refine x_iald C hK 1 0 rfl hI (by omega) (by omega) dX5_layersOf_17 ?_
      refine x_topi (nI np) rfl ?_
      refine xn_icmp_ge C 35 (by omega) (by omega) dX5_layersOf_18 (by decide) (fun h_4 => ?_) (fun h_4 => ?_)
      ·
        have heq_i : np = i := by omega
        subst heq_i
        refine x_aload_n C dX5_layersOf_35 rfl 0 rfl ?_
        refine x_get C hK in_X5_layersOf_X5 0 rfl rfl 3 (by decide) (by decide +kernel) rfl rfl dX5_layersOf_36 ?_
        refine x_iconst C (nI 0) dX5_layersOf_39 (by decide +kernel) ?_
        refine x_iald C hK 1 0 rfl hI (by omega) (by omega) dX5_layersOf_40 ?_
        refine x_topi (nI nw) rfl ?_
        refine x_aload_n C dX5_layersOf_41 rfl 0 rfl ?_
        refine x_get C hK in_X5_layersOf_X5 0 rfl rfl 3 (by decide) (by decide +kernel) rfl rfl dX5_layersOf_42 ?_
        refine x_iconst C (nI 1) dX5_layersOf_45 (by decide +kernel) ?_
        refine x_iald C hK 1 0 rfl hI (by omega) (by omega) dX5_layersOf_46 ?_
        refine x_topi (nI np) rfl ?_
        refine xn_iadd C dX5_layersOf_47 ?_
        refine x_istore_n C [(2, .int (nI (nw + np))), (0, .ref yo), (1, .ref q_1)] dX5_layersOf_48 rfl (by decide) rfl ?_
        refine x_iload_n C dX5_layersOf_49 rfl 0 rfl ?_
        refine x_newqL C hK hNW hA (by decide +kernel) 3 hB (by omega) (by first | decide | omega | exact (show _ ≤ 82 by omega)) (by first | decide | omega | exact (show _ ≤ 280 by omega)) dX5_layersOf_50 (fun q_5 => ?_)
        refine x_widen 2 (np + (nw + np)) (by first | decide | omega) (by first | decide | omega) ?_
        refine x_astore_n C [(3, .ref q_5), (2, .int (nI (nw + np))), (0, .ref yo), (1, .ref q_1)] dX5_layersOf_53 rfl (by decide) rfl ?_
        refine x_iconst C (nI 0) dX5_layersOf_54 (by decide +kernel) ?_
        refine x_istore C [(4, .int (nI 0)), (3, .ref q_5), (2, .int (nI (nw + np))), (0, .ref yo), (1, .ref q_1)] dX5_layersOf_55 (by decide) rfl ?_
        refine x_iconst C (nI 0) dX5_layersOf_57 (by decide +kernel) ?_
        refine x_istore C [(5, .int (nI 0)), (4, .int (nI 0)), (3, .ref q_5), (2, .int (nI (nw + np))), (0, .ref yo), (1, .ref q_1)] dX5_layersOf_58 (by decide) rfl ?_
        refine x_ws ([(yo, OB 5 [.int thr, .int ri, .ref yt, .ref ys, .ref yf, .ref yc, .int (nI co), .int (nI dn), .ref yd]), (ys, AI cI 2 (sz2 nw np)), (yt, AI cI 10 ti), (yf, AR cA 2 (gr2 g0 g1)), (g0, AI cI 40 bw), (g1, AI cI 40 bp), (q_1, AJ cJ np (wvF ri ti bp bw nw (fun _ => 0) np)), (q_5, AR cW (nw + np) (spA (fun _ => 0) 0))] ++ spT cJ (fun _ => 0) (fun _ => 0) (fun _ => 0) 0) (by rw [spA_0]; rfl) ?_
        have LT_6 : ∀ (fuel : Nat) (t9 : Nat) (ad : Nat → Nat) (e9 : Nat → Int64) (f9 : Nat → Int64), (t9 ≤ nw + np) → (∀ j, j < t9 → ∀ x, x < nw + np → ldP nw (e9 j) (f9 j) x = gtB (ldB (wvF ri ti bp bw nw (fun _ => 0) np) nw) (nw + np) j x) → nw + np - t9 < fuel → X_ p l e rm_m_layersOf s m args below meth c Q D A H0 8 (2 + t9) (np + (nw + np) + 2 * t9) ([(yo, OB 5 [.int thr, .int ri, .ref yt, .ref ys, .ref yf, .ref yc, .int (nI co), .int (nI dn), .ref yd]), (ys, AI cI 2 (sz2 nw np)), (yt, AI cI 10 ti), (yf, AR cA 2 (gr2 g0 g1)), (g0, AI cI 40 bw), (g1, AI cI 40 bp), (q_1, AJ cJ np (wvF ri ti bp bw nw (fun _ => 0) np)), (q_5, AR cW (nw + np) (spA ad t9))] ++ spT cJ ad e9 f9 t9) [(0, .ref yo), (1, .ref q_1), (2, .int (nI (nw + np))), (3, .ref q_5), (4, .int (nI (cnB (fun a => cB (ifg (wsB (ldB (wvF ri ti bp bw nw (fun _ => 0) np) nw) (nw + np)) a)) t9))), (5, .int (nI t9))] 60 [] := by
          intro fuel
          induction fuel with
          | zero =>
            intros
            exact absurd (by assumption) (Nat.not_lt_zero _)
          | succ fuel ih_LT_6 =>
            intro t9 ad e9 f9 ht hsp hm_7
            refine x_iload C dX5_layersOf_60 5 rfl ?_
            refine x_iload_n C dX5_layersOf_62 rfl 2 rfl ?_
            refine xn_icmp_ge C 194 (by omega) (by omega) dX5_layersOf_63 (by decide) (fun h_8 => ?_) (fun h_8 => ?_)
            ·
              have heq_t : t9 = nw + np := by omega
              subst heq_t
              refine x_iload C dX5_layersOf_194 4 rfl ?_
              refine x_iret C hK hlk hrt hQ hH0 hAA () ?_ [0, 1, 2, 3, 4, 5] (by decide) rfl (by first | decide | omega) (by first | decide | omega) dX5_layersOf_196
              first | rfl | (exact ⟨rfl, rfl⟩) | trivial | assumption | omega
            ·
              refine x_aload_n C dX5_layersOf_66 rfl 3 rfl ?_
              refine x_iload C dX5_layersOf_67 5 rfl ?_
              refine x_aload_n C dX5_layersOf_69 rfl 0 rfl ?_
              refine x_iload C dX5_layersOf_70 5 rfl ?_
              refine x_aload_n C dX5_layersOf_72 rfl 0 rfl ?_
              refine x_get C hK in_X5_layersOf_X5 0 rfl rfl 3 (by decide) (by decide +kernel) rfl rfl dX5_layersOf_73 ?_
              refine x_iconst C (nI 0) dX5_layersOf_76 (by decide +kernel) ?_
              refine x_iald C hK 1 0 rfl hI (by omega) (by omega) dX5_layersOf_77 ?_
              refine x_topi (nI nw) rfl ?_
              refine xn_icmp_ge C 85 (by omega) (by omega) dX5_layersOf_78 (by decide) (fun h_9 => ?_) (fun h_9 => ?_)
              ·
                refine x_iconst C (nI 0) dX5_layersOf_85 (by decide +kernel) ?_
                refine x_iload C dX5_layersOf_86 5 rfl ?_
                refine x_aload_n C dX5_layersOf_88 rfl 0 rfl ?_
                refine x_get C hK in_X5_layersOf_X5 0 rfl rfl 3 (by decide) (by decide +kernel) rfl rfl dX5_layersOf_89 ?_
                refine x_iconst C (nI 0) dX5_layersOf_92 (by decide +kernel) ?_
                refine x_iald C hK 1 0 rfl hI (by omega) (by omega) dX5_layersOf_93 ?_
                refine x_topi (nI nw) rfl ?_
                refine xn_icmp_ge C 102 (by omega) (by omega) dX5_layersOf_94 (by decide) (fun h_10 => ?_) (fun h_10 => ?_)
                ·
                  refine x_iload C dX5_layersOf_102 5 rfl ?_
                  refine x_aload_n C dX5_layersOf_104 rfl 0 rfl ?_
                  refine x_get C hK in_X5_layersOf_X5 0 rfl rfl 3 (by decide) (by decide +kernel) rfl rfl dX5_layersOf_105 ?_
                  refine x_iconst C (nI 0) dX5_layersOf_108 (by decide +kernel) ?_
                  refine x_iald C hK 1 0 rfl hI (by omega) (by omega) dX5_layersOf_109 ?_
                  refine x_topi (nI nw) rfl ?_
                  refine xn_isub C (by omega) dX5_layersOf_110 ?_
                  refine x_aload_n C dX5_layersOf_111 rfl 1 rfl ?_
                  refine x_callr_t (x_runV C hK hNW (c_m_spread0 l D tys cI cJ cA hI hJ hR yo thr ri yt ys yf yc co dn yd nw np q_1 (wvF ri ti bp bw nw (fun _ => 0) np) (t9 - nw) (by first | omega | assumption) (by first | omega | assumption) (by first | omega | assumption)) (cwV 3 C.2.2.2.2 gX5_layersOf_X5_spread rfl rfl rfl (by decide +kernel) ⟨by decide, by decide⟩) [0, 1, 6] rfl (by decide) 0 5 rfl rfl rfl (st := [.int (nI t9), .ref q_5]) rfl rfl (Nat.le_of_ble_eq_true rfl) dX5_layersOf_112 ⟨by first | decide | omega | exact (show _ ≤ 82 by omega), by first | decide | omega | exact (show _ ≤ 280 by omega)⟩) hA [0, 1, 6] rfl rfl [2, 3, 4, 5, 7] [(yt, AI cI 10 ti), (yf, AR cA 2 (gr2 g0 g1)), (g0, AI cI 40 bw), (g1, AI cI 40 bp), (q_5, AR cW (nw + np) (spA ad t9))] rfl (by decide) (by decide) [5, 6, 0, 1, 2, 3, 7, 4, 8] (by decide) (wf := (fun (u : Int64 × Int64) (ra : Nat) => [(yo, OB 5 [.int thr, .int ri, .ref yt, .ref ys, .ref yf, .ref yc, .int (nI co), .int (nI dn), .ref yd]), (ys, AI cI 2 (sz2 nw np)), (yt, AI cI 10 ti), (yf, AR cA 2 (gr2 g0 g1)), (g0, AI cI 40 bw), (g1, AI cI 40 bp), (q_1, AJ cJ np (wvF ri ti bp bw nw (fun _ => 0) np)), (q_5, AR cW (nw + np) (spA ad t9)), (ra, AJ cJ 2 (lpA u.1 u.2))])) (fun _ _ => rfl) (fun u ra_15 h_14 => ?_)
                  obtain ⟨E9_11, P9_12⟩ := u
                  try dsimp only at h_14 ⊢
                  refine x_widen ((2 + t9) + 1) ((np + (nw + np) + 2 * t9) + 2) (by first | decide | omega) (by first | decide | omega) ?_
                  have hs9 : ∀ x, x < nw + np → ldP nw E9_11 P9_12 x = gtB (ldB (wvF ri ti bp bw nw (fun _ => 0) np) nw) (nw + np) t9 x := by
                    first | exact h_14 | (have e7 : nw + (t9 - nw) = t9 := (by omega); intro x8 hx8; rw [h_14 x8 hx8, e7])
                  refine x_aastL C hK hNW 7 8 3 1 rfl hB rfl hJ (by omega) (by omega) dX5_layersOf_115 ([(yo, OB 5 [.int thr, .int ri, .ref yt, .ref ys, .ref yf, .ref yc, .int (nI co), .int (nI dn), .ref yd]), (ys, AI cI 2 (sz2 nw np)), (yt, AI cI 10 ti), (yf, AR cA 2 (gr2 g0 g1)), (g0, AI cI 40 bw), (g1, AI cI 40 bp), (q_1, AJ cJ np (wvF ri ti bp bw nw (fun _ => 0) np)), (q_5, AR cW (nw + np) (va_up (spA ad t9) t9 (some ra_15))), (ra_15, AJ cJ 2 (lpA E9_11 P9_12))] ++ spT cJ ad e9 f9 t9) rfl ?_
                  refine x_tail (X := [(yo, OB 5 [.int thr, .int ri, .ref yt, .ref ys, .ref yf, .ref yc, .int (nI co), .int (nI dn), .ref yd]), (ys, AI cI 2 (sz2 nw np)), (yt, AI cI 10 ti), (yf, AR cA 2 (gr2 g0 g1)), (g0, AI cI 40 bw), (g1, AI cI 40 bp), (q_1, AJ cJ np (wvF ri ti bp bw nw (fun _ => 0) np)), (q_5, AR cW (nw + np) (va_up (spA ad t9) t9 (some ra_15)))]) (T := spT cJ ad e9 f9 t9) (x := (ra_15, AJ cJ 2 (lpA E9_11 P9_12))) ?_
                  refine x_ws ([(yo, OB 5 [.int thr, .int ri, .ref yt, .ref ys, .ref yf, .ref yc, .int (nI co), .int (nI dn), .ref yd]), (ys, AI cI 2 (sz2 nw np)), (yt, AI cI 10 ti), (yf, AR cA 2 (gr2 g0 g1)), (g0, AI cI 40 bw), (g1, AI cI 40 bp), (q_1, AJ cJ np (wvF ri ti bp bw nw (fun _ => 0) np)), (q_5, AR cW (nw + np) (spA (upn ad t9 ra_15) (t9 + 1)))] ++ spT cJ (upn ad t9 ra_15) (vp_updL e9 t9 E9_11) (vp_updL f9 t9 P9_12) (t9 + 1)) (by rw [spA_s, ← spT_s]) ?_
                  have hs8 : ∀ j, j < t9 + 1 → ∀ x, x < nw + np → ldP nw ((vp_updL e9 t9 E9_11) j) ((vp_updL f9 t9 P9_12) j) x = gtB (ldB (wvF ri ti bp bw nw (fun _ => 0) np) nw) (nw + np) j x := by
                    intro j hj x hx
                    by_cases e8 : j = t9
                    · subst e8; rw [pk_uLs, pk_uLs]; exact hs9 x hx
                    · rw [pk_uLn e8, pk_uLn e8]; exact hsp j (by omega) x hx
                  refine x_iconst C (nI 1) dX5_layersOf_116 (by decide +kernel) ?_
                  refine x_istore C [(6, .int (nI 1)), (0, .ref yo), (1, .ref q_1), (2, .int (nI (nw + np))), (3, .ref q_5), (4, .int (nI (cnB (fun a => cB (ifg (wsB (ldB (wvF ri ti bp bw nw (fun _ => 0) np) nw) (nw + np)) a)) t9))), (5, .int (nI t9))] dX5_layersOf_117 (by decide) rfl ?_
                  refine x_iconst C (nI 0) dX5_layersOf_119 (by decide +kernel) ?_
                  refine x_istore C [(7, .int (nI 0)), (6, .int (nI 1)), (0, .ref yo), (1, .ref q_1), (2, .int (nI (nw + np))), (3, .ref q_5), (4, .int (nI (cnB (fun a => cB (ifg (wsB (ldB (wvF ri ti bp bw nw (fun _ => 0) np) nw) (nw + np)) a)) t9))), (5, .int (nI t9))] dX5_layersOf_120 (by decide) rfl ?_
                  have LI_16 : ∀ (fuel : Nat) (o9 : Nat) (ad2 : Nat → Nat) (e2 : Nat → Int64) (f2 : Nat → Int64), (o9 ≤ t9) → (∀ j, j < t9 + 1 → ∀ x, x < nw + np → ldP nw (e2 j) (f2 j) x = gtB (ldB (wvF ri ti bp bw nw (fun _ => 0) np) nw) (nw + np) j x) → t9 - o9 < fuel → X_ p l e rm_m_layersOf s m args below meth c Q D A H0 8 ((2 + t9) + 1) ((np + (nw + np) + 2 * t9) + 2) ([(yo, OB 5 [.int thr, .int ri, .ref yt, .ref ys, .ref yf, .ref yc, .int (nI co), .int (nI dn), .ref yd]), (ys, AI cI 2 (sz2 nw np)), (yt, AI cI 10 ti), (yf, AR cA 2 (gr2 g0 g1)), (g0, AI cI 40 bw), (g1, AI cI 40 bp), (q_1, AJ cJ np (wvF ri ti bp bw nw (fun _ => 0) np)), (q_5, AR cW (nw + np) (spA ad2 (t9 + 1)))] ++ spT cJ ad2 e2 f2 (t9 + 1)) [(0, .ref yo), (1, .ref q_1), (2, .int (nI (nw + np))), (3, .ref q_5), (4, .int (nI (cnB (fun a => cB (ifg (wsB (ldB (wvF ri ti bp bw nw (fun _ => 0) np) nw) (nw + np)) a)) t9))), (5, .int (nI t9)), (6, .int (bI (cB (ifgI (wsB (ldB (wvF ri ti bp bw nw (fun _ => 0) np) nw) (nw + np)) t9 o9)))), (7, .int (nI o9))] 122 [] := by
                    intro fuel
                    induction fuel with
                    | zero =>
                      intros
                      exact absurd (by assumption) (Nat.not_lt_zero _)
                    | succ fuel ih_LI_16 =>
                      intro o9 ad2 e2 f2 ho hsp2 hm_17
                      refine x_iload C dX5_layersOf_122 7 rfl ?_
                      refine x_iload C dX5_layersOf_124 5 rfl ?_
                      refine xn_icmp_ge C 173 (by omega) (by omega) dX5_layersOf_126 (by decide) (fun h_18 => ?_) (fun h_18 => ?_)
                      ·
                        have heq_o9 : t9 = o9 := by omega
                        subst heq_o9
                        refine x_iload C dX5_layersOf_173 4 rfl ?_
                        refine x_iload C dX5_layersOf_175 6 rfl ?_
                        refine x_if_eq C 184 dX5_layersOf_177 (by decide) (fun h_19 => ?_) (fun h_19 => ?_)
                        ·
                          have hg9 : (fun a => cB (ifg (wsB (ldB (wvF ri ti bp bw nw (fun _ => 0) np) nw) (nw + np)) a)) t9 = false := bI_eq0 h_19
                          refine x_iconst C (nI 0) dX5_layersOf_184 (by decide +kernel) ?_
                          refine xn_iadd C dX5_layersOf_185 ?_
                          refine x_istore C [(4, .int (nI ((cnB (fun a => cB (ifg (wsB (ldB (wvF ri ti bp bw nw (fun _ => 0) np) nw) (nw + np)) a)) t9) + 0))), (0, .ref yo), (1, .ref q_1), (2, .int (nI (nw + np))), (3, .ref q_5), (5, .int (nI t9)), (6, .int (bI (cB (ifgI (wsB (ldB (wvF ri ti bp bw nw (fun _ => 0) np) nw) (nw + np)) t9 t9)))), (7, .int (nI t9))] dX5_layersOf_186 (by decide) rfl ?_
                          refine xn_iinc C (t9 + 1) [(5, .int (nI (t9 + 1))), (4, .int (nI ((cnB (fun a => cB (ifg (wsB (ldB (wvF ri ti bp bw nw (fun _ => 0) np) nw) (nw + np)) a)) t9) + 0))), (0, .ref yo), (1, .ref q_1), (2, .int (nI (nw + np))), (3, .ref q_5), (6, .int (bI (cB (ifgI (wsB (ldB (wvF ri ti bp bw nw (fun _ => 0) np) nw) (nw + np)) t9 t9)))), (7, .int (nI t9))] dX5_layersOf_188 5 rfl (by rw [show Int32.ofInt 1 = nI 1 from by decide +kernel]; exact nI_add _ _) (by decide) rfl ?_
                          refine x_goto C 60 dX5_layersOf_191 (by decide) ?_
                          refine x_lv [(0, .ref yo), (1, .ref q_1), (2, .int (nI (nw + np))), (3, .ref q_5), (4, .int (nI (cnB (fun a => cB (ifg (wsB (ldB (wvF ri ti bp bw nw (fun _ => 0) np) nw) (nw + np)) a)) (t9 + 1)))), (5, .int (nI (t9 + 1)))] [2, 3, 4, 5, 1, 0] (by rw [show cnB (fun a => cB (ifg (wsB (ldB (wvF ri ti bp bw nw (fun _ => 0) np) nw) (nw + np)) a)) (t9 + 1) = (cnB (fun a => cB (ifg (wsB (ldB (wvF ri ti bp bw nw (fun _ => 0) np) nw) (nw + np)) a)) t9) + 0 from by first | exact cnB_y hg9 | exact cnB_n hg9]; rfl) ?_
                          refine x_widen (2 + (t9 + 1)) (np + (nw + np) + 2 * (t9 + 1)) (by first | decide | omega) (by first | decide | omega) ?_
                          exact ih_LT_6 (t9 + 1) ad2 e2 f2 (by first | assumption | omega) (by exact hsp2) (by omega)
                        ·
                          have hg9 : (fun a => cB (ifg (wsB (ldB (wvF ri ti bp bw nw (fun _ => 0) np) nw) (nw + np)) a)) t9 = true := bI_ne0 h_19
                          refine x_iconst C (nI 1) dX5_layersOf_180 (by decide +kernel) ?_
                          refine x_goto C 185 dX5_layersOf_181 (by decide) ?_
                          refine xn_iadd C dX5_layersOf_185 ?_
                          refine x_istore C [(4, .int (nI ((cnB (fun a => cB (ifg (wsB (ldB (wvF ri ti bp bw nw (fun _ => 0) np) nw) (nw + np)) a)) t9) + 1))), (0, .ref yo), (1, .ref q_1), (2, .int (nI (nw + np))), (3, .ref q_5), (5, .int (nI t9)), (6, .int (bI (cB (ifgI (wsB (ldB (wvF ri ti bp bw nw (fun _ => 0) np) nw) (nw + np)) t9 t9)))), (7, .int (nI t9))] dX5_layersOf_186 (by decide) rfl ?_
                          refine xn_iinc C (t9 + 1) [(5, .int (nI (t9 + 1))), (4, .int (nI ((cnB (fun a => cB (ifg (wsB (ldB (wvF ri ti bp bw nw (fun _ => 0) np) nw) (nw + np)) a)) t9) + 1))), (0, .ref yo), (1, .ref q_1), (2, .int (nI (nw + np))), (3, .ref q_5), (6, .int (bI (cB (ifgI (wsB (ldB (wvF ri ti bp bw nw (fun _ => 0) np) nw) (nw + np)) t9 t9)))), (7, .int (nI t9))] dX5_layersOf_188 5 rfl (by rw [show Int32.ofInt 1 = nI 1 from by decide +kernel]; exact nI_add _ _) (by decide) rfl ?_
                          refine x_goto C 60 dX5_layersOf_191 (by decide) ?_
                          refine x_lv [(0, .ref yo), (1, .ref q_1), (2, .int (nI (nw + np))), (3, .ref q_5), (4, .int (nI (cnB (fun a => cB (ifg (wsB (ldB (wvF ri ti bp bw nw (fun _ => 0) np) nw) (nw + np)) a)) (t9 + 1)))), (5, .int (nI (t9 + 1)))] [2, 3, 4, 5, 1, 0] (by rw [show cnB (fun a => cB (ifg (wsB (ldB (wvF ri ti bp bw nw (fun _ => 0) np) nw) (nw + np)) a)) (t9 + 1) = (cnB (fun a => cB (ifg (wsB (ldB (wvF ri ti bp bw nw (fun _ => 0) np) nw) (nw + np)) a)) t9) + 1 from by first | exact cnB_y hg9 | exact cnB_n hg9]; rfl) ?_
                          refine x_widen (2 + (t9 + 1)) (np + (nw + np) + 2 * (t9 + 1)) (by first | decide | omega) (by first | decide | omega) ?_
                          exact ih_LT_6 (t9 + 1) ad2 e2 f2 (by first | assumption | omega) (by exact hsp2) (by omega)
                      ·
                        refine x_iload C dX5_layersOf_129 6 rfl ?_
                        refine x_if_eq C 164 dX5_layersOf_131 (by decide) (fun h_20 => ?_) (fun h_20 => ?_)
                        ·
                          refine x_iconst C (nI 0) dX5_layersOf_164 (by decide +kernel) ?_
                          refine x_istore C [(6, .int (nI 0)), (0, .ref yo), (1, .ref q_1), (2, .int (nI (nw + np))), (3, .ref q_5), (4, .int (nI (cnB (fun a => cB (ifg (wsB (ldB (wvF ri ti bp bw nw (fun _ => 0) np) nw) (nw + np)) a)) t9))), (5, .int (nI t9)), (7, .int (nI o9))] dX5_layersOf_165 (by decide) rfl ?_
                          refine xn_iinc C (o9 + 1) [(7, .int (nI (o9 + 1))), (6, .int (nI 0)), (0, .ref yo), (1, .ref q_1), (2, .int (nI (nw + np))), (3, .ref q_5), (4, .int (nI (cnB (fun a => cB (ifg (wsB (ldB (wvF ri ti bp bw nw (fun _ => 0) np) nw) (nw + np)) a)) t9))), (5, .int (nI t9))] dX5_layersOf_167 7 rfl (by rw [show Int32.ofInt 1 = nI 1 from by decide +kernel]; exact nI_add _ _) (by decide) rfl ?_
                          refine x_goto C 122 dX5_layersOf_170 (by decide) ?_
                          refine x_lv [(0, .ref yo), (1, .ref q_1), (2, .int (nI (nw + np))), (3, .ref q_5), (4, .int (nI (cnB (fun a => cB (ifg (wsB (ldB (wvF ri ti bp bw nw (fun _ => 0) np) nw) (nw + np)) a)) t9))), (5, .int (nI t9)), (6, .int (bI (cB (ifgI (wsB (ldB (wvF ri ti bp bw nw (fun _ => 0) np) nw) (nw + np)) t9 (o9 + 1))))), (7, .int (nI (o9 + 1)))] [2, 3, 4, 5, 6, 7, 1, 0] (by rw [show bI (cB (ifgI (wsB (ldB (wvF ri ti bp bw nw (fun _ => 0) np) nw) (nw + np)) t9 (o9 + 1))) = nI 0 from by first | exact ifg_k0 (by assumption) | exact ifg_k1 hq1 hq2 | exact ifg_ky (by assumption) (Or.inl hq1) | exact ifg_ky (by assumption) (Or.inr hq2)]; rfl) ?_
                          exact ih_LI_16 (o9 + 1) ad2 e2 f2 (by first | assumption | omega) (by first | assumption | omega) (by omega)
                        ·
                          refine x_aload_n C dX5_layersOf_134 rfl 0 rfl ?_
                          refine x_aload_n C dX5_layersOf_135 rfl 3 rfl ?_
                          refine x_iload C dX5_layersOf_136 5 rfl ?_
                          refine x_aald C hK (r := ad2 t9) 7 3 rfl hB rfl (by omega) (by omega) (by exact if_pos (by omega)) dX5_layersOf_138 ?_
                          refine x_iload C dX5_layersOf_139 7 rfl ?_
                          refine x_calli_ro (x_runV C hK hNW (c_m_leads l D tys cI cJ cA hI hJ hR yo thr ri yt ys yf yc co dn yd nw np (ad2 t9) (e2 t9) (f2 t9) o9 (by first | omega | assumption) (by first | omega | assumption) (by first | omega | assumption)) (cwV 2 C.2.2.2.2 gX5_layersOf_X5_leads rfl rfl rfl (by decide +kernel) ⟨by decide, by decide⟩) [0, 1, 8 + t9] (tl3 rfl (show t9 < t9 + 1 by omega) rfl rfl) (by simp [va_nd] <;> omega) 0 5 rfl rfl rfl (st := []) rfl rfl (Nat.le_of_ble_eq_true rfl) dX5_layersOf_141 ⟨by first | decide | omega | exact (show _ ≤ 82 by omega), by first | decide | omega | exact (show _ ≤ 280 by omega)⟩) hA (fun _ => rfl) [0, 1, 8 + t9] (tl3 rfl (show t9 < t9 + 1 by omega) rfl rfl) (fun r_21 u h_22 => ?_)
                          refine x_widen ((2 + t9) + 1) ((np + (nw + np) + 2 * t9) + 2) (by first | decide | omega) (by first | decide | omega) ?_
                          subst h_22
                          refine x_if_eq C 160 dX5_layersOf_144 (by decide) (fun h_23 => ?_) (fun h_23 => ?_)
                          ·
                            have hq1 : wsB (ldB (wvF ri ti bp bw nw (fun _ => 0) np) nw) (nw + np) t9 o9 = false := (gt_ne (by omega)).symm.trans ((hsp2 t9 (by omega) o9 (by omega)).symm.trans (bI_eq0 h_23))
                            refine x_iconst C (nI 1) dX5_layersOf_160 (by decide +kernel) ?_
                            refine x_goto C 165 dX5_layersOf_161 (by decide) ?_
                            refine x_istore C [(6, .int (nI 1)), (0, .ref yo), (1, .ref q_1), (2, .int (nI (nw + np))), (3, .ref q_5), (4, .int (nI (cnB (fun a => cB (ifg (wsB (ldB (wvF ri ti bp bw nw (fun _ => 0) np) nw) (nw + np)) a)) t9))), (5, .int (nI t9)), (7, .int (nI o9))] dX5_layersOf_165 (by decide) rfl ?_
                            refine xn_iinc C (o9 + 1) [(7, .int (nI (o9 + 1))), (6, .int (nI 1)), (0, .ref yo), (1, .ref q_1), (2, .int (nI (nw + np))), (3, .ref q_5), (4, .int (nI (cnB (fun a => cB (ifg (wsB (ldB (wvF ri ti bp bw nw (fun _ => 0) np) nw) (nw + np)) a)) t9))), (5, .int (nI t9))] dX5_layersOf_167 7 rfl (by rw [show Int32.ofInt 1 = nI 1 from by decide +kernel]; exact nI_add _ _) (by decide) rfl ?_
                            refine x_goto C 122 dX5_layersOf_170 (by decide) ?_
                            refine x_lv [(0, .ref yo), (1, .ref q_1), (2, .int (nI (nw + np))), (3, .ref q_5), (4, .int (nI (cnB (fun a => cB (ifg (wsB (ldB (wvF ri ti bp bw nw (fun _ => 0) np) nw) (nw + np)) a)) t9))), (5, .int (nI t9)), (6, .int (bI (cB (ifgI (wsB (ldB (wvF ri ti bp bw nw (fun _ => 0) np) nw) (nw + np)) t9 (o9 + 1))))), (7, .int (nI (o9 + 1)))] [2, 3, 4, 5, 6, 7, 1, 0] (by rw [show bI (cB (ifgI (wsB (ldB (wvF ri ti bp bw nw (fun _ => 0) np) nw) (nw + np)) t9 (o9 + 1))) = nI 1 from by first | exact ifg_k0 (by assumption) | exact ifg_k1 hq1 hq2 | exact ifg_ky (by assumption) (Or.inl hq1) | exact ifg_ky (by assumption) (Or.inr hq2)]; rfl) ?_
                            exact ih_LI_16 (o9 + 1) ad2 e2 f2 (by first | assumption | omega) (by first | assumption | omega) (by omega)
                          ·
                            have hq1 : wsB (ldB (wvF ri ti bp bw nw (fun _ => 0) np) nw) (nw + np) t9 o9 = true := (gt_ne (by omega)).symm.trans ((hsp2 t9 (by omega) o9 (by omega)).symm.trans (bI_ne0 h_23))
                            refine x_aload_n C dX5_layersOf_147 rfl 0 rfl ?_
                            refine x_aload_n C dX5_layersOf_148 rfl 3 rfl ?_
                            refine x_iload C dX5_layersOf_149 7 rfl ?_
                            refine x_aald C hK (r := ad2 o9) 7 3 rfl hB rfl (by omega) (by omega) (by exact if_pos (by omega)) dX5_layersOf_151 ?_
                            refine x_iload C dX5_layersOf_152 5 rfl ?_
                            refine x_calli_ro (x_runV C hK hNW (c_m_leads l D tys cI cJ cA hI hJ hR yo thr ri yt ys yf yc co dn yd nw np (ad2 o9) (e2 o9) (f2 o9) t9 (by first | omega | assumption) (by first | omega | assumption) (by first | omega | assumption)) (cwV 2 C.2.2.2.2 gX5_layersOf_X5_leads rfl rfl rfl (by decide +kernel) ⟨by decide, by decide⟩) [0, 1, 8 + o9] (tl3 rfl (show o9 < t9 + 1 by omega) rfl rfl) (by simp [va_nd] <;> omega) 0 5 rfl rfl rfl (st := []) rfl rfl (Nat.le_of_ble_eq_true rfl) dX5_layersOf_154 ⟨by first | decide | omega | exact (show _ ≤ 82 by omega), by first | decide | omega | exact (show _ ≤ 280 by omega)⟩) hA (fun _ => rfl) [0, 1, 8 + o9] (tl3 rfl (show o9 < t9 + 1 by omega) rfl rfl) (fun r_24 u h_25 => ?_)
                            refine x_widen ((2 + t9) + 1) ((np + (nw + np) + 2 * t9) + 2) (by first | decide | omega) (by first | decide | omega) ?_
                            subst h_25
                            refine x_if_ne C 164 dX5_layersOf_157 (by decide) (fun h_26 => ?_) (fun h_26 => ?_)
                            ·
                              have hq2 : wsB (ldB (wvF ri ti bp bw nw (fun _ => 0) np) nw) (nw + np) o9 t9 = true := (gt_ne (by omega)).symm.trans ((hsp2 o9 (by omega) t9 (by omega)).symm.trans (bI_ne0 h_26))
                              refine x_iconst C (nI 0) dX5_layersOf_164 (by decide +kernel) ?_
                              refine x_istore C [(6, .int (nI 0)), (0, .ref yo), (1, .ref q_1), (2, .int (nI (nw + np))), (3, .ref q_5), (4, .int (nI (cnB (fun a => cB (ifg (wsB (ldB (wvF ri ti bp bw nw (fun _ => 0) np) nw) (nw + np)) a)) t9))), (5, .int (nI t9)), (7, .int (nI o9))] dX5_layersOf_165 (by decide) rfl ?_
                              refine xn_iinc C (o9 + 1) [(7, .int (nI (o9 + 1))), (6, .int (nI 0)), (0, .ref yo), (1, .ref q_1), (2, .int (nI (nw + np))), (3, .ref q_5), (4, .int (nI (cnB (fun a => cB (ifg (wsB (ldB (wvF ri ti bp bw nw (fun _ => 0) np) nw) (nw + np)) a)) t9))), (5, .int (nI t9))] dX5_layersOf_167 7 rfl (by rw [show Int32.ofInt 1 = nI 1 from by decide +kernel]; exact nI_add _ _) (by decide) rfl ?_
                              refine x_goto C 122 dX5_layersOf_170 (by decide) ?_
                              refine x_lv [(0, .ref yo), (1, .ref q_1), (2, .int (nI (nw + np))), (3, .ref q_5), (4, .int (nI (cnB (fun a => cB (ifg (wsB (ldB (wvF ri ti bp bw nw (fun _ => 0) np) nw) (nw + np)) a)) t9))), (5, .int (nI t9)), (6, .int (bI (cB (ifgI (wsB (ldB (wvF ri ti bp bw nw (fun _ => 0) np) nw) (nw + np)) t9 (o9 + 1))))), (7, .int (nI (o9 + 1)))] [2, 3, 4, 5, 6, 7, 1, 0] (by rw [show bI (cB (ifgI (wsB (ldB (wvF ri ti bp bw nw (fun _ => 0) np) nw) (nw + np)) t9 (o9 + 1))) = nI 0 from by first | exact ifg_k0 (by assumption) | exact ifg_k1 hq1 hq2 | exact ifg_ky (by assumption) (Or.inl hq1) | exact ifg_ky (by assumption) (Or.inr hq2)]; rfl) ?_
                              exact ih_LI_16 (o9 + 1) ad2 e2 f2 (by first | assumption | omega) (by first | assumption | omega) (by omega)
                            ·
                              have hq2 : wsB (ldB (wvF ri ti bp bw nw (fun _ => 0) np) nw) (nw + np) o9 t9 = false := (gt_ne (by omega)).symm.trans ((hsp2 o9 (by omega) t9 (by omega)).symm.trans (bI_eq0 h_26))
                              refine x_iconst C (nI 1) dX5_layersOf_160 (by decide +kernel) ?_
                              refine x_goto C 165 dX5_layersOf_161 (by decide) ?_
                              refine x_istore C [(6, .int (nI 1)), (0, .ref yo), (1, .ref q_1), (2, .int (nI (nw + np))), (3, .ref q_5), (4, .int (nI (cnB (fun a => cB (ifg (wsB (ldB (wvF ri ti bp bw nw (fun _ => 0) np) nw) (nw + np)) a)) t9))), (5, .int (nI t9)), (7, .int (nI o9))] dX5_layersOf_165 (by decide) rfl ?_
                              refine xn_iinc C (o9 + 1) [(7, .int (nI (o9 + 1))), (6, .int (nI 1)), (0, .ref yo), (1, .ref q_1), (2, .int (nI (nw + np))), (3, .ref q_5), (4, .int (nI (cnB (fun a => cB (ifg (wsB (ldB (wvF ri ti bp bw nw (fun _ => 0) np) nw) (nw + np)) a)) t9))), (5, .int (nI t9))] dX5_layersOf_167 7 rfl (by rw [show Int32.ofInt 1 = nI 1 from by decide +kernel]; exact nI_add _ _) (by decide) rfl ?_
                              refine x_goto C 122 dX5_layersOf_170 (by decide) ?_
                              refine x_lv [(0, .ref yo), (1, .ref q_1), (2, .int (nI (nw + np))), (3, .ref q_5), (4, .int (nI (cnB (fun a => cB (ifg (wsB (ldB (wvF ri ti bp bw nw (fun _ => 0) np) nw) (nw + np)) a)) t9))), (5, .int (nI t9)), (6, .int (bI (cB (ifgI (wsB (ldB (wvF ri ti bp bw nw (fun _ => 0) np) nw) (nw + np)) t9 (o9 + 1))))), (7, .int (nI (o9 + 1)))] [2, 3, 4, 5, 6, 7, 1, 0] (by rw [show bI (cB (ifgI (wsB (ldB (wvF ri ti bp bw nw (fun _ => 0) np) nw) (nw + np)) t9 (o9 + 1))) = nI 1 from by first | exact ifg_k0 (by assumption) | exact ifg_k1 hq1 hq2 | exact ifg_ky (by assumption) (Or.inl hq1) | exact ifg_ky (by assumption) (Or.inr hq2)]; rfl) ?_
                              exact ih_LI_16 (o9 + 1) ad2 e2 f2 (by first | assumption | omega) (by first | assumption | omega) (by omega)
                  refine x_lv [(0, .ref yo), (1, .ref q_1), (2, .int (nI (nw + np))), (3, .ref q_5), (4, .int (nI (cnB (fun a => cB (ifg (wsB (ldB (wvF ri ti bp bw nw (fun _ => 0) np) nw) (nw + np)) a)) t9))), (5, .int (nI t9)), (6, .int (bI (cB (ifgI (wsB (ldB (wvF ri ti bp bw nw (fun _ => 0) np) nw) (nw + np)) t9 0)))), (7, .int (nI 0))] [2, 3, 4, 5, 6, 7, 1, 0] (by rw [show bI (cB (ifgI (wsB (ldB (wvF ri ti bp bw nw (fun _ => 0) np) nw) (nw + np)) t9 0)) = nI 1 from by exact ifg_00 _ _]; rfl) ?_
                  exact LI_16 (t9 - 0 + 1) 0 (upn ad t9 ra_15) (vp_updL e9 t9 E9_11) (vp_updL f9 t9 P9_12) (by first | assumption | omega) (by exact hs8) (Nat.lt_succ_self _)
                ·
                  exact False.elim (by omega)
              ·
                refine x_iconst C (nI 1) dX5_layersOf_81 (by decide +kernel) ?_
                refine x_goto C 86 dX5_layersOf_82 (by decide) ?_
                refine x_iload C dX5_layersOf_86 5 rfl ?_
                refine x_aload_n C dX5_layersOf_88 rfl 0 rfl ?_
                refine x_get C hK in_X5_layersOf_X5 0 rfl rfl 3 (by decide) (by decide +kernel) rfl rfl dX5_layersOf_89 ?_
                refine x_iconst C (nI 0) dX5_layersOf_92 (by decide +kernel) ?_
                refine x_iald C hK 1 0 rfl hI (by omega) (by omega) dX5_layersOf_93 ?_
                refine x_topi (nI nw) rfl ?_
                refine xn_icmp_ge C 102 (by omega) (by omega) dX5_layersOf_94 (by decide) (fun h_27 => ?_) (fun h_27 => ?_)
                ·
                  exact False.elim (by omega)
                ·
                  refine x_iload C dX5_layersOf_97 5 rfl ?_
                  refine x_goto C 111 dX5_layersOf_99 (by decide) ?_
                  refine x_aload_n C dX5_layersOf_111 rfl 1 rfl ?_
                  refine x_callr_t (x_runV C hK hNW (c_m_spread1 l D tys cI cJ cA hI hJ hR yo thr ri yt ys yf yc co dn yd nw np q_1 (wvF ri ti bp bw nw (fun _ => 0) np) t9 (by first | omega | assumption) (by first | omega | assumption) (by first | omega | assumption)) (cwV 3 C.2.2.2.2 gX5_layersOf_X5_spread rfl rfl rfl (by decide +kernel) ⟨by decide, by decide⟩) [0, 1, 6] rfl (by decide) 0 5 rfl rfl rfl (st := [.int (nI t9), .ref q_5]) rfl rfl (Nat.le_of_ble_eq_true rfl) dX5_layersOf_112 ⟨by first | decide | omega | exact (show _ ≤ 82 by omega), by first | decide | omega | exact (show _ ≤ 280 by omega)⟩) hA [0, 1, 6] rfl rfl [2, 3, 4, 5, 7] [(yt, AI cI 10 ti), (yf, AR cA 2 (gr2 g0 g1)), (g0, AI cI 40 bw), (g1, AI cI 40 bp), (q_5, AR cW (nw + np) (spA ad t9))] rfl (by decide) (by decide) [5, 6, 0, 1, 2, 3, 7, 4, 8] (by decide) (wf := (fun (u : Int64 × Int64) (ra : Nat) => [(yo, OB 5 [.int thr, .int ri, .ref yt, .ref ys, .ref yf, .ref yc, .int (nI co), .int (nI dn), .ref yd]), (ys, AI cI 2 (sz2 nw np)), (yt, AI cI 10 ti), (yf, AR cA 2 (gr2 g0 g1)), (g0, AI cI 40 bw), (g1, AI cI 40 bp), (q_1, AJ cJ np (wvF ri ti bp bw nw (fun _ => 0) np)), (q_5, AR cW (nw + np) (spA ad t9)), (ra, AJ cJ 2 (lpA u.1 u.2))])) (fun _ _ => rfl) (fun u ra_32 h_31 => ?_)
                  obtain ⟨E9_28, P9_29⟩ := u
                  try dsimp only at h_31 ⊢
                  refine x_widen ((2 + t9) + 1) ((np + (nw + np) + 2 * t9) + 2) (by first | decide | omega) (by first | decide | omega) ?_
                  have hs9 : ∀ x, x < nw + np → ldP nw E9_28 P9_29 x = gtB (ldB (wvF ri ti bp bw nw (fun _ => 0) np) nw) (nw + np) t9 x := by
                    first | exact h_31 | (have e7 : nw + (t9 - nw) = t9 := (by omega); intro x8 hx8; rw [h_31 x8 hx8, e7])
                  refine x_aastL C hK hNW 7 8 3 1 rfl hB rfl hJ (by omega) (by omega) dX5_layersOf_115 ([(yo, OB 5 [.int thr, .int ri, .ref yt, .ref ys, .ref yf, .ref yc, .int (nI co), .int (nI dn), .ref yd]), (ys, AI cI 2 (sz2 nw np)), (yt, AI cI 10 ti), (yf, AR cA 2 (gr2 g0 g1)), (g0, AI cI 40 bw), (g1, AI cI 40 bp), (q_1, AJ cJ np (wvF ri ti bp bw nw (fun _ => 0) np)), (q_5, AR cW (nw + np) (va_up (spA ad t9) t9 (some ra_32))), (ra_32, AJ cJ 2 (lpA E9_28 P9_29))] ++ spT cJ ad e9 f9 t9) rfl ?_
                  refine x_tail (X := [(yo, OB 5 [.int thr, .int ri, .ref yt, .ref ys, .ref yf, .ref yc, .int (nI co), .int (nI dn), .ref yd]), (ys, AI cI 2 (sz2 nw np)), (yt, AI cI 10 ti), (yf, AR cA 2 (gr2 g0 g1)), (g0, AI cI 40 bw), (g1, AI cI 40 bp), (q_1, AJ cJ np (wvF ri ti bp bw nw (fun _ => 0) np)), (q_5, AR cW (nw + np) (va_up (spA ad t9) t9 (some ra_32)))]) (T := spT cJ ad e9 f9 t9) (x := (ra_32, AJ cJ 2 (lpA E9_28 P9_29))) ?_
                  refine x_ws ([(yo, OB 5 [.int thr, .int ri, .ref yt, .ref ys, .ref yf, .ref yc, .int (nI co), .int (nI dn), .ref yd]), (ys, AI cI 2 (sz2 nw np)), (yt, AI cI 10 ti), (yf, AR cA 2 (gr2 g0 g1)), (g0, AI cI 40 bw), (g1, AI cI 40 bp), (q_1, AJ cJ np (wvF ri ti bp bw nw (fun _ => 0) np)), (q_5, AR cW (nw + np) (spA (upn ad t9 ra_32) (t9 + 1)))] ++ spT cJ (upn ad t9 ra_32) (vp_updL e9 t9 E9_28) (vp_updL f9 t9 P9_29) (t9 + 1)) (by rw [spA_s, ← spT_s]) ?_
                  have hs8 : ∀ j, j < t9 + 1 → ∀ x, x < nw + np → ldP nw ((vp_updL e9 t9 E9_28) j) ((vp_updL f9 t9 P9_29) j) x = gtB (ldB (wvF ri ti bp bw nw (fun _ => 0) np) nw) (nw + np) j x := by
                    intro j hj x hx
                    by_cases e8 : j = t9
                    · subst e8; rw [pk_uLs, pk_uLs]; exact hs9 x hx
                    · rw [pk_uLn e8, pk_uLn e8]; exact hsp j (by omega) x hx
                  refine x_iconst C (nI 1) dX5_layersOf_116 (by decide +kernel) ?_
                  refine x_istore C [(6, .int (nI 1)), (0, .ref yo), (1, .ref q_1), (2, .int (nI (nw + np))), (3, .ref q_5), (4, .int (nI (cnB (fun a => cB (ifg (wsB (ldB (wvF ri ti bp bw nw (fun _ => 0) np) nw) (nw + np)) a)) t9))), (5, .int (nI t9))] dX5_layersOf_117 (by decide) rfl ?_
                  refine x_iconst C (nI 0) dX5_layersOf_119 (by decide +kernel) ?_
                  refine x_istore C [(7, .int (nI 0)), (6, .int (nI 1)), (0, .ref yo), (1, .ref q_1), (2, .int (nI (nw + np))), (3, .ref q_5), (4, .int (nI (cnB (fun a => cB (ifg (wsB (ldB (wvF ri ti bp bw nw (fun _ => 0) np) nw) (nw + np)) a)) t9))), (5, .int (nI t9))] dX5_layersOf_120 (by decide) rfl ?_
                  have LI_33 : ∀ (fuel : Nat) (o9 : Nat) (ad2 : Nat → Nat) (e2 : Nat → Int64) (f2 : Nat → Int64), (o9 ≤ t9) → (∀ j, j < t9 + 1 → ∀ x, x < nw + np → ldP nw (e2 j) (f2 j) x = gtB (ldB (wvF ri ti bp bw nw (fun _ => 0) np) nw) (nw + np) j x) → t9 - o9 < fuel → X_ p l e rm_m_layersOf s m args below meth c Q D A H0 8 ((2 + t9) + 1) ((np + (nw + np) + 2 * t9) + 2) ([(yo, OB 5 [.int thr, .int ri, .ref yt, .ref ys, .ref yf, .ref yc, .int (nI co), .int (nI dn), .ref yd]), (ys, AI cI 2 (sz2 nw np)), (yt, AI cI 10 ti), (yf, AR cA 2 (gr2 g0 g1)), (g0, AI cI 40 bw), (g1, AI cI 40 bp), (q_1, AJ cJ np (wvF ri ti bp bw nw (fun _ => 0) np)), (q_5, AR cW (nw + np) (spA ad2 (t9 + 1)))] ++ spT cJ ad2 e2 f2 (t9 + 1)) [(0, .ref yo), (1, .ref q_1), (2, .int (nI (nw + np))), (3, .ref q_5), (4, .int (nI (cnB (fun a => cB (ifg (wsB (ldB (wvF ri ti bp bw nw (fun _ => 0) np) nw) (nw + np)) a)) t9))), (5, .int (nI t9)), (6, .int (bI (cB (ifgI (wsB (ldB (wvF ri ti bp bw nw (fun _ => 0) np) nw) (nw + np)) t9 o9)))), (7, .int (nI o9))] 122 [] := by
                    intro fuel
                    induction fuel with
                    | zero =>
                      intros
                      exact absurd (by assumption) (Nat.not_lt_zero _)
                    | succ fuel ih_LI_33 =>
                      intro o9 ad2 e2 f2 ho hsp2 hm_34
                      refine x_iload C dX5_layersOf_122 7 rfl ?_
                      refine x_iload C dX5_layersOf_124 5 rfl ?_
                      refine xn_icmp_ge C 173 (by omega) (by omega) dX5_layersOf_126 (by decide) (fun h_35 => ?_) (fun h_35 => ?_)
                      ·
                        have heq_o9 : t9 = o9 := by omega
                        subst heq_o9
                        refine x_iload C dX5_layersOf_173 4 rfl ?_
                        refine x_iload C dX5_layersOf_175 6 rfl ?_
                        refine x_if_eq C 184 dX5_layersOf_177 (by decide) (fun h_36 => ?_) (fun h_36 => ?_)
                        ·
                          have hg9 : (fun a => cB (ifg (wsB (ldB (wvF ri ti bp bw nw (fun _ => 0) np) nw) (nw + np)) a)) t9 = false := bI_eq0 h_36
                          refine x_iconst C (nI 0) dX5_layersOf_184 (by decide +kernel) ?_
                          refine xn_iadd C dX5_layersOf_185 ?_
                          refine x_istore C [(4, .int (nI ((cnB (fun a => cB (ifg (wsB (ldB (wvF ri ti bp bw nw (fun _ => 0) np) nw) (nw + np)) a)) t9) + 0))), (0, .ref yo), (1, .ref q_1), (2, .int (nI (nw + np))), (3, .ref q_5), (5, .int (nI t9)), (6, .int (bI (cB (ifgI (wsB (ldB (wvF ri ti bp bw nw (fun _ => 0) np) nw) (nw + np)) t9 t9)))), (7, .int (nI t9))] dX5_layersOf_186 (by decide) rfl ?_
                          refine xn_iinc C (t9 + 1) [(5, .int (nI (t9 + 1))), (4, .int (nI ((cnB (fun a => cB (ifg (wsB (ldB (wvF ri ti bp bw nw (fun _ => 0) np) nw) (nw + np)) a)) t9) + 0))), (0, .ref yo), (1, .ref q_1), (2, .int (nI (nw + np))), (3, .ref q_5), (6, .int (bI (cB (ifgI (wsB (ldB (wvF ri ti bp bw nw (fun _ => 0) np) nw) (nw + np)) t9 t9)))), (7, .int (nI t9))] dX5_layersOf_188 5 rfl (by rw [show Int32.ofInt 1 = nI 1 from by decide +kernel]; exact nI_add _ _) (by decide) rfl ?_
                          refine x_goto C 60 dX5_layersOf_191 (by decide) ?_
                          refine x_lv [(0, .ref yo), (1, .ref q_1), (2, .int (nI (nw + np))), (3, .ref q_5), (4, .int (nI (cnB (fun a => cB (ifg (wsB (ldB (wvF ri ti bp bw nw (fun _ => 0) np) nw) (nw + np)) a)) (t9 + 1)))), (5, .int (nI (t9 + 1)))] [2, 3, 4, 5, 1, 0] (by rw [show cnB (fun a => cB (ifg (wsB (ldB (wvF ri ti bp bw nw (fun _ => 0) np) nw) (nw + np)) a)) (t9 + 1) = (cnB (fun a => cB (ifg (wsB (ldB (wvF ri ti bp bw nw (fun _ => 0) np) nw) (nw + np)) a)) t9) + 0 from by first | exact cnB_y hg9 | exact cnB_n hg9]; rfl) ?_
                          refine x_widen (2 + (t9 + 1)) (np + (nw + np) + 2 * (t9 + 1)) (by first | decide | omega) (by first | decide | omega) ?_
                          exact ih_LT_6 (t9 + 1) ad2 e2 f2 (by first | assumption | omega) (by exact hsp2) (by omega)
                        ·
                          have hg9 : (fun a => cB (ifg (wsB (ldB (wvF ri ti bp bw nw (fun _ => 0) np) nw) (nw + np)) a)) t9 = true := bI_ne0 h_36
                          refine x_iconst C (nI 1) dX5_layersOf_180 (by decide +kernel) ?_
                          refine x_goto C 185 dX5_layersOf_181 (by decide) ?_
                          refine xn_iadd C dX5_layersOf_185 ?_
                          refine x_istore C [(4, .int (nI ((cnB (fun a => cB (ifg (wsB (ldB (wvF ri ti bp bw nw (fun _ => 0) np) nw) (nw + np)) a)) t9) + 1))), (0, .ref yo), (1, .ref q_1), (2, .int (nI (nw + np))), (3, .ref q_5), (5, .int (nI t9)), (6, .int (bI (cB (ifgI (wsB (ldB (wvF ri ti bp bw nw (fun _ => 0) np) nw) (nw + np)) t9 t9)))), (7, .int (nI t9))] dX5_layersOf_186 (by decide) rfl ?_
                          refine xn_iinc C (t9 + 1) [(5, .int (nI (t9 + 1))), (4, .int (nI ((cnB (fun a => cB (ifg (wsB (ldB (wvF ri ti bp bw nw (fun _ => 0) np) nw) (nw + np)) a)) t9) + 1))), (0, .ref yo), (1, .ref q_1), (2, .int (nI (nw + np))), (3, .ref q_5), (6, .int (bI (cB (ifgI (wsB (ldB (wvF ri ti bp bw nw (fun _ => 0) np) nw) (nw + np)) t9 t9)))), (7, .int (nI t9))] dX5_layersOf_188 5 rfl (by rw [show Int32.ofInt 1 = nI 1 from by decide +kernel]; exact nI_add _ _) (by decide) rfl ?_
                          refine x_goto C 60 dX5_layersOf_191 (by decide) ?_
                          refine x_lv [(0, .ref yo), (1, .ref q_1), (2, .int (nI (nw + np))), (3, .ref q_5), (4, .int (nI (cnB (fun a => cB (ifg (wsB (ldB (wvF ri ti bp bw nw (fun _ => 0) np) nw) (nw + np)) a)) (t9 + 1)))), (5, .int (nI (t9 + 1)))] [2, 3, 4, 5, 1, 0] (by rw [show cnB (fun a => cB (ifg (wsB (ldB (wvF ri ti bp bw nw (fun _ => 0) np) nw) (nw + np)) a)) (t9 + 1) = (cnB (fun a => cB (ifg (wsB (ldB (wvF ri ti bp bw nw (fun _ => 0) np) nw) (nw + np)) a)) t9) + 1 from by first | exact cnB_y hg9 | exact cnB_n hg9]; rfl) ?_
                          refine x_widen (2 + (t9 + 1)) (np + (nw + np) + 2 * (t9 + 1)) (by first | decide | omega) (by first | decide | omega) ?_
                          exact ih_LT_6 (t9 + 1) ad2 e2 f2 (by first | assumption | omega) (by exact hsp2) (by omega)
                      ·
                        refine x_iload C dX5_layersOf_129 6 rfl ?_
                        refine x_if_eq C 164 dX5_layersOf_131 (by decide) (fun h_37 => ?_) (fun h_37 => ?_)
                        ·
                          refine x_iconst C (nI 0) dX5_layersOf_164 (by decide +kernel) ?_
                          refine x_istore C [(6, .int (nI 0)), (0, .ref yo), (1, .ref q_1), (2, .int (nI (nw + np))), (3, .ref q_5), (4, .int (nI (cnB (fun a => cB (ifg (wsB (ldB (wvF ri ti bp bw nw (fun _ => 0) np) nw) (nw + np)) a)) t9))), (5, .int (nI t9)), (7, .int (nI o9))] dX5_layersOf_165 (by decide) rfl ?_
                          refine xn_iinc C (o9 + 1) [(7, .int (nI (o9 + 1))), (6, .int (nI 0)), (0, .ref yo), (1, .ref q_1), (2, .int (nI (nw + np))), (3, .ref q_5), (4, .int (nI (cnB (fun a => cB (ifg (wsB (ldB (wvF ri ti bp bw nw (fun _ => 0) np) nw) (nw + np)) a)) t9))), (5, .int (nI t9))] dX5_layersOf_167 7 rfl (by rw [show Int32.ofInt 1 = nI 1 from by decide +kernel]; exact nI_add _ _) (by decide) rfl ?_
                          refine x_goto C 122 dX5_layersOf_170 (by decide) ?_
                          refine x_lv [(0, .ref yo), (1, .ref q_1), (2, .int (nI (nw + np))), (3, .ref q_5), (4, .int (nI (cnB (fun a => cB (ifg (wsB (ldB (wvF ri ti bp bw nw (fun _ => 0) np) nw) (nw + np)) a)) t9))), (5, .int (nI t9)), (6, .int (bI (cB (ifgI (wsB (ldB (wvF ri ti bp bw nw (fun _ => 0) np) nw) (nw + np)) t9 (o9 + 1))))), (7, .int (nI (o9 + 1)))] [2, 3, 4, 5, 6, 7, 1, 0] (by rw [show bI (cB (ifgI (wsB (ldB (wvF ri ti bp bw nw (fun _ => 0) np) nw) (nw + np)) t9 (o9 + 1))) = nI 0 from by first | exact ifg_k0 (by assumption) | exact ifg_k1 hq1 hq2 | exact ifg_ky (by assumption) (Or.inl hq1) | exact ifg_ky (by assumption) (Or.inr hq2)]; rfl) ?_
                          exact ih_LI_33 (o9 + 1) ad2 e2 f2 (by first | assumption | omega) (by first | assumption | omega) (by omega)
                        ·
                          refine x_aload_n C dX5_layersOf_134 rfl 0 rfl ?_
                          refine x_aload_n C dX5_layersOf_135 rfl 3 rfl ?_
                          refine x_iload C dX5_layersOf_136 5 rfl ?_
                          refine x_aald C hK (r := ad2 t9) 7 3 rfl hB rfl (by omega) (by omega) (by exact if_pos (by omega)) dX5_layersOf_138 ?_
                          refine x_iload C dX5_layersOf_139 7 rfl ?_
                          refine x_calli_ro (x_runV C hK hNW (c_m_leads l D tys cI cJ cA hI hJ hR yo thr ri yt ys yf yc co dn yd nw np (ad2 t9) (e2 t9) (f2 t9) o9 (by first | omega | assumption) (by first | omega | assumption) (by first | omega | assumption)) (cwV 2 C.2.2.2.2 gX5_layersOf_X5_leads rfl rfl rfl (by decide +kernel) ⟨by decide, by decide⟩) [0, 1, 8 + t9] (tl3 rfl (show t9 < t9 + 1 by omega) rfl rfl) (by simp [va_nd] <;> omega) 0 5 rfl rfl rfl (st := []) rfl rfl (Nat.le_of_ble_eq_true rfl) dX5_layersOf_141 ⟨by first | decide | omega | exact (show _ ≤ 82 by omega), by first | decide | omega | exact (show _ ≤ 280 by omega)⟩) hA (fun _ => rfl) [0, 1, 8 + t9] (tl3 rfl (show t9 < t9 + 1 by omega) rfl rfl) (fun r_38 u h_39 => ?_)
                          refine x_widen ((2 + t9) + 1) ((np + (nw + np) + 2 * t9) + 2) (by first | decide | omega) (by first | decide | omega) ?_
                          subst h_39
                          refine x_if_eq C 160 dX5_layersOf_144 (by decide) (fun h_40 => ?_) (fun h_40 => ?_)
                          ·
                            have hq1 : wsB (ldB (wvF ri ti bp bw nw (fun _ => 0) np) nw) (nw + np) t9 o9 = false := (gt_ne (by omega)).symm.trans ((hsp2 t9 (by omega) o9 (by omega)).symm.trans (bI_eq0 h_40))
                            refine x_iconst C (nI 1) dX5_layersOf_160 (by decide +kernel) ?_
                            refine x_goto C 165 dX5_layersOf_161 (by decide) ?_
                            refine x_istore C [(6, .int (nI 1)), (0, .ref yo), (1, .ref q_1), (2, .int (nI (nw + np))), (3, .ref q_5), (4, .int (nI (cnB (fun a => cB (ifg (wsB (ldB (wvF ri ti bp bw nw (fun _ => 0) np) nw) (nw + np)) a)) t9))), (5, .int (nI t9)), (7, .int (nI o9))] dX5_layersOf_165 (by decide) rfl ?_
                            refine xn_iinc C (o9 + 1) [(7, .int (nI (o9 + 1))), (6, .int (nI 1)), (0, .ref yo), (1, .ref q_1), (2, .int (nI (nw + np))), (3, .ref q_5), (4, .int (nI (cnB (fun a => cB (ifg (wsB (ldB (wvF ri ti bp bw nw (fun _ => 0) np) nw) (nw + np)) a)) t9))), (5, .int (nI t9))] dX5_layersOf_167 7 rfl (by rw [show Int32.ofInt 1 = nI 1 from by decide +kernel]; exact nI_add _ _) (by decide) rfl ?_
                            refine x_goto C 122 dX5_layersOf_170 (by decide) ?_
                            refine x_lv [(0, .ref yo), (1, .ref q_1), (2, .int (nI (nw + np))), (3, .ref q_5), (4, .int (nI (cnB (fun a => cB (ifg (wsB (ldB (wvF ri ti bp bw nw (fun _ => 0) np) nw) (nw + np)) a)) t9))), (5, .int (nI t9)), (6, .int (bI (cB (ifgI (wsB (ldB (wvF ri ti bp bw nw (fun _ => 0) np) nw) (nw + np)) t9 (o9 + 1))))), (7, .int (nI (o9 + 1)))] [2, 3, 4, 5, 6, 7, 1, 0] (by rw [show bI (cB (ifgI (wsB (ldB (wvF ri ti bp bw nw (fun _ => 0) np) nw) (nw + np)) t9 (o9 + 1))) = nI 1 from by first | exact ifg_k0 (by assumption) | exact ifg_k1 hq1 hq2 | exact ifg_ky (by assumption) (Or.inl hq1) | exact ifg_ky (by assumption) (Or.inr hq2)]; rfl) ?_
                            exact ih_LI_33 (o9 + 1) ad2 e2 f2 (by first | assumption | omega) (by first | assumption | omega) (by omega)
                          ·
                            have hq1 : wsB (ldB (wvF ri ti bp bw nw (fun _ => 0) np) nw) (nw + np) t9 o9 = true := (gt_ne (by omega)).symm.trans ((hsp2 t9 (by omega) o9 (by omega)).symm.trans (bI_ne0 h_40))
                            refine x_aload_n C dX5_layersOf_147 rfl 0 rfl ?_
                            refine x_aload_n C dX5_layersOf_148 rfl 3 rfl ?_
                            refine x_iload C dX5_layersOf_149 7 rfl ?_
                            refine x_aald C hK (r := ad2 o9) 7 3 rfl hB rfl (by omega) (by omega) (by exact if_pos (by omega)) dX5_layersOf_151 ?_
                            refine x_iload C dX5_layersOf_152 5 rfl ?_
                            refine x_calli_ro (x_runV C hK hNW (c_m_leads l D tys cI cJ cA hI hJ hR yo thr ri yt ys yf yc co dn yd nw np (ad2 o9) (e2 o9) (f2 o9) t9 (by first | omega | assumption) (by first | omega | assumption) (by first | omega | assumption)) (cwV 2 C.2.2.2.2 gX5_layersOf_X5_leads rfl rfl rfl (by decide +kernel) ⟨by decide, by decide⟩) [0, 1, 8 + o9] (tl3 rfl (show o9 < t9 + 1 by omega) rfl rfl) (by simp [va_nd] <;> omega) 0 5 rfl rfl rfl (st := []) rfl rfl (Nat.le_of_ble_eq_true rfl) dX5_layersOf_154 ⟨by first | decide | omega | exact (show _ ≤ 82 by omega), by first | decide | omega | exact (show _ ≤ 280 by omega)⟩) hA (fun _ => rfl) [0, 1, 8 + o9] (tl3 rfl (show o9 < t9 + 1 by omega) rfl rfl) (fun r_41 u h_42 => ?_)
                            refine x_widen ((2 + t9) + 1) ((np + (nw + np) + 2 * t9) + 2) (by first | decide | omega) (by first | decide | omega) ?_
                            subst h_42
                            refine x_if_ne C 164 dX5_layersOf_157 (by decide) (fun h_43 => ?_) (fun h_43 => ?_)
                            ·
                              have hq2 : wsB (ldB (wvF ri ti bp bw nw (fun _ => 0) np) nw) (nw + np) o9 t9 = true := (gt_ne (by omega)).symm.trans ((hsp2 o9 (by omega) t9 (by omega)).symm.trans (bI_ne0 h_43))
                              refine x_iconst C (nI 0) dX5_layersOf_164 (by decide +kernel) ?_
                              refine x_istore C [(6, .int (nI 0)), (0, .ref yo), (1, .ref q_1), (2, .int (nI (nw + np))), (3, .ref q_5), (4, .int (nI (cnB (fun a => cB (ifg (wsB (ldB (wvF ri ti bp bw nw (fun _ => 0) np) nw) (nw + np)) a)) t9))), (5, .int (nI t9)), (7, .int (nI o9))] dX5_layersOf_165 (by decide) rfl ?_
                              refine xn_iinc C (o9 + 1) [(7, .int (nI (o9 + 1))), (6, .int (nI 0)), (0, .ref yo), (1, .ref q_1), (2, .int (nI (nw + np))), (3, .ref q_5), (4, .int (nI (cnB (fun a => cB (ifg (wsB (ldB (wvF ri ti bp bw nw (fun _ => 0) np) nw) (nw + np)) a)) t9))), (5, .int (nI t9))] dX5_layersOf_167 7 rfl (by rw [show Int32.ofInt 1 = nI 1 from by decide +kernel]; exact nI_add _ _) (by decide) rfl ?_
                              refine x_goto C 122 dX5_layersOf_170 (by decide) ?_
                              refine x_lv [(0, .ref yo), (1, .ref q_1), (2, .int (nI (nw + np))), (3, .ref q_5), (4, .int (nI (cnB (fun a => cB (ifg (wsB (ldB (wvF ri ti bp bw nw (fun _ => 0) np) nw) (nw + np)) a)) t9))), (5, .int (nI t9)), (6, .int (bI (cB (ifgI (wsB (ldB (wvF ri ti bp bw nw (fun _ => 0) np) nw) (nw + np)) t9 (o9 + 1))))), (7, .int (nI (o9 + 1)))] [2, 3, 4, 5, 6, 7, 1, 0] (by rw [show bI (cB (ifgI (wsB (ldB (wvF ri ti bp bw nw (fun _ => 0) np) nw) (nw + np)) t9 (o9 + 1))) = nI 0 from by first | exact ifg_k0 (by assumption) | exact ifg_k1 hq1 hq2 | exact ifg_ky (by assumption) (Or.inl hq1) | exact ifg_ky (by assumption) (Or.inr hq2)]; rfl) ?_
                              exact ih_LI_33 (o9 + 1) ad2 e2 f2 (by first | assumption | omega) (by first | assumption | omega) (by omega)
                            ·
                              have hq2 : wsB (ldB (wvF ri ti bp bw nw (fun _ => 0) np) nw) (nw + np) o9 t9 = false := (gt_ne (by omega)).symm.trans ((hsp2 o9 (by omega) t9 (by omega)).symm.trans (bI_eq0 h_43))
                              refine x_iconst C (nI 1) dX5_layersOf_160 (by decide +kernel) ?_
                              refine x_goto C 165 dX5_layersOf_161 (by decide) ?_
                              refine x_istore C [(6, .int (nI 1)), (0, .ref yo), (1, .ref q_1), (2, .int (nI (nw + np))), (3, .ref q_5), (4, .int (nI (cnB (fun a => cB (ifg (wsB (ldB (wvF ri ti bp bw nw (fun _ => 0) np) nw) (nw + np)) a)) t9))), (5, .int (nI t9)), (7, .int (nI o9))] dX5_layersOf_165 (by decide) rfl ?_
                              refine xn_iinc C (o9 + 1) [(7, .int (nI (o9 + 1))), (6, .int (nI 1)), (0, .ref yo), (1, .ref q_1), (2, .int (nI (nw + np))), (3, .ref q_5), (4, .int (nI (cnB (fun a => cB (ifg (wsB (ldB (wvF ri ti bp bw nw (fun _ => 0) np) nw) (nw + np)) a)) t9))), (5, .int (nI t9))] dX5_layersOf_167 7 rfl (by rw [show Int32.ofInt 1 = nI 1 from by decide +kernel]; exact nI_add _ _) (by decide) rfl ?_
                              refine x_goto C 122 dX5_layersOf_170 (by decide) ?_
                              refine x_lv [(0, .ref yo), (1, .ref q_1), (2, .int (nI (nw + np))), (3, .ref q_5), (4, .int (nI (cnB (fun a => cB (ifg (wsB (ldB (wvF ri ti bp bw nw (fun _ => 0) np) nw) (nw + np)) a)) t9))), (5, .int (nI t9)), (6, .int (bI (cB (ifgI (wsB (ldB (wvF ri ti bp bw nw (fun _ => 0) np) nw) (nw + np)) t9 (o9 + 1))))), (7, .int (nI (o9 + 1)))] [2, 3, 4, 5, 6, 7, 1, 0] (by rw [show bI (cB (ifgI (wsB (ldB (wvF ri ti bp bw nw (fun _ => 0) np) nw) (nw + np)) t9 (o9 + 1))) = nI 1 from by first | exact ifg_k0 (by assumption) | exact ifg_k1 hq1 hq2 | exact ifg_ky (by assumption) (Or.inl hq1) | exact ifg_ky (by assumption) (Or.inr hq2)]; rfl) ?_
                              exact ih_LI_33 (o9 + 1) ad2 e2 f2 (by first | assumption | omega) (by first | assumption | omega) (by omega)
                  refine x_lv [(0, .ref yo), (1, .ref q_1), (2, .int (nI (nw + np))), (3, .ref q_5), (4, .int (nI (cnB (fun a => cB (ifg (wsB (ldB (wvF ri ti bp bw nw (fun _ => 0) np) nw) (nw + np)) a)) t9))), (5, .int (nI t9)), (6, .int (bI (cB (ifgI (wsB (ldB (wvF ri ti bp bw nw (fun _ => 0) np) nw) (nw + np)) t9 0)))), (7, .int (nI 0))] [2, 3, 4, 5, 6, 7, 1, 0] (by rw [show bI (cB (ifgI (wsB (ldB (wvF ri ti bp bw nw (fun _ => 0) np) nw) (nw + np)) t9 0)) = nI 1 from by exact ifg_00 _ _]; rfl) ?_
                  exact LI_33 (t9 - 0 + 1) 0 (upn ad t9 ra_32) (vp_updL e9 t9 E9_28) (vp_updL f9 t9 P9_29) (by first | assumption | omega) (by exact hs8) (Nat.lt_succ_self _)
        refine x_lv [(0, .ref yo), (1, .ref q_1), (2, .int (nI (nw + np))), (3, .ref q_5), (4, .int (nI (cnB (fun a => cB (ifg (wsB (ldB (wvF ri ti bp bw nw (fun _ => 0) np) nw) (nw + np)) a)) 0))), (5, .int (nI 0))] [4, 5, 3, 2, 1, 0] (by rw [show cnB (fun a => cB (ifg (wsB (ldB (wvF ri ti bp bw nw (fun _ => 0) np) nw) (nw + np)) a)) 0 = 0 from by rfl]; rfl) ?_
        refine x_widen (2 + 0) (np + (nw + np) + 2 * 0) (by first | decide | omega) (by first | decide | omega) ?_
        exact LT_6 (nw + np - 0 + 1) 0 (fun _ => 0) (fun _ => 0) (fun _ => 0) (by first | assumption | omega) (by intro j hj; omega) (Nat.lt_succ_self _)
      ·
        refine x_aload_n C dX5_layersOf_21 rfl 1 rfl ?_
        refine x_iload_n C dX5_layersOf_22 rfl 2 rfl ?_
        refine x_aload_n C dX5_layersOf_23 rfl 0 rfl ?_
        refine x_iload_n C dX5_layersOf_24 rfl 2 rfl ?_
        refine x_calll (x_runV C hK hNW (c_m_above l D tys cI cJ cA hI hJ hR yo thr ri yt ys yf yc co dn yd nw np ti g0 g1 bw bp i (by first | omega | assumption) (by first | omega | assumption) (by first | omega | assumption) (by first | omega | assumption)) (cwV 1 C.2.2.2.2 gX5_layersOf_X5_above rfl rfl rfl (by decide +kernel) ⟨by decide, by decide⟩) [0, 1, 2, 3, 4, 5] rfl (by decide) 0 5 rfl rfl rfl (st := [.int (nI i), .ref q_1]) rfl rfl (Nat.le_of_ble_eq_true rfl) dX5_layersOf_25 ⟨by first | decide | omega | exact (show _ ≤ 82 by omega), by first | decide | omega | exact (show _ ≤ 280 by omega)⟩) hA [0, 1, 2, 3, 4, 5] rfl [6] [(q_1, AJ cJ np (wvF ri ti bp bw nw (fun _ => 0) i))] rfl (by decide) (by decide) [1, 2, 3, 4, 5, 6, 0] (by decide) (wf := (fun (u : Unit) => [(yo, OB 5 [.int thr, .int ri, .ref yt, .ref ys, .ref yf, .ref yc, .int (nI co), .int (nI dn), .ref yd]), (ys, AI cI 2 (sz2 nw np)), (yt, AI cI 10 ti), (yf, AR cA 2 (gr2 g0 g1)), (g0, AI cI 40 bw), (g1, AI cI 40 bp), (q_1, AJ cJ np (wvF ri ti bp bw nw (fun _ => 0) i))])) (fun _ => rfl) (fun r_44 u h_45 => ?_)
        refine x_widen 1 np (by first | decide | omega) (by first | decide | omega) ?_
        subst h_45
        refine x_last C hK 6 1 rfl hJ (by omega) (by omega) [(yo, OB 5 [.int thr, .int ri, .ref yt, .ref ys, .ref yf, .ref yc, .int (nI co), .int (nI dn), .ref yd]), (ys, AI cI 2 (sz2 nw np)), (yt, AI cI 10 ti), (yf, AR cA 2 (gr2 g0 g1)), (g0, AI cI 40 bw), (g1, AI cI 40 bp), (q_1, AJ cJ np (vp_updL (wvF ri ti bp bw nw (fun _ => 0) i) i (mkB (fun y0 => hbit (suA ri ti (bp i)) (bw y0)) nw)))] rfl dX5_layersOf_28 ?_
        refine xn_iinc C (i + 1) [(2, .int (nI (i + 1))), (0, .ref yo), (1, .ref q_1)] dX5_layersOf_29 2 rfl (by rw [show Int32.ofInt 1 = nI 1 from by decide +kernel]; exact nI_add _ _) (by decide) rfl ?_
        refine x_goto C 11 dX5_layersOf_32 (by decide) ?_
        refine x_lv [(0, .ref yo), (1, .ref q_1), (2, .int (nI (i + 1)))] [1, 2, 0] rfl ?_
        refine x_ws [(yo, OB 5 [.int thr, .int ri, .ref yt, .ref ys, .ref yf, .ref yc, .int (nI co), .int (nI dn), .ref yd]), (ys, AI cI 2 (sz2 nw np)), (yt, AI cI 10 ti), (yf, AR cA 2 (gr2 g0 g1)), (g0, AI cI 40 bw), (g1, AI cI 40 bp), (q_1, AJ cJ np (wvF ri ti bp bw nw (fun _ => 0) (i + 1)))] (by rw [wvF_s]; try rfl) ?_
        exact ih_LRW_2 (i + 1) (by first | assumption | omega) (by omega)
  refine x_lv [(0, .ref yo), (1, .ref q_1), (2, .int (nI 0))] [2, 1, 0] rfl ?_
  refine x_ws [(yo, OB 5 [.int thr, .int ri, .ref yt, .ref ys, .ref yf, .ref yc, .int (nI co), .int (nI dn), .ref yd]), (ys, AI cI 2 (sz2 nw np)), (yt, AI cI 10 ti), (yf, AR cA 2 (gr2 g0 g1)), (g0, AI cI 40 bw), (g1, AI cI 40 bp), (q_1, AJ cJ np (wvF ri ti bp bw nw (fun _ => 0) 0))] (by rw [wvF_0]; try rfl) ?_
  exact LRW_2 (np - 0 + 1) 0 (by first | assumption | omega) (Nat.lt_succ_self _)
abbrev rm_m_layers : Room := { frames := 3, cells := 82, slots := 280, locals := 84 }
set_option maxRecDepth 100000 in
set_option maxHeartbeats 4000000 in
theorem c_m_layers (l : Launch) (D : va_G) (tys : List (ClassId × FieldType)) (cI cJ cA : ClassId) (hI : tys[0]? = some (cI, .int)) (hJ : tys[1]? = some (cJ, .long)) (hR : tys[2]? = some (cA, .array .int)) (cW : ClassId) (hB : tys[3]? = some (cW, .array .long)) (yo : Nat) (thr : Int32) (ri : Int32) (yt : Nat) (ys : Nat) (yf : Nat) (yc : Nat) (co : Nat) (dn : Nat) (yd : Nat) (nw : Nat) (np : Nat) (ti : Nat → Int32) (g0 : Nat) (g1 : Nat) (bw : Nat → Int32) (bp : Nat → Int32) (hnw : nw ≤ 40) (hnp : np ≤ 40) (hri : ri = 0 ∨ ri = 1) (hbw : ∀ k, k < nw → ∃ j, j < 8 ∧ bw k = nI j) : MI l yX5_layers wsX5_layers rm_m_layers D tys [.ref yo] [(yo, OB 5 [.int thr, .int ri, .ref yt, .ref ys, .ref yf, .ref yc, .int (nI co), .int (nI dn), .ref yd]), (ys, AI cI 2 (sz2 nw np)), (yt, AI cI 10 ti), (yf, AR cA 2 (gr2 g0 g1)), (g0, AI cI 40 bw), (g1, AI cI 40 bp)] Unit (fun r (_ : Unit) => r = nI (cnB (fun a => cB (ifg (wsB (ldB (wvF ri ti bp bw nw (fun _ => 0) np) nw) (nw + np)) a)) (nw + np))) (fun (_ : Unit) => [(yo, OB 5 [.int (nI 0), .int ri, .ref yt, .ref ys, .ref yf, .ref yc, .int (nI co), .int (nI dn), .ref yd]), (ys, AI cI 2 (sz2 nw np)), (yt, AI cI 10 ti), (yf, AR cA 2 (gr2 g0 g1)), (g0, AI cI 40 bw), (g1, AI cI 40 bp)]) 82 280 := by
  intro sz
  refine x_met (cc := cX5_layers) (maxL := 1) (ret := (some .int)) (by decide +kernel) rfl (by show _ ≤ _; simp [lg_sl, Value.category]) [(0, .ref yo)] rfl ?_
  intro p e s m args below meth c Q A H0 C hK hNW hlk hrt hnm hQ hH0 hAA hA
  refine x_aload_n C dX5_layers_0 rfl 0 rfl ?_
  refine x_iconst C (nI 0) dX5_layers_1 (by decide +kernel) ?_
  refine x_put C hK in_X5_layers_X5 tyX5 tyX5_ok nmX5 0 rfl rfl 0 (by decide) (by decide +kernel) rfl rfl (tyX5_ok 0 (by decide)) rfl rfl (Nat.le_of_ble_eq_true rfl) [(yo, OB 5 [.int (nI 0), .int ri, .ref yt, .ref ys, .ref yf, .ref yc, .int (nI co), .int (nI dn), .ref yd]), (ys, AI cI 2 (sz2 nw np)), (yt, AI cI 10 ti), (yf, AR cA 2 (gr2 g0 g1)), (g0, AI cI 40 bw), (g1, AI cI 40 bp)] rfl dX5_layers_2 ?_
  refine x_aload_n C dX5_layers_5 rfl 0 rfl ?_
  refine x_calli (x_runV C hK hNW (c_m_layersOf l D tys cI cJ cA hI hJ hR cW hB yo (nI 0) ri yt ys yf yc co dn yd nw np ti g0 g1 bw bp (by first | omega | assumption) (by first | omega | assumption) (by first | omega | assumption) (by first | omega | assumption)) (cwV 0 C.2.2.2.2 gX5_layers_X5_layersOf rfl rfl rfl (by decide +kernel) ⟨by decide, by decide⟩) [0, 1, 2, 3, 4, 5] rfl (by decide) 0 5 rfl rfl rfl (st := []) rfl rfl (Nat.le_of_ble_eq_true rfl) dX5_layers_6 ⟨by first | decide | omega | exact (show _ ≤ 82 by omega), by first | decide | omega | exact (show _ ≤ 280 by omega)⟩) hA [0, 1, 2, 3, 4, 5] rfl [] [] rfl (by decide) (by decide) [0, 1, 2, 3, 4, 5] (by decide) (wf := (fun (u : Unit) => [(yo, OB 5 [.int (nI 0), .int ri, .ref yt, .ref ys, .ref yf, .ref yc, .int (nI co), .int (nI dn), .ref yd]), (ys, AI cI 2 (sz2 nw np)), (yt, AI cI 10 ti), (yf, AR cA 2 (gr2 g0 g1)), (g0, AI cI 40 bw), (g1, AI cI 40 bp)])) (fun _ => rfl) (fun r_1 u h_2 => ?_)
  subst h_2
  refine x_iret C hK hlk hrt hQ hH0 hAA () ?_ [0, 1, 2, 3, 4, 5] (by decide) rfl (by first | decide | omega) (by first | decide | omega) dX5_layers_9
  first | rfl | (exact ⟨rfl, rfl⟩) | trivial | assumption | omega
abbrev rm_m_hangsZ : Room := { frames := 0, cells := 0, slots := 0, locals := 0 }
set_option maxRecDepth 100000 in
set_option maxHeartbeats 4000000 in
theorem c_m_hangsZ (l : Launch) (D : va_G) (tys : List (ClassId × FieldType)) (cI cJ cA : ClassId) (hI : tys[0]? = some (cI, .int)) (hJ : tys[1]? = some (cJ, .long)) (hR : tys[2]? = some (cA, .array .int)) (yo : Nat) (thr : Int32) (ri : Int32) (yt : Nat) (ys : Nat) (yf : Nat) (yc : Nat) (co : Nat) (dn : Nat) (yd : Nat) (nw : Nat) (np : Nat) (hnw : nw ≤ 40) (hnp : np ≤ 40) (hz : nw = 0 ∨ np = 0) : MI l yX5_hangsTogether wsX5_hangsTogether rm_m_hangsZ D tys [.ref yo] [(yo, OB 5 [.int thr, .int ri, .ref yt, .ref ys, .ref yf, .ref yc, .int (nI co), .int (nI dn), .ref yd]), (ys, AI cI 2 (sz2 nw np))] Unit (fun r (_ : Unit) => r = nI 0) (fun (_ : Unit) => [(yo, OB 5 [.int (nI 0), .int ri, .ref yt, .ref ys, .ref yf, .ref yc, .int (nI co), .int (nI dn), .ref yd]), (ys, AI cI 2 (sz2 nw np))]) 0 0 := by
  intro sz
  refine x_met (cc := cX5_hangsTogether) (maxL := 1) (ret := (some .boolean)) (by decide +kernel) rfl (by show _ ≤ _; simp [lg_sl, Value.category]) [(0, .ref yo)] rfl ?_
  intro p e s m args below meth c Q A H0 C hK hNW hlk hrt hnm hQ hH0 hAA hA
  refine x_aload_n C dX5_hangsTogether_0 rfl 0 rfl ?_
  refine x_iconst C (nI 0) dX5_hangsTogether_1 (by decide +kernel) ?_
  refine x_put C hK in_X5_hangsTogether_X5 tyX5 tyX5_ok nmX5 0 rfl rfl 0 (by decide) (by decide +kernel) rfl rfl (tyX5_ok 0 (by decide)) rfl rfl (Nat.le_of_ble_eq_true rfl) [(yo, OB 5 [.int (nI 0), .int ri, .ref yt, .ref ys, .ref yf, .ref yc, .int (nI co), .int (nI dn), .ref yd]), (ys, AI cI 2 (sz2 nw np))] rfl dX5_hangsTogether_2 ?_
  refine x_aload_n C dX5_hangsTogether_5 rfl 0 rfl ?_
  refine x_get C hK in_X5_hangsTogether_X5 0 rfl rfl 3 (by decide) (by decide +kernel) rfl rfl dX5_hangsTogether_6 ?_
  refine x_iconst C (nI 0) dX5_hangsTogether_9 (by decide +kernel) ?_
  refine x_iald C hK 1 0 rfl hI (by omega) (by omega) dX5_hangsTogether_10 ?_
  refine x_topi (nI nw) rfl ?_
  refine xn_if_le C 35 (by omega) dX5_hangsTogether_11 (by decide) (fun h_1 => ?_) (fun h_1 => ?_)
  ·
    refine x_iconst C (nI 0) dX5_hangsTogether_35 (by decide +kernel) ?_
    refine x_zret C hK hlk hrt hQ hH0 hAA () (by first | (left; rfl) | (right; rfl) | assumption | (simp; done)) ?_ [0, 1] (by decide) rfl (by first | decide | omega) (by first | decide | omega) dX5_hangsTogether_36
    first | rfl | (exact ⟨rfl, rfl⟩) | trivial | assumption | omega
  ·
    refine x_aload_n C dX5_hangsTogether_14 rfl 0 rfl ?_
    refine x_get C hK in_X5_hangsTogether_X5 0 rfl rfl 3 (by decide) (by decide +kernel) rfl rfl dX5_hangsTogether_15 ?_
    refine x_iconst C (nI 1) dX5_hangsTogether_18 (by decide +kernel) ?_
    refine x_iald C hK 1 0 rfl hI (by omega) (by omega) dX5_hangsTogether_19 ?_
    refine x_topi (nI np) rfl ?_
    refine xn_if_le C 35 (by omega) dX5_hangsTogether_20 (by decide) (fun h_2 => ?_) (fun h_2 => ?_)
    ·
      refine x_iconst C (nI 0) dX5_hangsTogether_35 (by decide +kernel) ?_
      refine x_zret C hK hlk hrt hQ hH0 hAA () (by first | (left; rfl) | (right; rfl) | assumption | (simp; done)) ?_ [0, 1] (by decide) rfl (by first | decide | omega) (by first | decide | omega) dX5_hangsTogether_36
      first | rfl | (exact ⟨rfl, rfl⟩) | trivial | assumption | omega
    ·
      exact False.elim (by omega)
abbrev rm_m_hangs : Room := { frames := 3, cells := 82, slots := 280, locals := 84 }
set_option maxRecDepth 100000 in
set_option maxHeartbeats 4000000 in
theorem c_m_hangs (l : Launch) (D : va_G) (tys : List (ClassId × FieldType)) (cI cJ cA : ClassId) (hI : tys[0]? = some (cI, .int)) (hJ : tys[1]? = some (cJ, .long)) (hR : tys[2]? = some (cA, .array .int)) (cW : ClassId) (hB : tys[3]? = some (cW, .array .long)) (yo : Nat) (thr : Int32) (ri : Int32) (yt : Nat) (ys : Nat) (yf : Nat) (yc : Nat) (co : Nat) (dn : Nat) (yd : Nat) (nw : Nat) (np : Nat) (ti : Nat → Int32) (g0 : Nat) (g1 : Nat) (bw : Nat → Int32) (bp : Nat → Int32) (hnw : nw ≤ 40) (hnp : np ≤ 40) (hri : ri = 0 ∨ ri = 1) (hbw : ∀ k, k < nw → ∃ j, j < 8 ∧ bw k = nI j) (hz : 0 < nw) (hz2 : 0 < np) : MI l yX5_hangsTogether wsX5_hangsTogether rm_m_hangs D tys [.ref yo] [(yo, OB 5 [.int thr, .int ri, .ref yt, .ref ys, .ref yf, .ref yc, .int (nI co), .int (nI dn), .ref yd]), (ys, AI cI 2 (sz2 nw np)), (yt, AI cI 10 ti), (yf, AR cA 2 (gr2 g0 g1)), (g0, AI cI 40 bw), (g1, AI cI 40 bp)] Unit (fun r (_ : Unit) => r = bI (decide (cnB (fun a => cB (ifg (wsB (ldB (wvF ri ti bp bw nw (fun _ => 0) np) nw) (nw + np)) a)) (nw + np) = 1))) (fun (_ : Unit) => [(yo, OB 5 [.int (nI 0), .int ri, .ref yt, .ref ys, .ref yf, .ref yc, .int (nI co), .int (nI dn), .ref yd]), (ys, AI cI 2 (sz2 nw np)), (yt, AI cI 10 ti), (yf, AR cA 2 (gr2 g0 g1)), (g0, AI cI 40 bw), (g1, AI cI 40 bp)]) 82 280 := by
  intro sz
  refine x_met (cc := cX5_hangsTogether) (maxL := 1) (ret := (some .boolean)) (by decide +kernel) rfl (by show _ ≤ _; simp [lg_sl, Value.category]) [(0, .ref yo)] rfl ?_
  intro p e s m args below meth c Q A H0 C hK hNW hlk hrt hnm hQ hH0 hAA hA
  refine x_aload_n C dX5_hangsTogether_0 rfl 0 rfl ?_
  refine x_iconst C (nI 0) dX5_hangsTogether_1 (by decide +kernel) ?_
  refine x_put C hK in_X5_hangsTogether_X5 tyX5 tyX5_ok nmX5 0 rfl rfl 0 (by decide) (by decide +kernel) rfl rfl (tyX5_ok 0 (by decide)) rfl rfl (Nat.le_of_ble_eq_true rfl) [(yo, OB 5 [.int (nI 0), .int ri, .ref yt, .ref ys, .ref yf, .ref yc, .int (nI co), .int (nI dn), .ref yd]), (ys, AI cI 2 (sz2 nw np)), (yt, AI cI 10 ti), (yf, AR cA 2 (gr2 g0 g1)), (g0, AI cI 40 bw), (g1, AI cI 40 bp)] rfl dX5_hangsTogether_2 ?_
  refine x_aload_n C dX5_hangsTogether_5 rfl 0 rfl ?_
  refine x_get C hK in_X5_hangsTogether_X5 0 rfl rfl 3 (by decide) (by decide +kernel) rfl rfl dX5_hangsTogether_6 ?_
  refine x_iconst C (nI 0) dX5_hangsTogether_9 (by decide +kernel) ?_
  refine x_iald C hK 1 0 rfl hI (by omega) (by omega) dX5_hangsTogether_10 ?_
  refine x_topi (nI nw) rfl ?_
  refine xn_if_le C 35 (by omega) dX5_hangsTogether_11 (by decide) (fun h_1 => ?_) (fun h_1 => ?_)
  ·
    exact False.elim (by omega)
  ·
    refine x_aload_n C dX5_hangsTogether_14 rfl 0 rfl ?_
    refine x_get C hK in_X5_hangsTogether_X5 0 rfl rfl 3 (by decide) (by decide +kernel) rfl rfl dX5_hangsTogether_15 ?_
    refine x_iconst C (nI 1) dX5_hangsTogether_18 (by decide +kernel) ?_
    refine x_iald C hK 1 0 rfl hI (by omega) (by omega) dX5_hangsTogether_19 ?_
    refine x_topi (nI np) rfl ?_
    refine xn_if_le C 35 (by omega) dX5_hangsTogether_20 (by decide) (fun h_2 => ?_) (fun h_2 => ?_)
    ·
      exact False.elim (by omega)
    ·
      have hcb := cnB_le (fun a => cB (ifg (wsB (ldB (wvF ri ti bp bw nw (fun _ => 0) np) nw) (nw + np)) a)) (nw + np)
      refine x_aload_n C dX5_hangsTogether_23 rfl 0 rfl ?_
      refine x_calli (x_runV C hK hNW (c_m_layersOf l D tys cI cJ cA hI hJ hR cW hB yo (nI 0) ri yt ys yf yc co dn yd nw np ti g0 g1 bw bp (by first | omega | assumption) (by first | omega | assumption) (by first | omega | assumption) (by first | omega | assumption)) (cwV 0 C.2.2.2.2 gX5_hangsTogether_X5_layersOf rfl rfl rfl (by decide +kernel) ⟨by decide, by decide⟩) [0, 1, 2, 3, 4, 5] rfl (by decide) 0 5 rfl rfl rfl (st := []) rfl rfl (Nat.le_of_ble_eq_true rfl) dX5_hangsTogether_24 ⟨by first | decide | omega | exact (show _ ≤ 82 by omega), by first | decide | omega | exact (show _ ≤ 280 by omega)⟩) hA [0, 1, 2, 3, 4, 5] rfl [] [] rfl (by decide) (by decide) [0, 1, 2, 3, 4, 5] (by decide) (wf := (fun (u : Unit) => [(yo, OB 5 [.int (nI 0), .int ri, .ref yt, .ref ys, .ref yf, .ref yc, .int (nI co), .int (nI dn), .ref yd]), (ys, AI cI 2 (sz2 nw np)), (yt, AI cI 10 ti), (yf, AR cA 2 (gr2 g0 g1)), (g0, AI cI 40 bw), (g1, AI cI 40 bp)])) (fun _ => rfl) (fun r_3 u h_4 => ?_)
      subst h_4
      refine x_iconst C (nI 1) dX5_hangsTogether_27 (by decide +kernel) ?_
      refine xn_icmp_ne C 35 (by omega) (by omega) dX5_hangsTogether_28 (by decide) (fun h_5 => ?_) (fun h_5 => ?_)
      ·
        refine x_iconst C (nI 0) dX5_hangsTogether_35 (by decide +kernel) ?_
        refine x_zret C hK hlk hrt hQ hH0 hAA () (by first | exact Or.inl rfl | exact Or.inr rfl) ?_ [0, 1, 2, 3, 4, 5] (by decide) rfl (by first | decide | omega) (by first | decide | omega) dX5_hangsTogether_36
        first | (rw [decide_eq_true (by assumption)]; rfl) | (rw [decide_eq_false (by assumption)]; rfl)
      ·
        refine x_iconst C (nI 1) dX5_hangsTogether_31 (by decide +kernel) ?_
        refine x_goto C 36 dX5_hangsTogether_32 (by decide) ?_
        refine x_zret C hK hlk hrt hQ hH0 hAA () (by first | exact Or.inl rfl | exact Or.inr rfl) ?_ [0, 1, 2, 3, 4, 5] (by decide) rfl (by first | decide | omega) (by first | decide | omega) dX5_hangsTogether_36
        first | (rw [decide_eq_true (by assumption)]; rfl) | (rw [decide_eq_false (by assumption)]; rfl)
abbrev rm_m_init : Room := { frames := 1, cells := 9, slots := 216, locals := 12 }
set_option maxRecDepth 100000 in
set_option maxHeartbeats 4000000 in
theorem c_m_init (l : Launch) (D : va_G) (tys : List (ClassId × FieldType)) (cI cJ cA : ClassId) (hI : tys[0]? = some (cI, .int)) (hJ : tys[1]? = some (cJ, .long)) (hR : tys[2]? = some (cA, .array .int)) (yo : Nat)  : MV l yX5_init wsX5_init rm_m_init D tys [.ref yo] [(yo, OB 5 [.int 0, .int 0, .null, .null, .null, .null, .int 0, .int 0, .null])] (Nat × Nat × Nat × Nat × Nat × Nat × Nat × Nat × Nat) (fun (u : Nat × Nat × Nat × Nat × Nat × Nat × Nat × Nat × Nat) => True) (fun (u : Nat × Nat × Nat × Nat × Nat × Nat × Nat × Nat × Nat) => [(yo, OB 5 [.int 0, .int (nI 1), .ref u.1, .ref u.2.1, .ref u.2.2.1, .ref u.2.2.2.2.2.1, .int 0, .int 0, .ref u.2.2.2.2.2.2.2.2]), (u.1, AI cI 10 (fun _ => 0)), (u.2.1, AI cI 2 (fun _ => 0)), (u.2.2.1, AR cA 2 (gr2 u.2.2.2.1 u.2.2.2.2.1)), (u.2.2.2.1, AI cI 40 (fun _ => 0)), (u.2.2.2.2.1, AI cI 40 (fun _ => 0)), (u.2.2.2.2.2.1, AR cA 2 (gr2 u.2.2.2.2.2.2.1 u.2.2.2.2.2.2.2.1)), (u.2.2.2.2.2.2.1, AI cI 40 (fun _ => 0)), (u.2.2.2.2.2.2.2.1, AI cI 40 (fun _ => 0)), (u.2.2.2.2.2.2.2.2, AJ cJ 40 (fun _ => 0))]) 9 216 := by
  intro sz
  refine x_met (cc := cX5_init) (maxL := 1) (ret := none) (by decide +kernel) rfl (by show _ ≤ _; simp [lg_sl, Value.category]) [(0, .ref yo)] rfl ?_
  intro p e s m args below meth c Q A H0 C hK hNW hlk hrt hnm hQ hH0 hAA hA
  refine x_aload_n C dX5_init_0 rfl 0 rfl ?_
  refine x_objInit C (by decide +kernel) (by decide +kernel) (by decide +kernel) dX5_init_1 (by decide) (by decide) ?_
  refine x_aload_n C dX5_init_4 rfl 0 rfl ?_
  refine x_iconst C (nI 1) dX5_init_5 (by decide +kernel) ?_
  refine x_put C hK in_X5_init_X5 tyX5 tyX5_ok nmX5 0 rfl rfl 1 (by decide) (by decide +kernel) rfl rfl (tyX5_ok 1 (by decide)) (by first | rfl | (simp_all [gx_bool]; done)) (by first | rfl | (simp_all [gx_bool]; done)) (Nat.le_of_ble_eq_true rfl) [(yo, OB 5 [.int 0, .int (nI 1), .null, .null, .null, .null, .int 0, .int 0, .null])] rfl dX5_init_6 ?_
  refine x_aload_n C dX5_init_9 rfl 0 rfl ?_
  refine x_bipush C (nI 10) dX5_init_10 (by decide +kernel) ?_
  refine x_new_int C hK hA (by decide +kernel) 0 hI (by omega) (by first | decide | omega | exact (show _ ≤ 9 by omega)) (by first | decide | omega | exact (show _ ≤ 216 by omega)) dX5_init_12 (fun q_1 => ?_)
  refine x_putF C hK in_X5_init_X5 tyX5 tyX5_ok nmX5 0 rfl rfl 2 (by decide) (by decide +kernel) rfl rfl hnm rfl (tyX5_ok 2 (by decide)) rfl rfl (Nat.le_of_ble_eq_true rfl) [(yo, OB 5 [.int 0, .int (nI 1), .ref q_1, .null, .null, .null, .int 0, .int 0, .null]), (q_1, AI cI 10 (fun _ => 0))] rfl dX5_init_14 ?_
  refine x_aload_n C dX5_init_17 rfl 0 rfl ?_
  refine x_iconst C (nI 2) dX5_init_18 (by decide +kernel) ?_
  refine x_new_int C hK hA (by decide +kernel) 0 hI (by omega) (by first | decide | omega | exact (show _ ≤ 9 by omega)) (by first | decide | omega | exact (show _ ≤ 216 by omega)) dX5_init_19 (fun q_2 => ?_)
  refine x_putF C hK in_X5_init_X5 tyX5 tyX5_ok nmX5 0 rfl rfl 3 (by decide) (by decide +kernel) rfl rfl hnm rfl (tyX5_ok 3 (by decide)) rfl rfl (Nat.le_of_ble_eq_true rfl) [(yo, OB 5 [.int 0, .int (nI 1), .ref q_1, .ref q_2, .null, .null, .int 0, .int 0, .null]), (q_1, AI cI 10 (fun _ => 0)), (q_2, AI cI 2 (fun _ => 0))] rfl dX5_init_21 ?_
  refine x_aload_n C dX5_init_24 rfl 0 rfl ?_
  refine x_iconst C (nI 2) dX5_init_25 (by decide +kernel) ?_
  refine x_bipush C (nI 40) dX5_init_26 (by decide +kernel) ?_
  refine x_mna C hK hNW hA (by decide +kernel) (by decide +kernel) 0 2 hI hR (by first | decide | omega | exact (show _ ≤ 9 by omega)) (by first | decide | omega | exact (show _ ≤ 216 by omega)) dX5_init_28 (fun q_3 q_4 q_5 => ?_)
  refine x_putF C hK in_X5_init_X5 tyX5 tyX5_ok nmX5 0 rfl rfl 4 (by decide) (by decide +kernel) rfl rfl hnm rfl (tyX5_ok 4 (by decide)) rfl rfl (Nat.le_of_ble_eq_true rfl) [(yo, OB 5 [.int 0, .int (nI 1), .ref q_1, .ref q_2, .ref q_3, .null, .int 0, .int 0, .null]), (q_1, AI cI 10 (fun _ => 0)), (q_2, AI cI 2 (fun _ => 0)), (q_3, AR cA 2 (gr2 q_4 q_5)), (q_4, AI cI 40 (fun _ => 0)), (q_5, AI cI 40 (fun _ => 0))] rfl dX5_init_32 ?_
  refine x_aload_n C dX5_init_35 rfl 0 rfl ?_
  refine x_iconst C (nI 2) dX5_init_36 (by decide +kernel) ?_
  refine x_bipush C (nI 40) dX5_init_37 (by decide +kernel) ?_
  refine x_mna C hK hNW hA (by decide +kernel) (by decide +kernel) 0 2 hI hR (by first | decide | omega | exact (show _ ≤ 9 by omega)) (by first | decide | omega | exact (show _ ≤ 216 by omega)) dX5_init_39 (fun q_6 q_7 q_8 => ?_)
  refine x_putF C hK in_X5_init_X5 tyX5 tyX5_ok nmX5 0 rfl rfl 5 (by decide) (by decide +kernel) rfl rfl hnm rfl (tyX5_ok 5 (by decide)) rfl rfl (Nat.le_of_ble_eq_true rfl) [(yo, OB 5 [.int 0, .int (nI 1), .ref q_1, .ref q_2, .ref q_3, .ref q_6, .int 0, .int 0, .null]), (q_1, AI cI 10 (fun _ => 0)), (q_2, AI cI 2 (fun _ => 0)), (q_3, AR cA 2 (gr2 q_4 q_5)), (q_4, AI cI 40 (fun _ => 0)), (q_5, AI cI 40 (fun _ => 0)), (q_6, AR cA 2 (gr2 q_7 q_8)), (q_7, AI cI 40 (fun _ => 0)), (q_8, AI cI 40 (fun _ => 0))] rfl dX5_init_43 ?_
  refine x_aload_n C dX5_init_46 rfl 0 rfl ?_
  refine x_bipush C (nI 40) dX5_init_47 (by decide +kernel) ?_
  refine x_new_long C hK hA (by decide +kernel) 1 hJ (by omega) (by first | decide | omega | exact (show _ ≤ 9 by omega)) (by first | decide | omega | exact (show _ ≤ 216 by omega)) dX5_init_49 (fun q_9 => ?_)
  refine x_putF C hK in_X5_init_X5 tyX5 tyX5_ok nmX5 0 rfl rfl 8 (by decide) (by decide +kernel) rfl rfl hnm rfl (tyX5_ok 8 (by decide)) rfl rfl (Nat.le_of_ble_eq_true rfl) [(yo, OB 5 [.int 0, .int (nI 1), .ref q_1, .ref q_2, .ref q_3, .ref q_6, .int 0, .int 0, .ref q_9]), (q_1, AI cI 10 (fun _ => 0)), (q_2, AI cI 2 (fun _ => 0)), (q_3, AR cA 2 (gr2 q_4 q_5)), (q_4, AI cI 40 (fun _ => 0)), (q_5, AI cI 40 (fun _ => 0)), (q_6, AR cA 2 (gr2 q_7 q_8)), (q_7, AI cI 40 (fun _ => 0)), (q_8, AI cI 40 (fun _ => 0)), (q_9, AJ cJ 40 (fun _ => 0))] rfl dX5_init_51 ?_
  refine x_vret C hK hlk hrt hQ hH0 hAA (q_1, q_2, q_3, q_4, q_5, q_6, q_7, q_8, q_9) ?_ [0, 1, 2, 3, 4, 5, 6, 7, 8, 9] (by decide) rfl (by first | decide | omega) (by first | decide | omega) dX5_init_54
  trivial
abbrev rm_loom_init : Room := { frames := 2, cells := 18, slots := 591, locals := 32 }
set_option maxRecDepth 100000 in
set_option maxHeartbeats 4000000 in
theorem c_loom_init (l : Launch) (D : va_G) (tys : List (ClassId × FieldType)) (cI cJ : ClassId) (hI : tys[0]? = some (cI, .int)) (hJ : tys[1]? = some (cJ, .long)) (x : Nat)  : MV l yX4_init wsX4_init rm_loom_init D tys [.ref x] [(x, OB 4 [.null, .null, .null, .int 0, .null, .null, .null])] (Nat × Nat × Nat × Nat × Nat × Nat × Nat × Nat × Nat × Nat × Nat × Nat × Nat × Nat × Nat × Nat × Nat × Nat) (fun (u : Nat × Nat × Nat × Nat × Nat × Nat × Nat × Nat × Nat × Nat × Nat × Nat × Nat × Nat × Nat × Nat × Nat × Nat) => True) (fun (u : Nat × Nat × Nat × Nat × Nat × Nat × Nat × Nat × Nat × Nat × Nat × Nat × Nat × Nat × Nat × Nat × Nat × Nat) => [(x, OB 4 [.ref u.1, .ref u.2.2.2.1, .ref u.2.2.2.2.2.2.1, .int 1, .ref u.2.2.2.2.2.2.2.1, .ref u.2.2.2.2.2.2.2.2.2.2.2.2.1, .ref u.2.2.2.2.2.2.2.2.2.2.2.2.2.2.2.1]), (u.1, OB 3 [.ref u.2.1, .ref u.2.2.1, .int 0]), (u.2.1, AI cI 40 (fun _ => 0)), (u.2.2.1, AI cI 40 (fun _ => 0)), (u.2.2.2.1, OB 3 [.ref u.2.2.2.2.1, .ref u.2.2.2.2.2.1, .int 0]), (u.2.2.2.2.1, AI cI 40 (fun _ => 0)), (u.2.2.2.2.2.1, AI cI 40 (fun _ => 0)), (u.2.2.2.2.2.2.1, AI cI 10 (fun _ => 0)), (u.2.2.2.2.2.2.2.1, OB 1 [.ref u.2.2.2.2.2.2.2.2.1, .ref u.2.2.2.2.2.2.2.2.2.1, .ref u.2.2.2.2.2.2.2.2.2.2.1, .ref u.2.2.2.2.2.2.2.2.2.2.2.1, .int 0, .int 0]), (u.2.2.2.2.2.2.2.2.1, AJ cJ 40 (fun _ => 0)), (u.2.2.2.2.2.2.2.2.2.1, AJ cJ 40 (fun _ => 0)), (u.2.2.2.2.2.2.2.2.2.2.1, AI cI 40 (fun _ => 0)), (u.2.2.2.2.2.2.2.2.2.2.2.1, AI cI 40 (fun _ => 0)), (u.2.2.2.2.2.2.2.2.2.2.2.2.1, OB 0 [.ref u.2.2.2.2.2.2.2.2.2.2.2.2.2.1, .ref u.2.2.2.2.2.2.2.2.2.2.2.2.2.2.1, .int 0, .int 0]), (u.2.2.2.2.2.2.2.2.2.2.2.2.2.1, AJ cJ 40 (fun _ => 0)), (u.2.2.2.2.2.2.2.2.2.2.2.2.2.2.1, AI cI 41 (fun _ => 0)), (u.2.2.2.2.2.2.2.2.2.2.2.2.2.2.2.1, OB 2 [.ref u.2.2.2.2.2.2.2.2.2.2.2.2.2.2.2.2.1, .ref u.2.2.2.2.2.2.2.2.2.2.2.2.2.2.2.2.2, .int 0, .int 0]), (u.2.2.2.2.2.2.2.2.2.2.2.2.2.2.2.2.1, AJ cJ 80 (fun _ => 0)), (u.2.2.2.2.2.2.2.2.2.2.2.2.2.2.2.2.2, AJ cJ 80 (fun _ => 0))]) 18 591 := by
  intro sz
  refine x_met (cc := cX4_init) (maxL := 1) (ret := none) (by decide +kernel) rfl (by show _ ≤ _; simp [lg_sl, Value.category]) [(0, .ref x)] rfl ?_
  intro p e s m args below meth c Q A H0 C hK hNW hlk hrt hnm hQ hH0 hAA hA
  refine x_aload_n C dX4_init_0 rfl 0 rfl ?_
  refine x_objInit C (by decide +kernel) (by decide +kernel) (by decide +kernel) dX4_init_1 (by decide) (by decide) ?_
  refine x_aload_n C dX4_init_4 rfl 0 rfl ?_
  refine x_newo (ci := 3) C hK hA in_X4_init_X3 tyX3 tyX3_ok (by decide +kernel) (by decide +kernel) (by decide +kernel) rfl [.null, .null, .int 0] (by decide +kernel) (by first | decide | omega) (by first | decide | omega) dX4_init_5 (fun q_1 => ?_)
  refine x_dup C dX4_init_8 rfl ?_
  refine x_callv (x_runIN C hK hNW (c_tr_init l D tys cI cJ hI hJ q_1 ) ⟨va_cnB 0 C.2.2.2.2 gX4_init_X3_init_n9 rfl rfl rfl (hNW.at 0 rfl) (C.2.2.2.2 (.initialized RX3) (by decide +kernel)) (by decide +kernel) ⟨by decide, by decide⟩, rfl, C.2.2.2.2 (.instanceMethod yX3_init) (by decide +kernel)⟩ [1] rfl (by decide) (st := [.ref q_1, .ref x]) rfl rfl (Nat.le_of_ble_eq_true rfl) dX4_init_9 ⟨by first | decide | omega, by first | decide | omega⟩) hA [1] rfl [0] [(x, OB 4 [.null, .null, .null, .int 0, .null, .null, .null])] rfl (by decide) (by decide) [0, 1, 2, 3] (by decide) (wf := (fun (u : Nat × Nat) => [(x, OB 4 [.null, .null, .null, .int 0, .null, .null, .null]), (q_1, OB 3 [.ref u.1, .ref u.2, .int 0]), (u.1, AI cI 40 (fun _ => 0)), (u.2, AI cI 40 (fun _ => 0))])) (fun _ => rfl) (fun u h_3 => ?_)
  obtain ⟨wa, wo⟩ := u
  try dsimp only at h_3 ⊢
  refine x_putF C hK in_X4_init_X4 tyX4 tyX4_ok nmX4 0 rfl rfl 0 (by decide) (by decide +kernel) rfl rfl hnm rfl (tyX4_ok 0 (by decide)) rfl rfl (Nat.le_of_ble_eq_true rfl) [(x, OB 4 [.ref q_1, .null, .null, .int 0, .null, .null, .null]), (q_1, OB 3 [.ref wa, .ref wo, .int 0]), (wa, AI cI 40 (fun _ => 0)), (wo, AI cI 40 (fun _ => 0))] rfl dX4_init_12 ?_
  refine x_aload_n C dX4_init_15 rfl 0 rfl ?_
  refine x_newo (ci := 3) C hK hA in_X4_init_X3 tyX3 tyX3_ok (by decide +kernel) (by decide +kernel) (by decide +kernel) rfl [.null, .null, .int 0] (by decide +kernel) (by first | decide | omega) (by first | decide | omega) dX4_init_16 (fun q_4 => ?_)
  refine x_dup C dX4_init_19 rfl ?_
  refine x_callv (x_runIN C hK hNW (c_tr_init l D tys cI cJ hI hJ q_4 ) ⟨va_cnB 0 C.2.2.2.2 gX4_init_X3_init_n9 rfl rfl rfl (hNW.at 0 rfl) (C.2.2.2.2 (.initialized RX3) (by decide +kernel)) (by decide +kernel) ⟨by decide, by decide⟩, rfl, C.2.2.2.2 (.instanceMethod yX3_init) (by decide +kernel)⟩ [4] rfl (by decide) (st := [.ref q_4, .ref x]) rfl rfl (Nat.le_of_ble_eq_true rfl) dX4_init_20 ⟨by first | decide | omega, by first | decide | omega⟩) hA [4] rfl [0, 1, 2, 3] [(x, OB 4 [.ref q_1, .null, .null, .int 0, .null, .null, .null]), (q_1, OB 3 [.ref wa, .ref wo, .int 0]), (wa, AI cI 40 (fun _ => 0)), (wo, AI cI 40 (fun _ => 0))] rfl (by decide) (by decide) [0, 1, 2, 3, 4, 5, 6] (by decide) (wf := (fun (u : Nat × Nat) => [(x, OB 4 [.ref q_1, .null, .null, .int 0, .null, .null, .null]), (q_1, OB 3 [.ref wa, .ref wo, .int 0]), (wa, AI cI 40 (fun _ => 0)), (wo, AI cI 40 (fun _ => 0)), (q_4, OB 3 [.ref u.1, .ref u.2, .int 0]), (u.1, AI cI 40 (fun _ => 0)), (u.2, AI cI 40 (fun _ => 0))])) (fun _ => rfl) (fun u h_6 => ?_)
  obtain ⟨pa, po⟩ := u
  try dsimp only at h_6 ⊢
  refine x_putF C hK in_X4_init_X4 tyX4 tyX4_ok nmX4 0 rfl rfl 1 (by decide) (by decide +kernel) rfl rfl hnm rfl (tyX4_ok 1 (by decide)) rfl rfl (Nat.le_of_ble_eq_true rfl) [(x, OB 4 [.ref q_1, .ref q_4, .null, .int 0, .null, .null, .null]), (q_1, OB 3 [.ref wa, .ref wo, .int 0]), (wa, AI cI 40 (fun _ => 0)), (wo, AI cI 40 (fun _ => 0)), (q_4, OB 3 [.ref pa, .ref po, .int 0]), (pa, AI cI 40 (fun _ => 0)), (po, AI cI 40 (fun _ => 0))] rfl dX4_init_23 ?_
  refine x_aload_n C dX4_init_26 rfl 0 rfl ?_
  refine x_bipush C (nI 10) dX4_init_27 (by decide +kernel) ?_
  refine x_new_int C hK hA (by decide +kernel) 0 hI (by omega) (by first | decide | omega) (by first | decide | omega) dX4_init_29 (fun q_7 => ?_)
  refine x_putF C hK in_X4_init_X4 tyX4 tyX4_ok nmX4 0 rfl rfl 2 (by decide) (by decide +kernel) rfl rfl hnm rfl (tyX4_ok 2 (by decide)) rfl rfl (Nat.le_of_ble_eq_true rfl) [(x, OB 4 [.ref q_1, .ref q_4, .ref q_7, .int 0, .null, .null, .null]), (q_1, OB 3 [.ref wa, .ref wo, .int 0]), (wa, AI cI 40 (fun _ => 0)), (wo, AI cI 40 (fun _ => 0)), (q_4, OB 3 [.ref pa, .ref po, .int 0]), (pa, AI cI 40 (fun _ => 0)), (po, AI cI 40 (fun _ => 0)), (q_7, AI cI 10 (fun _ => 0))] rfl dX4_init_31 ?_
  refine x_aload_n C dX4_init_34 rfl 0 rfl ?_
  refine x_iconst C (nI 1) dX4_init_35 (by decide +kernel) ?_
  refine x_put C hK in_X4_init_X4 tyX4 tyX4_ok nmX4 0 rfl rfl 3 (by decide) (by decide +kernel) rfl rfl (tyX4_ok 3 (by decide)) (by first | rfl | (simp_all [gx_bool]; done)) (by first | rfl | (simp_all [gx_bool]; done)) (Nat.le_of_ble_eq_true rfl) [(x, OB 4 [.ref q_1, .ref q_4, .ref q_7, .int (nI 1), .null, .null, .null]), (q_1, OB 3 [.ref wa, .ref wo, .int 0]), (wa, AI cI 40 (fun _ => 0)), (wo, AI cI 40 (fun _ => 0)), (q_4, OB 3 [.ref pa, .ref po, .int 0]), (pa, AI cI 40 (fun _ => 0)), (po, AI cI 40 (fun _ => 0)), (q_7, AI cI 10 (fun _ => 0))] rfl dX4_init_36 ?_
  refine x_aload_n C dX4_init_39 rfl 0 rfl ?_
  refine x_newo (ci := 1) C hK hA in_X4_init_X1 tyX1 tyX1_ok (by decide +kernel) (by decide +kernel) (by decide +kernel) rfl [.null, .null, .null, .null, .int 0, .int 0] (by decide +kernel) (by first | decide | omega) (by first | decide | omega) dX4_init_40 (fun q_8 => ?_)
  refine x_dup C dX4_init_43 rfl ?_
  refine x_callv (x_runIN C hK hNW (c_dr_init l D tys cI cJ hI hJ q_8 ) ⟨va_cnB 0 C.2.2.2.2 gX4_init_X1_init_n29 rfl rfl rfl (hNW.at 1 rfl) (C.2.2.2.2 (.initialized RX1) (by decide +kernel)) (by decide +kernel) ⟨by decide, by decide⟩, rfl, C.2.2.2.2 (.instanceMethod yX1_init) (by decide +kernel)⟩ [8] rfl (by decide) (st := [.ref q_8, .ref x]) rfl rfl (Nat.le_of_ble_eq_true rfl) dX4_init_44 ⟨by first | decide | omega, by first | decide | omega⟩) hA [8] rfl [0, 1, 2, 3, 4, 5, 6, 7] [(x, OB 4 [.ref q_1, .ref q_4, .ref q_7, .int (nI 1), .null, .null, .null]), (q_1, OB 3 [.ref wa, .ref wo, .int 0]), (wa, AI cI 40 (fun _ => 0)), (wo, AI cI 40 (fun _ => 0)), (q_4, OB 3 [.ref pa, .ref po, .int 0]), (pa, AI cI 40 (fun _ => 0)), (po, AI cI 40 (fun _ => 0)), (q_7, AI cI 10 (fun _ => 0))] rfl (by decide) (by decide) [0, 1, 2, 3, 4, 5, 6, 7, 8, 9, 10, 11, 12] (by decide) (wf := (fun (u : Nat × Nat × Nat × Nat) => [(x, OB 4 [.ref q_1, .ref q_4, .ref q_7, .int (nI 1), .null, .null, .null]), (q_1, OB 3 [.ref wa, .ref wo, .int 0]), (wa, AI cI 40 (fun _ => 0)), (wo, AI cI 40 (fun _ => 0)), (q_4, OB 3 [.ref pa, .ref po, .int 0]), (pa, AI cI 40 (fun _ => 0)), (po, AI cI 40 (fun _ => 0)), (q_7, AI cI 10 (fun _ => 0)), (q_8, OB 1 [.ref u.1, .ref u.2.1, .ref u.2.2.1, .ref u.2.2.2, .int 0, .int 0]), (u.1, AJ cJ 40 (fun _ => 0)), (u.2.1, AJ cJ 40 (fun _ => 0)), (u.2.2.1, AI cI 40 (fun _ => 0)), (u.2.2.2, AI cI 40 (fun _ => 0))])) (fun _ => rfl) (fun u h_10 => ?_)
  obtain ⟨dr, dk, ds, dt⟩ := u
  try dsimp only at h_10 ⊢
  refine x_putF C hK in_X4_init_X4 tyX4 tyX4_ok nmX4 0 rfl rfl 4 (by decide) (by decide +kernel) rfl rfl hnm rfl (tyX4_ok 4 (by decide)) rfl rfl (Nat.le_of_ble_eq_true rfl) [(x, OB 4 [.ref q_1, .ref q_4, .ref q_7, .int (nI 1), .ref q_8, .null, .null]), (q_1, OB 3 [.ref wa, .ref wo, .int 0]), (wa, AI cI 40 (fun _ => 0)), (wo, AI cI 40 (fun _ => 0)), (q_4, OB 3 [.ref pa, .ref po, .int 0]), (pa, AI cI 40 (fun _ => 0)), (po, AI cI 40 (fun _ => 0)), (q_7, AI cI 10 (fun _ => 0)), (q_8, OB 1 [.ref dr, .ref dk, .ref ds, .ref dt, .int 0, .int 0]), (dr, AJ cJ 40 (fun _ => 0)), (dk, AJ cJ 40 (fun _ => 0)), (ds, AI cI 40 (fun _ => 0)), (dt, AI cI 40 (fun _ => 0))] rfl dX4_init_47 ?_
  refine x_aload_n C dX4_init_50 rfl 0 rfl ?_
  refine x_newo (ci := 0) C hK hA in_X4_init_X0 tyX0 tyX0_ok (by decide +kernel) (by decide +kernel) (by decide +kernel) rfl [.null, .null, .int 0, .int 0] (by decide +kernel) (by first | decide | omega) (by first | decide | omega) dX4_init_51 (fun q_11 => ?_)
  refine x_dup C dX4_init_54 rfl ?_
  refine x_callv (x_runIN C hK hNW (c_cl_init l D tys cI cJ hI hJ q_11 ) ⟨va_cnB 0 C.2.2.2.2 gX4_init_X0_init_n36 rfl rfl rfl (hNW.at 2 rfl) (C.2.2.2.2 (.initialized RX0) (by decide +kernel)) (by decide +kernel) ⟨by decide, by decide⟩, rfl, C.2.2.2.2 (.instanceMethod yX0_init) (by decide +kernel)⟩ [13] rfl (by decide) (st := [.ref q_11, .ref x]) rfl rfl (Nat.le_of_ble_eq_true rfl) dX4_init_55 ⟨by first | decide | omega, by first | decide | omega⟩) hA [13] rfl [0, 1, 2, 3, 4, 5, 6, 7, 8, 9, 10, 11, 12] [(x, OB 4 [.ref q_1, .ref q_4, .ref q_7, .int (nI 1), .ref q_8, .null, .null]), (q_1, OB 3 [.ref wa, .ref wo, .int 0]), (wa, AI cI 40 (fun _ => 0)), (wo, AI cI 40 (fun _ => 0)), (q_4, OB 3 [.ref pa, .ref po, .int 0]), (pa, AI cI 40 (fun _ => 0)), (po, AI cI 40 (fun _ => 0)), (q_7, AI cI 10 (fun _ => 0)), (q_8, OB 1 [.ref dr, .ref dk, .ref ds, .ref dt, .int 0, .int 0]), (dr, AJ cJ 40 (fun _ => 0)), (dk, AJ cJ 40 (fun _ => 0)), (ds, AI cI 40 (fun _ => 0)), (dt, AI cI 40 (fun _ => 0))] rfl (by decide) (by decide) [0, 1, 2, 3, 4, 5, 6, 7, 8, 9, 10, 11, 12, 13, 14, 15] (by decide) (wf := (fun (u : Nat × Nat) => [(x, OB 4 [.ref q_1, .ref q_4, .ref q_7, .int (nI 1), .ref q_8, .null, .null]), (q_1, OB 3 [.ref wa, .ref wo, .int 0]), (wa, AI cI 40 (fun _ => 0)), (wo, AI cI 40 (fun _ => 0)), (q_4, OB 3 [.ref pa, .ref po, .int 0]), (pa, AI cI 40 (fun _ => 0)), (po, AI cI 40 (fun _ => 0)), (q_7, AI cI 10 (fun _ => 0)), (q_8, OB 1 [.ref dr, .ref dk, .ref ds, .ref dt, .int 0, .int 0]), (dr, AJ cJ 40 (fun _ => 0)), (dk, AJ cJ 40 (fun _ => 0)), (ds, AI cI 40 (fun _ => 0)), (dt, AI cI 40 (fun _ => 0)), (q_11, OB 0 [.ref u.1, .ref u.2, .int 0, .int 0]), (u.1, AJ cJ 40 (fun _ => 0)), (u.2, AI cI 41 (fun _ => 0))])) (fun _ => rfl) (fun u h_13 => ?_)
  obtain ⟨ce, cf⟩ := u
  try dsimp only at h_13 ⊢
  refine x_putF C hK in_X4_init_X4 tyX4 tyX4_ok nmX4 0 rfl rfl 5 (by decide) (by decide +kernel) rfl rfl hnm rfl (tyX4_ok 5 (by decide)) rfl rfl (Nat.le_of_ble_eq_true rfl) [(x, OB 4 [.ref q_1, .ref q_4, .ref q_7, .int (nI 1), .ref q_8, .ref q_11, .null]), (q_1, OB 3 [.ref wa, .ref wo, .int 0]), (wa, AI cI 40 (fun _ => 0)), (wo, AI cI 40 (fun _ => 0)), (q_4, OB 3 [.ref pa, .ref po, .int 0]), (pa, AI cI 40 (fun _ => 0)), (po, AI cI 40 (fun _ => 0)), (q_7, AI cI 10 (fun _ => 0)), (q_8, OB 1 [.ref dr, .ref dk, .ref ds, .ref dt, .int 0, .int 0]), (dr, AJ cJ 40 (fun _ => 0)), (dk, AJ cJ 40 (fun _ => 0)), (ds, AI cI 40 (fun _ => 0)), (dt, AI cI 40 (fun _ => 0)), (q_11, OB 0 [.ref ce, .ref cf, .int 0, .int 0]), (ce, AJ cJ 40 (fun _ => 0)), (cf, AI cI 41 (fun _ => 0))] rfl dX4_init_58 ?_
  refine x_aload_n C dX4_init_61 rfl 0 rfl ?_
  refine x_newo (ci := 2) C hK hA in_X4_init_X2 tyX2 tyX2_ok (by decide +kernel) (by decide +kernel) (by decide +kernel) rfl [.null, .null, .int 0, .int 0] (by decide +kernel) (by first | decide | omega) (by first | decide | omega) dX4_init_62 (fun q_14 => ?_)
  refine x_dup C dX4_init_65 rfl ?_
  refine x_callv (x_runIN C hK hNW (c_ld_init l D tys cI cJ hI hJ q_14 ) ⟨va_cnB 0 C.2.2.2.2 gX4_init_X2_init_n43 rfl rfl rfl (hNW.at 3 rfl) (C.2.2.2.2 (.initialized RX2) (by decide +kernel)) (by decide +kernel) ⟨by decide, by decide⟩, rfl, C.2.2.2.2 (.instanceMethod yX2_init) (by decide +kernel)⟩ [16] rfl (by decide) (st := [.ref q_14, .ref x]) rfl rfl (Nat.le_of_ble_eq_true rfl) dX4_init_66 ⟨by first | decide | omega, by first | decide | omega⟩) hA [16] rfl [0, 1, 2, 3, 4, 5, 6, 7, 8, 9, 10, 11, 12, 13, 14, 15] [(x, OB 4 [.ref q_1, .ref q_4, .ref q_7, .int (nI 1), .ref q_8, .ref q_11, .null]), (q_1, OB 3 [.ref wa, .ref wo, .int 0]), (wa, AI cI 40 (fun _ => 0)), (wo, AI cI 40 (fun _ => 0)), (q_4, OB 3 [.ref pa, .ref po, .int 0]), (pa, AI cI 40 (fun _ => 0)), (po, AI cI 40 (fun _ => 0)), (q_7, AI cI 10 (fun _ => 0)), (q_8, OB 1 [.ref dr, .ref dk, .ref ds, .ref dt, .int 0, .int 0]), (dr, AJ cJ 40 (fun _ => 0)), (dk, AJ cJ 40 (fun _ => 0)), (ds, AI cI 40 (fun _ => 0)), (dt, AI cI 40 (fun _ => 0)), (q_11, OB 0 [.ref ce, .ref cf, .int 0, .int 0]), (ce, AJ cJ 40 (fun _ => 0)), (cf, AI cI 41 (fun _ => 0))] rfl (by decide) (by decide) [0, 1, 2, 3, 4, 5, 6, 7, 8, 9, 10, 11, 12, 13, 14, 15, 16, 17, 18] (by decide) (wf := (fun (u : Nat × Nat) => [(x, OB 4 [.ref q_1, .ref q_4, .ref q_7, .int (nI 1), .ref q_8, .ref q_11, .null]), (q_1, OB 3 [.ref wa, .ref wo, .int 0]), (wa, AI cI 40 (fun _ => 0)), (wo, AI cI 40 (fun _ => 0)), (q_4, OB 3 [.ref pa, .ref po, .int 0]), (pa, AI cI 40 (fun _ => 0)), (po, AI cI 40 (fun _ => 0)), (q_7, AI cI 10 (fun _ => 0)), (q_8, OB 1 [.ref dr, .ref dk, .ref ds, .ref dt, .int 0, .int 0]), (dr, AJ cJ 40 (fun _ => 0)), (dk, AJ cJ 40 (fun _ => 0)), (ds, AI cI 40 (fun _ => 0)), (dt, AI cI 40 (fun _ => 0)), (q_11, OB 0 [.ref ce, .ref cf, .int 0, .int 0]), (ce, AJ cJ 40 (fun _ => 0)), (cf, AI cI 41 (fun _ => 0)), (q_14, OB 2 [.ref u.1, .ref u.2, .int 0, .int 0]), (u.1, AJ cJ 80 (fun _ => 0)), (u.2, AJ cJ 80 (fun _ => 0))])) (fun _ => rfl) (fun u h_16 => ?_)
  obtain ⟨le, lp⟩ := u
  try dsimp only at h_16 ⊢
  refine x_putF C hK in_X4_init_X4 tyX4 tyX4_ok nmX4 0 rfl rfl 6 (by decide) (by decide +kernel) rfl rfl hnm rfl (tyX4_ok 6 (by decide)) rfl rfl (Nat.le_of_ble_eq_true rfl) [(x, OB 4 [.ref q_1, .ref q_4, .ref q_7, .int (nI 1), .ref q_8, .ref q_11, .ref q_14]), (q_1, OB 3 [.ref wa, .ref wo, .int 0]), (wa, AI cI 40 (fun _ => 0)), (wo, AI cI 40 (fun _ => 0)), (q_4, OB 3 [.ref pa, .ref po, .int 0]), (pa, AI cI 40 (fun _ => 0)), (po, AI cI 40 (fun _ => 0)), (q_7, AI cI 10 (fun _ => 0)), (q_8, OB 1 [.ref dr, .ref dk, .ref ds, .ref dt, .int 0, .int 0]), (dr, AJ cJ 40 (fun _ => 0)), (dk, AJ cJ 40 (fun _ => 0)), (ds, AI cI 40 (fun _ => 0)), (dt, AI cI 40 (fun _ => 0)), (q_11, OB 0 [.ref ce, .ref cf, .int 0, .int 0]), (ce, AJ cJ 40 (fun _ => 0)), (cf, AI cI 41 (fun _ => 0)), (q_14, OB 2 [.ref le, .ref lp, .int 0, .int 0]), (le, AJ cJ 80 (fun _ => 0)), (lp, AJ cJ 80 (fun _ => 0))] rfl dX4_init_69 ?_
  refine x_vret C hK hlk hrt hQ hH0 hAA (q_1, wa, wo, q_4, pa, po, q_7, q_8, dr, dk, ds, dt, q_11, ce, cf, q_14, le, lp) ?_ [0, 1, 2, 3, 4, 5, 6, 7, 8, 9, 10, 11, 12, 13, 14, 15, 16, 17, 18] (by decide) rfl (by first | decide | omega) (by first | decide | omega) dX4_init_72
  trivial
