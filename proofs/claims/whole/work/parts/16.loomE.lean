/-! LoomDraft, fifth part -/
theorem in_X4_tieAsNumbered_X1 : ∀ w ∈ wsX10, w ∈ wsX4_tieAsNumbered := by decide +kernel
theorem in_X4_tieAsNumbered_X4 : ∀ w ∈ wsX40, w ∈ wsX4_tieAsNumbered := by decide +kernel
theorem in_X4_threadAsNumbered_X1 : ∀ w ∈ wsX10, w ∈ wsX4_threadAsNumbered := by decide +kernel
theorem in_X4_threadAsNumbered_X3 : ∀ w ∈ wsX30, w ∈ wsX4_threadAsNumbered := by decide +kernel
theorem in_X4_threadAsNumbered_X4 : ∀ w ∈ wsX40, w ∈ wsX4_threadAsNumbered := by decide +kernel
theorem in_X4_fit_X1 : ∀ w ∈ wsX10, w ∈ wsX4_fit := by decide +kernel
theorem in_X4_fit_X3 : ∀ w ∈ wsX30, w ∈ wsX4_fit := by decide +kernel
theorem in_X4_fit_X4 : ∀ w ∈ wsX40, w ∈ wsX4_fit := by decide +kernel
theorem in_X4_differences_X0 : ∀ w ∈ wsX00, w ∈ wsX4_differences := by decide +kernel
theorem in_X4_differences_X1 : ∀ w ∈ wsX10, w ∈ wsX4_differences := by decide +kernel
theorem in_X4_differences_X3 : ∀ w ∈ wsX30, w ∈ wsX4_differences := by decide +kernel
theorem in_X4_differences_X4 : ∀ w ∈ wsX40, w ∈ wsX4_differences := by decide +kernel
theorem in_X4_digest_X1 : ∀ w ∈ wsX10, w ∈ wsX4_digest := by decide +kernel
theorem in_X4_digest_X3 : ∀ w ∈ wsX30, w ∈ wsX4_digest := by decide +kernel
theorem in_X4_digest_X4 : ∀ w ∈ wsX40, w ∈ wsX4_digest := by decide +kernel
abbrev rm_tieAs : Room := { frames := 1, cells := 0, slots := 0, locals := 23 }
set_option maxRecDepth 100000 in
set_option maxHeartbeats 4000000 in
theorem c_tieAs (l : Launch) (D : va_G) (tys : List (ClassId × FieldType)) (cI cJ : ClassId) (hI : tys[0]? = some (cI, .int)) (hJ : tys[1]? = some (cJ, .long)) (x : Nat) (qw : Nat) (qv : Nat) (qt : Nat) (ri : Int32) (qd : Nat) (qc : Nat) (ql : Nat) (ti : Nat → Int32) (dr : Nat) (dk : Nat) (ds : Nat) (dt : Nat) (co : Nat) (dn : Nat) (fr : Nat → Int64) (fk : Nat → Int64) (fs : Nat → Int32) (ft : Nat → Int32) (hco : co ≤ 40) (hdn : dn ≤ 40) (ht : tkn fr dn ≤ 10) : MV l yX4_tieAsNumbered wsX4_tieAsNumbered rm_tieAs D tys [.ref x] [(x, OB 4 [.ref qw, .ref qv, .ref qt, .int ri, .ref qd, .ref qc, .ref ql]), (qt, AI cI 10 ti), (qd, OB 1 [.ref dr, .ref dk, .ref ds, .ref dt, .int (nI co), .int (nI dn)]), (dr, AJ cJ 40 fr), (dk, AJ cJ 40 fk), (ds, AI cI 40 fs), (dt, AI cI 40 (cpN ft fr dn))] Unit (fun (_ : Unit) => True) (fun (_ : Unit) => [(x, OB 4 [.ref qw, .ref qv, .ref qt, .int ri, .ref qd, .ref qc, .ref ql]), (qt, AI cI 10 (tiF ri fr fs co (flF ti 0 10) dn)), (qd, OB 1 [.ref dr, .ref dk, .ref ds, .ref dt, .int (nI co), .int (nI dn)]), (dr, AJ cJ 40 fr), (dk, AJ cJ 40 fk), (ds, AI cI 40 fs), (dt, AI cI 40 (cpN ft fr dn))]) 0 0 := by
  intro sz
  refine x_met (cc := cX4_tieAsNumbered) (maxL := 4) (ret := none) (by decide +kernel) rfl (by show _ ≤ _; simp [lg_sl, Value.category]) [(0, .ref x)] rfl ?_
  intro p e s m args below meth c Q A H0 C hK hNW hlk hrt hnm hQ hH0 hAA hA
  refine x_aload_n C dX4_tieAsNumbered_0 rfl 0 rfl ?_
  refine x_get C hK in_X4_tieAsNumbered_X4 0 rfl rfl 2 (by decide) (by decide +kernel) rfl rfl dX4_tieAsNumbered_1 ?_
  refine x_iconst C (nI 0) dX4_tieAsNumbered_4 (by decide +kernel) ?_
  refine x_callv (x_runS C hK hNW (c_fill l D tys cI cJ hI hJ qt 10 ti (nI 0) (by first | omega | assumption)) (va_cwS 2 C.2.2.2.2 gX4_tieAsNumbered_J7_fill_53178 rfl rfl rfl (by decide +kernel) ⟨by decide, by decide⟩) [1] rfl (by decide) (st := []) rfl rfl (Nat.le_of_ble_eq_true rfl) dX4_tieAsNumbered_5 ⟨by first | decide | omega, by first | decide | omega⟩) hA [1] rfl [0, 2, 3, 4, 5, 6] [(x, OB 4 [.ref qw, .ref qv, .ref qt, .int ri, .ref qd, .ref qc, .ref ql]), (qd, OB 1 [.ref dr, .ref dk, .ref ds, .ref dt, .int (nI co), .int (nI dn)]), (dr, AJ cJ 40 fr), (dk, AJ cJ 40 fk), (ds, AI cI 40 fs), (dt, AI cI 40 (cpN ft fr dn))] rfl (by decide) (by decide) [0, 6, 1, 2, 3, 4, 5] (by decide) (wf := (fun (u : Unit) => [(x, OB 4 [.ref qw, .ref qv, .ref qt, .int ri, .ref qd, .ref qc, .ref ql]), (qt, AI cI 10 (flF ti (nI 0) 10)), (qd, OB 1 [.ref dr, .ref dk, .ref ds, .ref dt, .int (nI co), .int (nI dn)]), (dr, AJ cJ 40 fr), (dk, AJ cJ 40 fk), (ds, AI cI 40 fs), (dt, AI cI 40 (cpN ft fr dn))])) (fun _ => rfl) (fun u h_2 => ?_)
  refine x_iconst C (nI 0) dX4_tieAsNumbered_8 (by decide +kernel) ?_
  refine x_istore_n C [(1, .int (nI 0)), (0, .ref x)] dX4_tieAsNumbered_9 rfl (by decide) rfl ?_
  have LR_3 : ∀ (fuel : Nat) (i : Nat), (i ≤ dn) → dn - i < fuel → X_ p l e rm_tieAs s m args below meth c Q D A H0 4 0 0 [(x, OB 4 [.ref qw, .ref qv, .ref qt, .int ri, .ref qd, .ref qc, .ref ql]), (qt, AI cI 10 (tiF ri fr fs co (flF ti 0 10) i)), (qd, OB 1 [.ref dr, .ref dk, .ref ds, .ref dt, .int (nI co), .int (nI dn)]), (dr, AJ cJ 40 fr), (dk, AJ cJ 40 fk), (ds, AI cI 40 fs), (dt, AI cI 40 (cpN ft fr dn))] [(0, .ref x), (1, .int (nI i))] 10 [] := by
    intro fuel
    induction fuel with
    | zero =>
      intros
      exact absurd (by assumption) (Nat.not_lt_zero _)
    | succ fuel ih_LR_3 =>
      intro i hi hm_4
      refine x_iload_n C dX4_tieAsNumbered_10 rfl 1 rfl ?_
      refine x_aload_n C dX4_tieAsNumbered_11 rfl 0 rfl ?_
      refine x_get C hK in_X4_tieAsNumbered_X4 0 rfl rfl 4 (by decide) (by decide +kernel) rfl rfl dX4_tieAsNumbered_12 ?_
      refine x_getN C hK hNW in_X4_tieAsNumbered_X1 2 rfl rfl 5 (by decide) 36 rfl rfl rfl dX4_tieAsNumbered_15 ?_
      refine xn_icmp_ge C 97 (by omega) (by omega) dX4_tieAsNumbered_18 (by decide) (fun h_5 => ?_) (fun h_5 => ?_)
      ·
        have heq_i : dn = i := by omega
        subst heq_i
        refine x_vret C hK hlk hrt hQ hH0 hAA () ?_ [0, 1, 2, 3, 4, 5, 6] (by decide) rfl (by first | decide | omega) (by first | decide | omega) dX4_tieAsNumbered_97
        first | rfl | (exact ⟨rfl, rfl⟩) | trivial | assumption | omega
      ·
        refine x_iconst C (nI 0) dX4_tieAsNumbered_21 (by decide +kernel) ?_
        refine x_istore_n C [(2, .int (nI 0)), (0, .ref x), (1, .int (nI i))] dX4_tieAsNumbered_22 rfl (by decide) rfl ?_
        refine x_iconst C (nI 0) dX4_tieAsNumbered_23 (by decide +kernel) ?_
        refine x_istore_n C [(3, .int (nI 0)), (2, .int (nI 0)), (0, .ref x), (1, .int (nI i))] dX4_tieAsNumbered_24 rfl (by decide) rfl ?_
        have LCO_6 : ∀ (fuel : Nat) (j : Nat), (j ≤ co) → co - j < fuel → X_ p l e rm_tieAs s m args below meth c Q D A H0 4 0 0 [(x, OB 4 [.ref qw, .ref qv, .ref qt, .int ri, .ref qd, .ref qc, .ref ql]), (qt, AI cI 10 (tiF ri fr fs co (flF ti 0 10) i)), (qd, OB 1 [.ref dr, .ref dk, .ref ds, .ref dt, .int (nI co), .int (nI dn)]), (dr, AJ cJ 40 fr), (dk, AJ cJ 40 fk), (ds, AI cI 40 fs), (dt, AI cI 40 (cpN ft fr dn))] [(0, .ref x), (1, .int (nI i)), (2, .int (shF ri (fr i) fs j)), (3, .int (nI j))] 25 [] := by
          intro fuel
          induction fuel with
          | zero =>
            intros
            exact absurd (by assumption) (Nat.not_lt_zero _)
          | succ fuel ih_LCO_6 =>
            intro j hj hm_7
            refine x_iload_n C dX4_tieAsNumbered_25 rfl 3 rfl ?_
            refine x_aload_n C dX4_tieAsNumbered_26 rfl 0 rfl ?_
            refine x_get C hK in_X4_tieAsNumbered_X4 0 rfl rfl 4 (by decide) (by decide +kernel) rfl rfl dX4_tieAsNumbered_27 ?_
            refine x_getN C hK hNW in_X4_tieAsNumbered_X1 2 rfl rfl 4 (by decide) 35 rfl rfl rfl dX4_tieAsNumbered_30 ?_
            refine xn_icmp_ge C 76 (by omega) (by omega) dX4_tieAsNumbered_33 (by decide) (fun h_8 => ?_) (fun h_8 => ?_)
            ·
              have heq_j : co = j := by omega
              subst heq_j
              refine x_aload_n C dX4_tieAsNumbered_76 rfl 0 rfl ?_
              refine x_get C hK in_X4_tieAsNumbered_X4 0 rfl rfl 2 (by decide) (by decide +kernel) rfl rfl dX4_tieAsNumbered_77 ?_
              refine x_aload_n C dX4_tieAsNumbered_80 rfl 0 rfl ?_
              refine x_get C hK in_X4_tieAsNumbered_X4 0 rfl rfl 4 (by decide) (by decide +kernel) rfl rfl dX4_tieAsNumbered_81 ?_
              refine x_getN C hK hNW in_X4_tieAsNumbered_X1 2 rfl rfl 3 (by decide) 34 rfl rfl rfl dX4_tieAsNumbered_84 ?_
              refine x_iload_n C dX4_tieAsNumbered_87 rfl 1 rfl ?_
              refine x_iald C hK 6 0 rfl hI (by omega) (by omega) dX4_tieAsNumbered_88 ?_
              refine x_topi (nI (nmb fr i)) (by show cpN ft fr dn i = _; unfold cpN; rw [if_pos (by omega)]) ?_
              have hnb := nmb_lt (t := fr) (n := dn) (i := i) (by omega)
              refine x_iload_n C dX4_tieAsNumbered_89 rfl 2 rfl ?_
              refine x_iast C hK 1 0 rfl hI (by omega) (by omega) [(x, OB 4 [.ref qw, .ref qv, .ref qt, .int ri, .ref qd, .ref qc, .ref ql]), (qt, AI cI 10 (upd (tiF ri fr fs co (flF ti 0 10) i) (nmb fr i) (shF ri (fr i) fs co))), (qd, OB 1 [.ref dr, .ref dk, .ref ds, .ref dt, .int (nI co), .int (nI dn)]), (dr, AJ cJ 40 fr), (dk, AJ cJ 40 fk), (ds, AI cI 40 fs), (dt, AI cI 40 (cpN ft fr dn))] rfl dX4_tieAsNumbered_90 ?_
              refine xn_iinc C (i + 1) [(1, .int (nI (i + 1))), (0, .ref x), (2, .int (shF ri (fr i) fs co)), (3, .int (nI co))] dX4_tieAsNumbered_91 1 rfl (by rw [show Int32.ofInt 1 = nI 1 from by decide +kernel]; exact nI_add _ _) (by decide) rfl ?_
              refine x_goto C 10 dX4_tieAsNumbered_94 (by decide) ?_
              refine x_lv [(0, .ref x), (1, .int (nI (i + 1)))] [1, 0] rfl ?_
              refine x_ws [(x, OB 4 [.ref qw, .ref qv, .ref qt, .int ri, .ref qd, .ref qc, .ref ql]), (qt, AI cI 10 (tiF ri fr fs co (flF ti 0 10) (i + 1))), (qd, OB 1 [.ref dr, .ref dk, .ref ds, .ref dt, .int (nI co), .int (nI dn)]), (dr, AJ cJ 40 fr), (dk, AJ cJ 40 fk), (ds, AI cI 40 fs), (dt, AI cI 40 (cpN ft fr dn))] (by rfl) ?_
              exact ih_LR_3 (i + 1) (by first | assumption | omega) (by omega)
            ·
              refine x_aload_n C dX4_tieAsNumbered_36 rfl 0 rfl ?_
              refine x_get C hK in_X4_tieAsNumbered_X4 0 rfl rfl 4 (by decide) (by decide +kernel) rfl rfl dX4_tieAsNumbered_37 ?_
              refine x_getN C hK hNW in_X4_tieAsNumbered_X1 2 rfl rfl 0 (by decide) 32 rfl rfl rfl dX4_tieAsNumbered_40 ?_
              refine x_iload_n C dX4_tieAsNumbered_43 rfl 1 rfl ?_
              refine x_lald C hK 3 1 rfl hJ (by omega) (by omega) dX4_tieAsNumbered_44 ?_
              refine x_iload_n C dX4_tieAsNumbered_45 rfl 3 rfl ?_
              refine x_calli (x_runS C hK hNW (c_hasBit l D tys cI cJ hI hJ (fr i) (nI j) ) (va_cwS 2 C.2.2.2.2 gX4_tieAsNumbered_X4_hasBit rfl rfl rfl (by decide +kernel) ⟨by decide, by decide⟩) [] rfl (by decide) (st := []) rfl rfl (Nat.le_of_ble_eq_true rfl) dX4_tieAsNumbered_46 ⟨by first | decide | omega, by first | decide | omega⟩) hA [] rfl [0, 1, 2, 3, 4, 5, 6] [(x, OB 4 [.ref qw, .ref qv, .ref qt, .int ri, .ref qd, .ref qc, .ref ql]), (qt, AI cI 10 (tiF ri fr fs co (flF ti 0 10) i)), (qd, OB 1 [.ref dr, .ref dk, .ref ds, .ref dt, .int (nI co), .int (nI dn)]), (dr, AJ cJ 40 fr), (dk, AJ cJ 40 fk), (ds, AI cI 40 fs), (dt, AI cI 40 (cpN ft fr dn))] rfl (by decide) (by decide) [0, 1, 2, 3, 4, 5, 6] (by decide) (wf := (fun (u : Unit) => [(x, OB 4 [.ref qw, .ref qv, .ref qt, .int ri, .ref qd, .ref qc, .ref ql]), (qt, AI cI 10 (tiF ri fr fs co (flF ti 0 10) i)), (qd, OB 1 [.ref dr, .ref dk, .ref ds, .ref dt, .int (nI co), .int (nI dn)]), (dr, AJ cJ 40 fr), (dk, AJ cJ 40 fk), (ds, AI cI 40 fs), (dt, AI cI 40 (cpN ft fr dn))])) (fun _ => rfl) (fun r_9 u h_10 => ?_)
              subst h_10
              refine x_aload_n C dX4_tieAsNumbered_49 rfl 0 rfl ?_
              refine x_get C hK in_X4_tieAsNumbered_X4 0 rfl rfl 3 (by decide) (by decide +kernel) rfl rfl dX4_tieAsNumbered_50 ?_
              refine x_icmp_ne C 70 dX4_tieAsNumbered_53 (by decide) (fun h_11 => ?_) (fun h_11 => ?_)
              ·
                refine xn_iinc C (j + 1) [(3, .int (nI (j + 1))), (0, .ref x), (1, .int (nI i)), (2, .int (shF ri (fr i) fs j))] dX4_tieAsNumbered_70 3 rfl (by rw [show Int32.ofInt 1 = nI 1 from by decide +kernel]; exact nI_add _ _) (by decide) rfl ?_
                refine x_goto C 25 dX4_tieAsNumbered_73 (by decide) ?_
                refine x_lv [(0, .ref x), (1, .int (nI i)), (2, .int (shF ri (fr i) fs (j + 1))), (3, .int (nI (j + 1)))] [1, 2, 3, 0] (by rw [show shF ri (fr i) fs (j + 1) = shF ri (fr i) fs j from by first | exact shF_y (by assumption) | exact shF_n (by assumption)]; rfl) ?_
                exact ih_LCO_6 (j + 1) (by first | assumption | omega) (by omega)
              ·
                refine x_iload_n C dX4_tieAsNumbered_56 rfl 2 rfl ?_
                refine x_iconst C (nI 1) dX4_tieAsNumbered_57 (by decide +kernel) ?_
                refine x_aload_n C dX4_tieAsNumbered_58 rfl 0 rfl ?_
                refine x_get C hK in_X4_tieAsNumbered_X4 0 rfl rfl 4 (by decide) (by decide +kernel) rfl rfl dX4_tieAsNumbered_59 ?_
                refine x_getN C hK hNW in_X4_tieAsNumbered_X1 2 rfl rfl 2 (by decide) 33 rfl rfl rfl dX4_tieAsNumbered_62 ?_
                refine x_iload_n C dX4_tieAsNumbered_65 rfl 3 rfl ?_
                refine x_iald C hK 5 0 rfl hI (by omega) (by omega) dX4_tieAsNumbered_66 ?_
                refine x_ishl C _ dX4_tieAsNumbered_67 rfl ?_
                refine x_ior C _ dX4_tieAsNumbered_68 rfl ?_
                refine x_istore_n C [(2, .int ((shF ri (fr i) fs j) ||| ((nI 1) <<< ((fs j) &&& 31)))), (0, .ref x), (1, .int (nI i)), (3, .int (nI j))] dX4_tieAsNumbered_69 rfl (by decide) rfl ?_
                refine xn_iinc C (j + 1) [(3, .int (nI (j + 1))), (2, .int ((shF ri (fr i) fs j) ||| ((nI 1) <<< ((fs j) &&& 31)))), (0, .ref x), (1, .int (nI i))] dX4_tieAsNumbered_70 3 rfl (by rw [show Int32.ofInt 1 = nI 1 from by decide +kernel]; exact nI_add _ _) (by decide) rfl ?_
                refine x_goto C 25 dX4_tieAsNumbered_73 (by decide) ?_
                refine x_lv [(0, .ref x), (1, .int (nI i)), (2, .int (shF ri (fr i) fs (j + 1))), (3, .int (nI (j + 1)))] [2, 3, 1, 0] (by rw [show shF ri (fr i) fs (j + 1) = (shF ri (fr i) fs j) ||| ((nI 1) <<< ((fs j) &&& 31)) from by first | exact shF_y (by assumption) | exact shF_n (by assumption)]; rfl) ?_
                exact ih_LCO_6 (j + 1) (by first | assumption | omega) (by omega)
        refine x_lv [(0, .ref x), (1, .int (nI i)), (2, .int (shF ri (fr i) fs 0)), (3, .int (nI 0))] [2, 3, 1, 0] (by rw [show shF ri (fr i) fs 0 = nI 0 from by rfl]; rfl) ?_
        exact LCO_6 (co - 0 + 1) 0 (by first | assumption | omega) (Nat.lt_succ_self _)
  refine x_lv [(0, .ref x), (1, .int (nI 0))] [1, 0] rfl ?_
  refine x_ws [(x, OB 4 [.ref qw, .ref qv, .ref qt, .int ri, .ref qd, .ref qc, .ref ql]), (qt, AI cI 10 (tiF ri fr fs co (flF ti 0 10) 0)), (qd, OB 1 [.ref dr, .ref dk, .ref ds, .ref dt, .int (nI co), .int (nI dn)]), (dr, AJ cJ 40 fr), (dk, AJ cJ 40 fk), (ds, AI cI 40 fs), (dt, AI cI 40 (cpN ft fr dn))] (by rfl) ?_
  exact LR_3 (dn - 0 + 1) 0 (by first | assumption | omega) (Nat.lt_succ_self _)
abbrev rm_threadAs : Room := { frames := 1, cells := 0, slots := 0, locals := 23 }
set_option maxRecDepth 100000 in
set_option maxHeartbeats 4000000 in
theorem c_threadAs (l : Launch) (D : va_G) (tys : List (ClassId × FieldType)) (cI cJ : ClassId) (hI : tys[0]? = some (cI, .int)) (hJ : tys[1]? = some (cJ, .long)) (x : Nat) (qw : Nat) (qv : Nat) (qt : Nat) (ri : Int32) (qd : Nat) (qc : Nat) (ql : Nat) (wa : Nat) (wo : Nat) (nw : Nat) (bw : Nat → Int32) (cw : Nat → Int32) (pa : Nat) (po : Nat) (np : Nat) (bp : Nat → Int32) (cp : Nat → Int32) (dr : Nat) (dk : Nat) (ds : Nat) (dt : Nat) (co : Nat) (dn : Nat) (fr : Nat → Int64) (fk : Nat → Int64) (fs : Nat → Int32) (ft : Nat → Int32) (hco : co ≤ 40) (hdn : dn ≤ 40) : MV l yX4_threadAsNumbered wsX4_threadAsNumbered rm_threadAs D tys [.ref x] [(x, OB 4 [.ref qw, .ref qv, .ref qt, .int ri, .ref qd, .ref qc, .ref ql]), (qw, OB 3 [.ref wa, .ref wo, .int (nI nw)]), (wa, AI cI 40 bw), (wo, AI cI 40 cw), (qv, OB 3 [.ref pa, .ref po, .int (nI np)]), (pa, AI cI 40 bp), (po, AI cI 40 cp), (qd, OB 1 [.ref dr, .ref dk, .ref ds, .ref dt, .int (nI co), .int (nI dn)]), (dr, AJ cJ 40 fr), (dk, AJ cJ 40 fk), (ds, AI cI 40 fs), (dt, AI cI 40 ft)] Unit (fun (_ : Unit) => True) (fun (_ : Unit) => [(x, OB 4 [.ref qw, .ref qv, .ref qt, .int ri, .ref qd, .ref qc, .ref ql]), (qw, OB 3 [.ref wa, .ref wo, .int (nI co)]), (wa, AI cI 40 (thF fs bw co)), (wo, AI cI 40 (thF (fun _ => nI 0) cw co)), (qv, OB 3 [.ref pa, .ref po, .int (nI dn)]), (pa, AI cI 40 (thF (fun y0 => (nI 1) <<< (ft y0 &&& 31)) bp dn)), (po, AI cI 40 (thF (fun _ => nI 1) cp dn)), (qd, OB 1 [.ref dr, .ref dk, .ref ds, .ref dt, .int (nI co), .int (nI dn)]), (dr, AJ cJ 40 fr), (dk, AJ cJ 40 fk), (ds, AI cI 40 fs), (dt, AI cI 40 ft)]) 0 0 := by
  intro sz
  refine x_met (cc := cX4_threadAsNumbered) (maxL := 2) (ret := none) (by decide +kernel) rfl (by show _ ≤ _; simp [lg_sl, Value.category]) [(0, .ref x)] rfl ?_
  intro p e s m args below meth c Q A H0 C hK hNW hlk hrt hnm hQ hH0 hAA hA
  refine x_aload_n C dX4_threadAsNumbered_0 rfl 0 rfl ?_
  refine x_get C hK in_X4_threadAsNumbered_X4 0 rfl rfl 0 (by decide) (by decide +kernel) rfl rfl dX4_threadAsNumbered_1 ?_
  refine x_iconst C (nI 0) dX4_threadAsNumbered_4 (by decide +kernel) ?_
  refine x_putN C hK hNW in_X4_threadAsNumbered_X3 tyX3 tyX3_ok nmX3 1 rfl rfl 2 (by decide) 31 rfl rfl rfl (tyX3_ok 2 (by decide)) rfl rfl (Nat.le_of_ble_eq_true rfl) [(x, OB 4 [.ref qw, .ref qv, .ref qt, .int ri, .ref qd, .ref qc, .ref ql]), (qw, OB 3 [.ref wa, .ref wo, .int (nI 0)]), (wa, AI cI 40 bw), (wo, AI cI 40 cw), (qv, OB 3 [.ref pa, .ref po, .int (nI np)]), (pa, AI cI 40 bp), (po, AI cI 40 cp), (qd, OB 1 [.ref dr, .ref dk, .ref ds, .ref dt, .int (nI co), .int (nI dn)]), (dr, AJ cJ 40 fr), (dk, AJ cJ 40 fk), (ds, AI cI 40 fs), (dt, AI cI 40 ft)] rfl dX4_threadAsNumbered_5 ?_
  refine x_iconst C (nI 0) dX4_threadAsNumbered_8 (by decide +kernel) ?_
  refine x_istore_n C [(1, .int (nI 0)), (0, .ref x)] dX4_threadAsNumbered_9 rfl (by decide) rfl ?_
  have LA_1 : ∀ (fuel : Nat) (i : Nat), (i ≤ co) → co - i < fuel → X_ p l e rm_threadAs s m args below meth c Q D A H0 2 0 0 [(x, OB 4 [.ref qw, .ref qv, .ref qt, .int ri, .ref qd, .ref qc, .ref ql]), (qw, OB 3 [.ref wa, .ref wo, .int (nI i)]), (wa, AI cI 40 (thF fs bw i)), (wo, AI cI 40 (thF (fun _ => nI 0) cw i)), (qv, OB 3 [.ref pa, .ref po, .int (nI np)]), (pa, AI cI 40 bp), (po, AI cI 40 cp), (qd, OB 1 [.ref dr, .ref dk, .ref ds, .ref dt, .int (nI co), .int (nI dn)]), (dr, AJ cJ 40 fr), (dk, AJ cJ 40 fk), (ds, AI cI 40 fs), (dt, AI cI 40 ft)] [(0, .ref x), (1, .int (nI i))] 10 [] := by
    intro fuel
    induction fuel with
    | zero =>
      intros
      exact absurd (by assumption) (Nat.not_lt_zero _)
    | succ fuel ih_LA_1 =>
      intro i hi hm_2
      refine x_iload_n C dX4_threadAsNumbered_10 rfl 1 rfl ?_
      refine x_aload_n C dX4_threadAsNumbered_11 rfl 0 rfl ?_
      refine x_get C hK in_X4_threadAsNumbered_X4 0 rfl rfl 4 (by decide) (by decide +kernel) rfl rfl dX4_threadAsNumbered_12 ?_
      refine x_getN C hK hNW in_X4_threadAsNumbered_X1 7 rfl rfl 4 (by decide) 35 rfl rfl rfl dX4_threadAsNumbered_15 ?_
      refine xn_icmp_ge C 45 (by omega) (by omega) dX4_threadAsNumbered_18 (by decide) (fun h_3 => ?_) (fun h_3 => ?_)
      ·
        have heq_i : co = i := by omega
        subst heq_i
        refine x_aload_n C dX4_threadAsNumbered_45 rfl 0 rfl ?_
        refine x_get C hK in_X4_threadAsNumbered_X4 0 rfl rfl 1 (by decide) (by decide +kernel) rfl rfl dX4_threadAsNumbered_46 ?_
        refine x_iconst C (nI 0) dX4_threadAsNumbered_49 (by decide +kernel) ?_
        refine x_putN C hK hNW in_X4_threadAsNumbered_X3 tyX3 tyX3_ok nmX3 4 rfl rfl 2 (by decide) 31 rfl rfl rfl (tyX3_ok 2 (by decide)) rfl rfl (Nat.le_of_ble_eq_true rfl) [(x, OB 4 [.ref qw, .ref qv, .ref qt, .int ri, .ref qd, .ref qc, .ref ql]), (qw, OB 3 [.ref wa, .ref wo, .int (nI co)]), (wa, AI cI 40 (thF fs bw co)), (wo, AI cI 40 (thF (fun _ => nI 0) cw co)), (qv, OB 3 [.ref pa, .ref po, .int (nI 0)]), (pa, AI cI 40 bp), (po, AI cI 40 cp), (qd, OB 1 [.ref dr, .ref dk, .ref ds, .ref dt, .int (nI co), .int (nI dn)]), (dr, AJ cJ 40 fr), (dk, AJ cJ 40 fk), (ds, AI cI 40 fs), (dt, AI cI 40 ft)] rfl dX4_threadAsNumbered_50 ?_
        refine x_iconst C (nI 0) dX4_threadAsNumbered_53 (by decide +kernel) ?_
        refine x_istore_n C [(1, .int (nI 0)), (0, .ref x)] dX4_threadAsNumbered_54 rfl (by decide) rfl ?_
        have LB_4 : ∀ (fuel : Nat) (j : Nat), (j ≤ dn) → dn - j < fuel → X_ p l e rm_threadAs s m args below meth c Q D A H0 2 0 0 [(x, OB 4 [.ref qw, .ref qv, .ref qt, .int ri, .ref qd, .ref qc, .ref ql]), (qw, OB 3 [.ref wa, .ref wo, .int (nI co)]), (wa, AI cI 40 (thF fs bw co)), (wo, AI cI 40 (thF (fun _ => nI 0) cw co)), (qv, OB 3 [.ref pa, .ref po, .int (nI j)]), (pa, AI cI 40 (thF (fun y0 => (nI 1) <<< (ft y0 &&& 31)) bp j)), (po, AI cI 40 (thF (fun _ => nI 1) cp j)), (qd, OB 1 [.ref dr, .ref dk, .ref ds, .ref dt, .int (nI co), .int (nI dn)]), (dr, AJ cJ 40 fr), (dk, AJ cJ 40 fk), (ds, AI cI 40 fs), (dt, AI cI 40 ft)] [(0, .ref x), (1, .int (nI j))] 55 [] := by
          intro fuel
          induction fuel with
          | zero =>
            intros
            exact absurd (by assumption) (Nat.not_lt_zero _)
          | succ fuel ih_LB_4 =>
            intro j hj hm_5
            refine x_iload_n C dX4_threadAsNumbered_55 rfl 1 rfl ?_
            refine x_aload_n C dX4_threadAsNumbered_56 rfl 0 rfl ?_
            refine x_get C hK in_X4_threadAsNumbered_X4 0 rfl rfl 4 (by decide) (by decide +kernel) rfl rfl dX4_threadAsNumbered_57 ?_
            refine x_getN C hK hNW in_X4_threadAsNumbered_X1 7 rfl rfl 5 (by decide) 36 rfl rfl rfl dX4_threadAsNumbered_60 ?_
            refine xn_icmp_ge C 92 (by omega) (by omega) dX4_threadAsNumbered_63 (by decide) (fun h_6 => ?_) (fun h_6 => ?_)
            ·
              have heq_j : dn = j := by omega
              subst heq_j
              refine x_vret C hK hlk hrt hQ hH0 hAA () ?_ [0, 1, 2, 3, 4, 5, 6, 7, 8, 9, 10, 11] (by decide) rfl (by first | decide | omega) (by first | decide | omega) dX4_threadAsNumbered_92
              first | rfl | (exact ⟨rfl, rfl⟩) | trivial | assumption | omega
            ·
              refine x_aload_n C dX4_threadAsNumbered_66 rfl 0 rfl ?_
              refine x_get C hK in_X4_threadAsNumbered_X4 0 rfl rfl 1 (by decide) (by decide +kernel) rfl rfl dX4_threadAsNumbered_67 ?_
              refine x_iconst C (nI 1) dX4_threadAsNumbered_70 (by decide +kernel) ?_
              refine x_aload_n C dX4_threadAsNumbered_71 rfl 0 rfl ?_
              refine x_get C hK in_X4_threadAsNumbered_X4 0 rfl rfl 4 (by decide) (by decide +kernel) rfl rfl dX4_threadAsNumbered_72 ?_
              refine x_getN C hK hNW in_X4_threadAsNumbered_X1 7 rfl rfl 3 (by decide) 34 rfl rfl rfl dX4_threadAsNumbered_75 ?_
              refine x_iload_n C dX4_threadAsNumbered_78 rfl 1 rfl ?_
              refine x_iald C hK 11 0 rfl hI (by omega) (by omega) dX4_threadAsNumbered_79 ?_
              refine x_ishl C _ dX4_threadAsNumbered_80 rfl ?_
              refine x_iconst C (nI 1) dX4_threadAsNumbered_81 (by decide +kernel) ?_
              refine x_calli (x_runVN C hK hNW (c_tr_add l D tys cI cJ hI hJ qv pa po j (thF (fun y0 => (nI 1) <<< (ft y0 &&& 31)) bp j) (thF (fun _ => nI 1) cp j) ((nI 1) <<< ((ft j) &&& 31)) (nI 1) (by first | omega | assumption)) ⟨va_cnB 2 C.2.2.2.2 gX4_threadAsNumbered_X3_add_n62 rfl rfl rfl (hNW.at 20 rfl) (C.2.2.2.2 (.initialized RX3) (by decide +kernel)) (by decide +kernel) ⟨by decide, by decide⟩, C.2.2.2.2 (.instanceMethod yX3_add) (by decide +kernel), C.2.2.2.2 (.selects RX3 yX3_add yX3_add) (by decide +kernel)⟩ [4, 5, 6] rfl (by decide) 4 3 rfl rfl rfl (st := []) rfl rfl (Nat.le_of_ble_eq_true rfl) dX4_threadAsNumbered_82 ⟨by first | decide | omega, by first | decide | omega⟩) hA [4, 5, 6] rfl [0, 1, 2, 3, 7, 8, 9, 10, 11] [(x, OB 4 [.ref qw, .ref qv, .ref qt, .int ri, .ref qd, .ref qc, .ref ql]), (qw, OB 3 [.ref wa, .ref wo, .int (nI co)]), (wa, AI cI 40 (thF fs bw co)), (wo, AI cI 40 (thF (fun _ => nI 0) cw co)), (qd, OB 1 [.ref dr, .ref dk, .ref ds, .ref dt, .int (nI co), .int (nI dn)]), (dr, AJ cJ 40 fr), (dk, AJ cJ 40 fk), (ds, AI cI 40 fs), (dt, AI cI 40 ft)] rfl (by decide) (by decide) [0, 1, 2, 3, 9, 10, 11, 4, 5, 6, 7, 8] (by decide) (wf := (fun (u : Unit) => [(x, OB 4 [.ref qw, .ref qv, .ref qt, .int ri, .ref qd, .ref qc, .ref ql]), (qw, OB 3 [.ref wa, .ref wo, .int (nI co)]), (wa, AI cI 40 (thF fs bw co)), (wo, AI cI 40 (thF (fun _ => nI 0) cw co)), (qv, OB 3 [.ref pa, .ref po, .int (nI (j + 1))]), (pa, AI cI 40 (upd (thF (fun y0 => (nI 1) <<< (ft y0 &&& 31)) bp j) j ((nI 1) <<< ((ft j) &&& 31)))), (po, AI cI 40 (upd (thF (fun _ => nI 1) cp j) j (nI 1))), (qd, OB 1 [.ref dr, .ref dk, .ref ds, .ref dt, .int (nI co), .int (nI dn)]), (dr, AJ cJ 40 fr), (dk, AJ cJ 40 fk), (ds, AI cI 40 fs), (dt, AI cI 40 ft)])) (fun _ => rfl) (fun r_7 u h_8 => ?_)
              subst h_8
              refine x_pop C dX4_threadAsNumbered_85 rfl ?_
              refine xn_iinc C (j + 1) [(1, .int (nI (j + 1))), (0, .ref x)] dX4_threadAsNumbered_86 1 rfl (by rw [show Int32.ofInt 1 = nI 1 from by decide +kernel]; exact nI_add _ _) (by decide) rfl ?_
              refine x_goto C 55 dX4_threadAsNumbered_89 (by decide) ?_
              refine x_lv [(0, .ref x), (1, .int (nI (j + 1)))] [1, 0] rfl ?_
              refine x_ws [(x, OB 4 [.ref qw, .ref qv, .ref qt, .int ri, .ref qd, .ref qc, .ref ql]), (qw, OB 3 [.ref wa, .ref wo, .int (nI co)]), (wa, AI cI 40 (thF fs bw co)), (wo, AI cI 40 (thF (fun _ => nI 0) cw co)), (qv, OB 3 [.ref pa, .ref po, .int (nI (j + 1))]), (pa, AI cI 40 (thF (fun y0 => (nI 1) <<< (ft y0 &&& 31)) bp (j + 1))), (po, AI cI 40 (thF (fun _ => nI 1) cp (j + 1))), (qd, OB 1 [.ref dr, .ref dk, .ref ds, .ref dt, .int (nI co), .int (nI dn)]), (dr, AJ cJ 40 fr), (dk, AJ cJ 40 fk), (ds, AI cI 40 fs), (dt, AI cI 40 ft)] (by rw [thF_s, thF_s]) ?_
              exact ih_LB_4 (j + 1) (by first | assumption | omega) (by omega)
        refine x_lv [(0, .ref x), (1, .int (nI 0))] [1, 0] rfl ?_
        refine x_ws [(x, OB 4 [.ref qw, .ref qv, .ref qt, .int ri, .ref qd, .ref qc, .ref ql]), (qw, OB 3 [.ref wa, .ref wo, .int (nI co)]), (wa, AI cI 40 (thF fs bw co)), (wo, AI cI 40 (thF (fun _ => nI 0) cw co)), (qv, OB 3 [.ref pa, .ref po, .int (nI 0)]), (pa, AI cI 40 (thF (fun y0 => (nI 1) <<< (ft y0 &&& 31)) bp 0)), (po, AI cI 40 (thF (fun _ => nI 1) cp 0)), (qd, OB 1 [.ref dr, .ref dk, .ref ds, .ref dt, .int (nI co), .int (nI dn)]), (dr, AJ cJ 40 fr), (dk, AJ cJ 40 fk), (ds, AI cI 40 fs), (dt, AI cI 40 ft)] (by rw [thF_0, thF_0]) ?_
        exact LB_4 (dn - 0 + 1) 0 (by first | assumption | omega) (Nat.lt_succ_self _)
      ·
        refine x_aload_n C dX4_threadAsNumbered_21 rfl 0 rfl ?_
        refine x_get C hK in_X4_threadAsNumbered_X4 0 rfl rfl 0 (by decide) (by decide +kernel) rfl rfl dX4_threadAsNumbered_22 ?_
        refine x_aload_n C dX4_threadAsNumbered_25 rfl 0 rfl ?_
        refine x_get C hK in_X4_threadAsNumbered_X4 0 rfl rfl 4 (by decide) (by decide +kernel) rfl rfl dX4_threadAsNumbered_26 ?_
        refine x_getN C hK hNW in_X4_threadAsNumbered_X1 7 rfl rfl 2 (by decide) 33 rfl rfl rfl dX4_threadAsNumbered_29 ?_
        refine x_iload_n C dX4_threadAsNumbered_32 rfl 1 rfl ?_
        refine x_iald C hK 10 0 rfl hI (by omega) (by omega) dX4_threadAsNumbered_33 ?_
        refine x_iconst C (nI 0) dX4_threadAsNumbered_34 (by decide +kernel) ?_
        refine x_calli (x_runVN C hK hNW (c_tr_add l D tys cI cJ hI hJ qw wa wo i (thF fs bw i) (thF (fun _ => nI 0) cw i) (fs i) (nI 0) (by first | omega | assumption)) ⟨va_cnB 2 C.2.2.2.2 gX4_threadAsNumbered_X3_add_n62 rfl rfl rfl (hNW.at 20 rfl) (C.2.2.2.2 (.initialized RX3) (by decide +kernel)) (by decide +kernel) ⟨by decide, by decide⟩, C.2.2.2.2 (.instanceMethod yX3_add) (by decide +kernel), C.2.2.2.2 (.selects RX3 yX3_add yX3_add) (by decide +kernel)⟩ [1, 2, 3] rfl (by decide) 1 3 rfl rfl rfl (st := []) rfl rfl (Nat.le_of_ble_eq_true rfl) dX4_threadAsNumbered_35 ⟨by first | decide | omega, by first | decide | omega⟩) hA [1, 2, 3] rfl [0, 4, 5, 6, 7, 8, 9, 10, 11] [(x, OB 4 [.ref qw, .ref qv, .ref qt, .int ri, .ref qd, .ref qc, .ref ql]), (qv, OB 3 [.ref pa, .ref po, .int (nI np)]), (pa, AI cI 40 bp), (po, AI cI 40 cp), (qd, OB 1 [.ref dr, .ref dk, .ref ds, .ref dt, .int (nI co), .int (nI dn)]), (dr, AJ cJ 40 fr), (dk, AJ cJ 40 fk), (ds, AI cI 40 fs), (dt, AI cI 40 ft)] rfl (by decide) (by decide) [0, 9, 10, 11, 1, 2, 3, 4, 5, 6, 7, 8] (by decide) (wf := (fun (u : Unit) => [(x, OB 4 [.ref qw, .ref qv, .ref qt, .int ri, .ref qd, .ref qc, .ref ql]), (qw, OB 3 [.ref wa, .ref wo, .int (nI (i + 1))]), (wa, AI cI 40 (upd (thF fs bw i) i (fs i))), (wo, AI cI 40 (upd (thF (fun _ => nI 0) cw i) i (nI 0))), (qv, OB 3 [.ref pa, .ref po, .int (nI np)]), (pa, AI cI 40 bp), (po, AI cI 40 cp), (qd, OB 1 [.ref dr, .ref dk, .ref ds, .ref dt, .int (nI co), .int (nI dn)]), (dr, AJ cJ 40 fr), (dk, AJ cJ 40 fk), (ds, AI cI 40 fs), (dt, AI cI 40 ft)])) (fun _ => rfl) (fun r_9 u h_10 => ?_)
        subst h_10
        refine x_pop C dX4_threadAsNumbered_38 rfl ?_
        refine xn_iinc C (i + 1) [(1, .int (nI (i + 1))), (0, .ref x)] dX4_threadAsNumbered_39 1 rfl (by rw [show Int32.ofInt 1 = nI 1 from by decide +kernel]; exact nI_add _ _) (by decide) rfl ?_
        refine x_goto C 10 dX4_threadAsNumbered_42 (by decide) ?_
        refine x_lv [(0, .ref x), (1, .int (nI (i + 1)))] [1, 0] rfl ?_
        refine x_ws [(x, OB 4 [.ref qw, .ref qv, .ref qt, .int ri, .ref qd, .ref qc, .ref ql]), (qw, OB 3 [.ref wa, .ref wo, .int (nI (i + 1))]), (wa, AI cI 40 (thF fs bw (i + 1))), (wo, AI cI 40 (thF (fun _ => nI 0) cw (i + 1))), (qv, OB 3 [.ref pa, .ref po, .int (nI np)]), (pa, AI cI 40 bp), (po, AI cI 40 cp), (qd, OB 1 [.ref dr, .ref dk, .ref ds, .ref dt, .int (nI co), .int (nI dn)]), (dr, AJ cJ 40 fr), (dk, AJ cJ 40 fk), (ds, AI cI 40 fs), (dt, AI cI 40 ft)] (by rw [thF_s, thF_s]) ?_
        exact ih_LA_1 (i + 1) (by first | assumption | omega) (by omega)
  refine x_lv [(0, .ref x), (1, .int (nI 0))] [1, 0] rfl ?_
  refine x_ws [(x, OB 4 [.ref qw, .ref qv, .ref qt, .int ri, .ref qd, .ref qc, .ref ql]), (qw, OB 3 [.ref wa, .ref wo, .int (nI 0)]), (wa, AI cI 40 (thF fs bw 0)), (wo, AI cI 40 (thF (fun _ => nI 0) cw 0)), (qv, OB 3 [.ref pa, .ref po, .int (nI np)]), (pa, AI cI 40 bp), (po, AI cI 40 cp), (qd, OB 1 [.ref dr, .ref dk, .ref ds, .ref dt, .int (nI co), .int (nI dn)]), (dr, AJ cJ 40 fr), (dk, AJ cJ 40 fk), (ds, AI cI 40 fs), (dt, AI cI 40 ft)] (by rw [thF_0, thF_0]) ?_
  exact LA_1 (co - 0 + 1) 0 (by first | assumption | omega) (Nat.lt_succ_self _)
abbrev rm_fitX1 : Room := { frames := 6, cells := 1, slots := 6, locals := 81 }
set_option maxRecDepth 100000 in
set_option maxHeartbeats 4000000 in
theorem c_fitX1 (l : Launch) (hl0 : l.stackTraces = false) (D : va_G) (tys : List (ClassId × FieldType)) (cI cJ : ClassId) (hI : tys[0]? = some (cI, .int)) (hJ : tys[1]? = some (cJ, .long)) (x : Nat) (qw : Nat) (qv : Nat) (qt : Nat) (ri : Int32) (qd : Nat) (qc : Nat) (ql : Nat) (dr : Nat) (dk : Nat) (ds : Nat) (dt : Nat) (co : Nat)  : XI l yX4_fit wsX4_fit rm_fitX1 D tys [.ref x] [(x, OB 4 [.ref qw, .ref qv, .ref qt, .int ri, .ref qd, .ref qc, .ref ql]), (qd, OB 1 [.ref dr, .ref dk, .ref ds, .ref dt, .int (nI co), .int (nI 0)])] Unit (fun _ _ => False) (fun _ => [(x, OB 4 [.ref qw, .ref qv, .ref qt, .int ri, .ref qd, .ref qc, .ref ql]), (qd, OB 1 [.ref dr, .ref dk, .ref ds, .ref dt, .int (nI co), .int (nI 0)])]) [(x, OB 4 [.ref qw, .ref qv, .ref qt, .int ri, .ref qd, .ref qc, .ref ql]), (qd, OB 1 [.ref dr, .ref dk, .ref ds, .ref dt, .int (nI co), .int (nI 0)])] (fun E => E = "java/lang/IllegalStateException") 1 6 := by
  intro sz
  refine x_metX (cc := cX4_fit) (maxL := 3) (ret := (some .int)) (by decide +kernel) rfl (by show _ ≤ _; simp [lg_sl, Value.category]) [(0, .ref x)] rfl ?_
  intro p e s m args below meth c Q A H0 C hK hNW hlk hrt hnm hQ hH0 hAA hA hZ htab
  refine x_aload_n C dX4_fit_0 rfl 0 rfl ?_
  refine x_get C hK in_X4_fit_X4 0 rfl rfl 4 (by decide) (by decide +kernel) rfl rfl dX4_fit_1 ?_
  refine x_getN C hK hNW in_X4_fit_X1 1 rfl rfl 5 (by decide) 36 rfl rfl rfl dX4_fit_4 ?_
  refine xn_if_ne C 18 (by omega) dX4_fit_7 (by decide) (fun h_1 => ?_) (fun h_1 => ?_)
  ·
    exact absurd h_1 (by first | decide | omega)
  ·
    exact x_throw0 C hK hNW hl0 hlk htab hQ hH0 hAA hZ (cls := "java/lang/IllegalStateException") (names := ["java/lang/RuntimeException", "java/lang/Exception"]) (ik := 59) (ic := 61) (S := Unit) (by decide +kernel) (by decide +kernel) (by decide +kernel) (by decide +kernel) (by decide +kernel) (by decide +kernel) (by decide +kernel) dX4_fit_10 dX4_fit_13 dX4_fit_14 dX4_fit_17 (by decide) (by decide) (by decide) (by decide) rfl [0, 1] (by decide) rfl (by decide) (by decide)
abbrev rm_fitX2 : Room := { frames := 6, cells := 1, slots := 6, locals := 81 }
set_option maxRecDepth 100000 in
set_option maxHeartbeats 4000000 in
theorem c_fitX2 (l : Launch) (hl0 : l.stackTraces = false) (D : va_G) (tys : List (ClassId × FieldType)) (cI cJ : ClassId) (hI : tys[0]? = some (cI, .int)) (hJ : tys[1]? = some (cJ, .long)) (x : Nat) (qw : Nat) (qv : Nat) (qt : Nat) (ri : Int32) (qd : Nat) (qc : Nat) (ql : Nat) (dr : Nat) (dk : Nat) (ds : Nat) (dt : Nat) (co : Nat) (dn : Nat) (fr : Nat → Int64) (fk : Nat → Int64) (fs : Nat → Int32) (ft : Nat → Int32) (hco : co ≤ 40) (hdn : dn ≤ 40) (h0 : 0 < dn) (hx : 8 < tkn (clF fk fr dn co) co ∨ 10 < tkn fr dn) : XI l yX4_fit wsX4_fit rm_fitX2 D tys [.ref x] [(x, OB 4 [.ref qw, .ref qv, .ref qt, .int ri, .ref qd, .ref qc, .ref ql]), (qd, OB 1 [.ref dr, .ref dk, .ref ds, .ref dt, .int (nI co), .int (nI dn)]), (dr, AJ cJ 40 fr), (dk, AJ cJ 40 fk), (ds, AI cI 40 fs), (dt, AI cI 40 ft)] Unit (fun _ _ => False) (fun _ => [(x, OB 4 [.ref qw, .ref qv, .ref qt, .int ri, .ref qd, .ref qc, .ref ql]), (qd, OB 1 [.ref dr, .ref dk, .ref ds, .ref dt, .int (nI co), .int (nI dn)]), (dr, AJ cJ 40 fr), (dk, AJ cJ 40 fk), (ds, AI cI 40 fs), (dt, AI cI 40 ft)]) [(x, OB 4 [.ref qw, .ref qv, .ref qt, .int ri, .ref qd, .ref qc, .ref ql]), (qd, OB 1 [.ref dr, .ref dk, .ref ds, .ref dt, .int (nI co), .int (nI dn)]), (dr, AJ cJ 40 fr), (dk, AJ cJ 40 (clF fk fr dn co)), (ds, AI cI 40 (cpN fs (clF fk fr dn co) co)), (dt, AI cI 40 (cpN ft fr dn))] (fun E => E = "java/lang/IllegalStateException") 1 6 := by
  intro sz
  refine x_metX (cc := cX4_fit) (maxL := 3) (ret := (some .int)) (by decide +kernel) rfl (by show _ ≤ _; simp [lg_sl, Value.category]) [(0, .ref x)] rfl ?_
  intro p e s m args below meth c Q A H0 C hK hNW hlk hrt hnm hQ hH0 hAA hA hZ htab
  have hb1 := tkn_le (clF fk fr dn co) co
  have hb2 := tkn_le fr dn
  refine x_aload_n C dX4_fit_0 rfl 0 rfl ?_
  refine x_get C hK in_X4_fit_X4 0 rfl rfl 4 (by decide) (by decide +kernel) rfl rfl dX4_fit_1 ?_
  refine x_getN C hK hNW in_X4_fit_X1 1 rfl rfl 5 (by decide) 36 rfl rfl rfl dX4_fit_4 ?_
  refine xn_if_ne C 18 (by omega) dX4_fit_7 (by decide) (fun h_1 => ?_) (fun h_1 => ?_)
  ·
    refine x_aload_n C dX4_fit_18 rfl 0 rfl ?_
    refine x_get C hK in_X4_fit_X4 0 rfl rfl 4 (by decide) (by decide +kernel) rfl rfl dX4_fit_19 ?_
    refine x_calli (x_runVN C hK hNW (c_dr_cols l D tys cI cJ hI hJ qd dr dk ds dt co dn fr fk fs ft (by first | omega | assumption) (by first | omega | assumption)) ⟨va_cnB 0 C.2.2.2.2 gX4_fit_X1_numberColumns_n159 rfl rfl rfl (hNW.at 26 rfl) (C.2.2.2.2 (.initialized RX1) (by decide +kernel)) (by decide +kernel) ⟨by decide, by decide⟩, C.2.2.2.2 (.instanceMethod yX1_numberColumns) (by decide +kernel), C.2.2.2.2 (.selects RX1 yX1_numberColumns yX1_numberColumns) (by decide +kernel)⟩ [1, 2, 3, 4, 5] rfl (by decide) 1 1 rfl rfl rfl (st := []) rfl rfl (Nat.le_of_ble_eq_true rfl) dX4_fit_22 ⟨by first | decide | omega, by first | decide | omega⟩) hA [1, 2, 3, 4, 5] rfl [0] [(x, OB 4 [.ref qw, .ref qv, .ref qt, .int ri, .ref qd, .ref qc, .ref ql])] rfl (by decide) (by decide) [0, 1, 2, 3, 4, 5] (by decide) (wf := (fun (u : Unit) => [(x, OB 4 [.ref qw, .ref qv, .ref qt, .int ri, .ref qd, .ref qc, .ref ql]), (qd, OB 1 [.ref dr, .ref dk, .ref ds, .ref dt, .int (nI co), .int (nI dn)]), (dr, AJ cJ 40 fr), (dk, AJ cJ 40 (clF fk fr dn co)), (ds, AI cI 40 (cpN fs (clF fk fr dn co) co)), (dt, AI cI 40 ft)])) (fun _ => rfl) (fun r_2 u h_3 => ?_)
    subst h_3
    refine x_istore_n C [(1, .int (nI (tkn (clF fk fr dn co) co))), (0, .ref x)] dX4_fit_25 rfl (by decide) rfl ?_
    refine x_aload_n C dX4_fit_26 rfl 1 rfl ?_
    refine x_get C hK in_X4_fit_X4 0 rfl rfl 4 (by decide) (by decide +kernel) rfl rfl dX4_fit_27 ?_
    refine x_calli (x_runVN C hK hNW (c_dr_rows l D tys cI cJ hI hJ qd dr dk ds dt co dn fr (clF fk fr dn co) (cpN fs (clF fk fr dn co) co) ft (by first | omega | assumption) (by first | omega | assumption)) ⟨va_cnB 0 C.2.2.2.2 gX4_fit_X1_numberRows_n162 rfl rfl rfl (hNW.at 28 rfl) (C.2.2.2.2 (.initialized RX1) (by decide +kernel)) (by decide +kernel) ⟨by decide, by decide⟩, C.2.2.2.2 (.instanceMethod yX1_numberRows) (by decide +kernel), C.2.2.2.2 (.selects RX1 yX1_numberRows yX1_numberRows) (by decide +kernel)⟩ [1, 2, 3, 4, 5] rfl (by decide) 1 1 rfl rfl rfl (st := []) rfl rfl (Nat.le_of_ble_eq_true rfl) dX4_fit_30 ⟨by first | decide | omega, by first | decide | omega⟩) hA [1, 2, 3, 4, 5] rfl [0] [(x, OB 4 [.ref qw, .ref qv, .ref qt, .int ri, .ref qd, .ref qc, .ref ql])] rfl (by decide) (by decide) [0, 1, 2, 3, 4, 5] (by decide) (wf := (fun (u : Unit) => [(x, OB 4 [.ref qw, .ref qv, .ref qt, .int ri, .ref qd, .ref qc, .ref ql]), (qd, OB 1 [.ref dr, .ref dk, .ref ds, .ref dt, .int (nI co), .int (nI dn)]), (dr, AJ cJ 40 fr), (dk, AJ cJ 40 (clF fk fr dn co)), (ds, AI cI 40 (cpN fs (clF fk fr dn co) co)), (dt, AI cI 40 (cpN ft fr dn))])) (fun _ => rfl) (fun r_4 u h_5 => ?_)
    subst h_5
    refine x_istore_n C [(2, .int (nI (tkn fr dn))), (1, .int (nI (tkn (clF fk fr dn co) co))), (0, .ref x)] dX4_fit_33 rfl (by decide) rfl ?_
    refine x_iload_n C dX4_fit_34 rfl 1 rfl ?_
    refine x_bipush C (nI 8) dX4_fit_35 (by decide +kernel) ?_
    refine xn_icmp_gt C 46 (by omega) (by omega) dX4_fit_37 (by decide) (fun h_6 => ?_) (fun h_6 => ?_)
    ·
      exact x_throw0 C hK hNW hl0 hlk htab hQ hH0 hAA hZ (cls := "java/lang/IllegalStateException") (names := ["java/lang/RuntimeException", "java/lang/Exception"]) (ik := 59) (ic := 61) (S := Unit) (by decide +kernel) (by decide +kernel) (by decide +kernel) (by decide +kernel) (by decide +kernel) (by decide +kernel) (by decide +kernel) dX4_fit_46 dX4_fit_49 dX4_fit_50 dX4_fit_53 (by decide) (by decide) (by decide) (by decide) rfl [0, 1, 2, 3, 4, 5] (by decide) rfl (by decide) (by decide)
    ·
      refine x_iload_n C dX4_fit_40 rfl 0 rfl ?_
      refine x_bipush C (nI 10) dX4_fit_41 (by decide +kernel) ?_
      refine xn_icmp_le C 54 (by omega) (by omega) dX4_fit_43 (by decide) (fun h_7 => ?_) (fun h_7 => ?_)
      ·
        exact False.elim (by omega)
      ·
        exact x_throw0 C hK hNW hl0 hlk htab hQ hH0 hAA hZ (cls := "java/lang/IllegalStateException") (names := ["java/lang/RuntimeException", "java/lang/Exception"]) (ik := 59) (ic := 61) (S := Unit) (by decide +kernel) (by decide +kernel) (by decide +kernel) (by decide +kernel) (by decide +kernel) (by decide +kernel) (by decide +kernel) dX4_fit_46 dX4_fit_49 dX4_fit_50 dX4_fit_53 (by decide) (by decide) (by decide) (by decide) rfl [0, 1, 2, 3, 4, 5] (by decide) rfl (by decide) (by decide)
  ·
    exact absurd h_1 (by omega)
abbrev rm_fit : Room := { frames := 3, cells := 0, slots := 0, locals := 68 }
set_option maxRecDepth 100000 in
set_option maxHeartbeats 4000000 in
theorem c_fit (l : Launch) (D : va_G) (tys : List (ClassId × FieldType)) (cI cJ : ClassId) (hI : tys[0]? = some (cI, .int)) (hJ : tys[1]? = some (cJ, .long)) (x : Nat) (qw : Nat) (qv : Nat) (qt : Nat) (ri : Int32) (qd : Nat) (qc : Nat) (ql : Nat) (wa : Nat) (wo : Nat) (nw : Nat) (bw : Nat → Int32) (cw : Nat → Int32) (pa : Nat) (po : Nat) (np : Nat) (bp : Nat → Int32) (cp : Nat → Int32) (ti : Nat → Int32) (dr : Nat) (dk : Nat) (ds : Nat) (dt : Nat) (co : Nat) (dn : Nat) (fr : Nat → Int64) (fk : Nat → Int64) (fs : Nat → Int32) (ft : Nat → Int32) (hco : co ≤ 40) (hdn : dn ≤ 40) (h0 : 0 < dn) (h8 : tkn (clF fk fr dn co) co ≤ 8) (h10 : tkn fr dn ≤ 10) : MI l yX4_fit wsX4_fit rm_fit D tys [.ref x] [(x, OB 4 [.ref qw, .ref qv, .ref qt, .int ri, .ref qd, .ref qc, .ref ql]), (qw, OB 3 [.ref wa, .ref wo, .int (nI nw)]), (wa, AI cI 40 bw), (wo, AI cI 40 cw), (qv, OB 3 [.ref pa, .ref po, .int (nI np)]), (pa, AI cI 40 bp), (po, AI cI 40 cp), (qt, AI cI 10 ti), (qd, OB 1 [.ref dr, .ref dk, .ref ds, .ref dt, .int (nI co), .int (nI dn)]), (dr, AJ cJ 40 fr), (dk, AJ cJ 40 fk), (ds, AI cI 40 fs), (dt, AI cI 40 ft)] Unit (fun r (_ : Unit) => r = nI (tkn (clF fk fr dn co) co)) (fun (_ : Unit) => [(x, OB 4 [.ref qw, .ref qv, .ref qt, .int ri, .ref qd, .ref qc, .ref ql]), (qw, OB 3 [.ref wa, .ref wo, .int (nI co)]), (wa, AI cI 40 (thF (cpN fs (clF fk fr dn co) co) bw co)), (wo, AI cI 40 (thF (fun _ => nI 0) cw co)), (qv, OB 3 [.ref pa, .ref po, .int (nI dn)]), (pa, AI cI 40 (thF (fun y0 => (nI 1) <<< ((cpN ft fr dn) y0 &&& 31)) bp dn)), (po, AI cI 40 (thF (fun _ => nI 1) cp dn)), (qt, AI cI 10 (tiF ri fr (cpN fs (clF fk fr dn co) co) co (flF ti 0 10) dn)), (qd, OB 1 [.ref dr, .ref dk, .ref ds, .ref dt, .int (nI co), .int (nI dn)]), (dr, AJ cJ 40 fr), (dk, AJ cJ 40 (clF fk fr dn co)), (ds, AI cI 40 (cpN fs (clF fk fr dn co) co)), (dt, AI cI 40 (cpN ft fr dn))]) 0 0 := by
  intro sz
  refine x_met (cc := cX4_fit) (maxL := 3) (ret := (some .int)) (by decide +kernel) rfl (by show _ ≤ _; simp [lg_sl, Value.category]) [(0, .ref x)] rfl ?_
  intro p e s m args below meth c Q A H0 C hK hNW hlk hrt hnm hQ hH0 hAA hA
  have hb1 := tkn_le (clF fk fr dn co) co
  have hb2 := tkn_le fr dn
  refine x_aload_n C dX4_fit_0 rfl 0 rfl ?_
  refine x_get C hK in_X4_fit_X4 0 rfl rfl 4 (by decide) (by decide +kernel) rfl rfl dX4_fit_1 ?_
  refine x_getN C hK hNW in_X4_fit_X1 8 rfl rfl 5 (by decide) 36 rfl rfl rfl dX4_fit_4 ?_
  refine xn_if_ne C 18 (by omega) dX4_fit_7 (by decide) (fun h_1 => ?_) (fun h_1 => ?_)
  ·
    refine x_aload_n C dX4_fit_18 rfl 0 rfl ?_
    refine x_get C hK in_X4_fit_X4 0 rfl rfl 4 (by decide) (by decide +kernel) rfl rfl dX4_fit_19 ?_
    refine x_calli (x_runVN C hK hNW (c_dr_cols l D tys cI cJ hI hJ qd dr dk ds dt co dn fr fk fs ft (by first | omega | assumption) (by first | omega | assumption)) ⟨va_cnB 0 C.2.2.2.2 gX4_fit_X1_numberColumns_n159 rfl rfl rfl (hNW.at 26 rfl) (C.2.2.2.2 (.initialized RX1) (by decide +kernel)) (by decide +kernel) ⟨by decide, by decide⟩, C.2.2.2.2 (.instanceMethod yX1_numberColumns) (by decide +kernel), C.2.2.2.2 (.selects RX1 yX1_numberColumns yX1_numberColumns) (by decide +kernel)⟩ [8, 9, 10, 11, 12] rfl (by decide) 8 1 rfl rfl rfl (st := []) rfl rfl (Nat.le_of_ble_eq_true rfl) dX4_fit_22 ⟨by first | decide | omega, by first | decide | omega⟩) hA [8, 9, 10, 11, 12] rfl [0, 1, 2, 3, 4, 5, 6, 7] [(x, OB 4 [.ref qw, .ref qv, .ref qt, .int ri, .ref qd, .ref qc, .ref ql]), (qw, OB 3 [.ref wa, .ref wo, .int (nI nw)]), (wa, AI cI 40 bw), (wo, AI cI 40 cw), (qv, OB 3 [.ref pa, .ref po, .int (nI np)]), (pa, AI cI 40 bp), (po, AI cI 40 cp), (qt, AI cI 10 ti)] rfl (by decide) (by decide) [0, 1, 2, 3, 4, 5, 6, 7, 8, 9, 10, 11, 12] (by decide) (wf := (fun (u : Unit) => [(x, OB 4 [.ref qw, .ref qv, .ref qt, .int ri, .ref qd, .ref qc, .ref ql]), (qw, OB 3 [.ref wa, .ref wo, .int (nI nw)]), (wa, AI cI 40 bw), (wo, AI cI 40 cw), (qv, OB 3 [.ref pa, .ref po, .int (nI np)]), (pa, AI cI 40 bp), (po, AI cI 40 cp), (qt, AI cI 10 ti), (qd, OB 1 [.ref dr, .ref dk, .ref ds, .ref dt, .int (nI co), .int (nI dn)]), (dr, AJ cJ 40 fr), (dk, AJ cJ 40 (clF fk fr dn co)), (ds, AI cI 40 (cpN fs (clF fk fr dn co) co)), (dt, AI cI 40 ft)])) (fun _ => rfl) (fun r_2 u h_3 => ?_)
    subst h_3
    refine x_istore_n C [(1, .int (nI (tkn (clF fk fr dn co) co))), (0, .ref x)] dX4_fit_25 rfl (by decide) rfl ?_
    refine x_aload_n C dX4_fit_26 rfl 1 rfl ?_
    refine x_get C hK in_X4_fit_X4 0 rfl rfl 4 (by decide) (by decide +kernel) rfl rfl dX4_fit_27 ?_
    refine x_calli (x_runVN C hK hNW (c_dr_rows l D tys cI cJ hI hJ qd dr dk ds dt co dn fr (clF fk fr dn co) (cpN fs (clF fk fr dn co) co) ft (by first | omega | assumption) (by first | omega | assumption)) ⟨va_cnB 0 C.2.2.2.2 gX4_fit_X1_numberRows_n162 rfl rfl rfl (hNW.at 28 rfl) (C.2.2.2.2 (.initialized RX1) (by decide +kernel)) (by decide +kernel) ⟨by decide, by decide⟩, C.2.2.2.2 (.instanceMethod yX1_numberRows) (by decide +kernel), C.2.2.2.2 (.selects RX1 yX1_numberRows yX1_numberRows) (by decide +kernel)⟩ [8, 9, 10, 11, 12] rfl (by decide) 8 1 rfl rfl rfl (st := []) rfl rfl (Nat.le_of_ble_eq_true rfl) dX4_fit_30 ⟨by first | decide | omega, by first | decide | omega⟩) hA [8, 9, 10, 11, 12] rfl [0, 1, 2, 3, 4, 5, 6, 7] [(x, OB 4 [.ref qw, .ref qv, .ref qt, .int ri, .ref qd, .ref qc, .ref ql]), (qw, OB 3 [.ref wa, .ref wo, .int (nI nw)]), (wa, AI cI 40 bw), (wo, AI cI 40 cw), (qv, OB 3 [.ref pa, .ref po, .int (nI np)]), (pa, AI cI 40 bp), (po, AI cI 40 cp), (qt, AI cI 10 ti)] rfl (by decide) (by decide) [0, 1, 2, 3, 4, 5, 6, 7, 8, 9, 10, 11, 12] (by decide) (wf := (fun (u : Unit) => [(x, OB 4 [.ref qw, .ref qv, .ref qt, .int ri, .ref qd, .ref qc, .ref ql]), (qw, OB 3 [.ref wa, .ref wo, .int (nI nw)]), (wa, AI cI 40 bw), (wo, AI cI 40 cw), (qv, OB 3 [.ref pa, .ref po, .int (nI np)]), (pa, AI cI 40 bp), (po, AI cI 40 cp), (qt, AI cI 10 ti), (qd, OB 1 [.ref dr, .ref dk, .ref ds, .ref dt, .int (nI co), .int (nI dn)]), (dr, AJ cJ 40 fr), (dk, AJ cJ 40 (clF fk fr dn co)), (ds, AI cI 40 (cpN fs (clF fk fr dn co) co)), (dt, AI cI 40 (cpN ft fr dn))])) (fun _ => rfl) (fun r_4 u h_5 => ?_)
    subst h_5
    refine x_istore_n C [(2, .int (nI (tkn fr dn))), (1, .int (nI (tkn (clF fk fr dn co) co))), (0, .ref x)] dX4_fit_33 rfl (by decide) rfl ?_
    refine x_iload_n C dX4_fit_34 rfl 1 rfl ?_
    refine x_bipush C (nI 8) dX4_fit_35 (by decide +kernel) ?_
    refine xn_icmp_gt C 46 (by omega) (by omega) dX4_fit_37 (by decide) (fun h_6 => ?_) (fun h_6 => ?_)
    ·
      exact False.elim (by omega)
    ·
      refine x_iload_n C dX4_fit_40 rfl 0 rfl ?_
      refine x_bipush C (nI 10) dX4_fit_41 (by decide +kernel) ?_
      refine xn_icmp_le C 54 (by omega) (by omega) dX4_fit_43 (by decide) (fun h_7 => ?_) (fun h_7 => ?_)
      ·
        refine x_aload_n C dX4_fit_54 rfl 2 rfl ?_
        refine x_callv (x_runV C hK hNW (c_tieAs l D tys cI cJ hI hJ x qw qv qt ri qd qc ql ti dr dk ds dt co dn fr (clF fk fr dn co) (cpN fs (clF fk fr dn co) co) ft (by first | omega | assumption) (by first | omega | assumption) (by first | omega | assumption)) (cwV 0 C.2.2.2.2 gX4_fit_X4_tieAsNumbered rfl rfl rfl (by decide +kernel) ⟨by decide, by decide⟩) [0, 7, 8, 9, 10, 11, 12] rfl (by decide) 0 4 rfl rfl rfl (st := []) rfl rfl (Nat.le_of_ble_eq_true rfl) dX4_fit_55 ⟨by first | decide | omega, by first | decide | omega⟩) hA [0, 7, 8, 9, 10, 11, 12] rfl [1, 2, 3, 4, 5, 6] [(qw, OB 3 [.ref wa, .ref wo, .int (nI nw)]), (wa, AI cI 40 bw), (wo, AI cI 40 cw), (qv, OB 3 [.ref pa, .ref po, .int (nI np)]), (pa, AI cI 40 bp), (po, AI cI 40 cp)] rfl (by decide) (by decide) [6, 0, 1, 2, 3, 4, 5, 7, 8, 9, 10, 11, 12] (by decide) (wf := (fun (u : Unit) => [(x, OB 4 [.ref qw, .ref qv, .ref qt, .int ri, .ref qd, .ref qc, .ref ql]), (qw, OB 3 [.ref wa, .ref wo, .int (nI nw)]), (wa, AI cI 40 bw), (wo, AI cI 40 cw), (qv, OB 3 [.ref pa, .ref po, .int (nI np)]), (pa, AI cI 40 bp), (po, AI cI 40 cp), (qt, AI cI 10 (tiF ri fr (cpN fs (clF fk fr dn co) co) co (flF ti 0 10) dn)), (qd, OB 1 [.ref dr, .ref dk, .ref ds, .ref dt, .int (nI co), .int (nI dn)]), (dr, AJ cJ 40 fr), (dk, AJ cJ 40 (clF fk fr dn co)), (ds, AI cI 40 (cpN fs (clF fk fr dn co) co)), (dt, AI cI 40 (cpN ft fr dn))])) (fun _ => rfl) (fun u h_9 => ?_)
        refine x_aload_n C dX4_fit_58 rfl 2 rfl ?_
        refine x_callv (x_runV C hK hNW (c_threadAs l D tys cI cJ hI hJ x qw qv qt ri qd qc ql wa wo nw bw cw pa po np bp cp dr dk ds dt co dn fr (clF fk fr dn co) (cpN fs (clF fk fr dn co) co) (cpN ft fr dn) (by first | omega | assumption) (by first | omega | assumption)) (cwV 0 C.2.2.2.2 gX4_fit_X4_threadAsNumbered rfl rfl rfl (by decide +kernel) ⟨by decide, by decide⟩) [0, 1, 2, 3, 4, 5, 6, 8, 9, 10, 11, 12] rfl (by decide) 0 4 rfl rfl rfl (st := []) rfl rfl (Nat.le_of_ble_eq_true rfl) dX4_fit_59 ⟨by first | decide | omega, by first | decide | omega⟩) hA [0, 1, 2, 3, 4, 5, 6, 8, 9, 10, 11, 12] rfl [7] [(qt, AI cI 10 (tiF ri fr (cpN fs (clF fk fr dn co) co) co (flF ti 0 10) dn))] rfl (by decide) (by decide) [1, 2, 3, 4, 5, 6, 7, 0, 8, 9, 10, 11, 12] (by decide) (wf := (fun (u : Unit) => [(x, OB 4 [.ref qw, .ref qv, .ref qt, .int ri, .ref qd, .ref qc, .ref ql]), (qw, OB 3 [.ref wa, .ref wo, .int (nI co)]), (wa, AI cI 40 (thF (cpN fs (clF fk fr dn co) co) bw co)), (wo, AI cI 40 (thF (fun _ => nI 0) cw co)), (qv, OB 3 [.ref pa, .ref po, .int (nI dn)]), (pa, AI cI 40 (thF (fun y0 => (nI 1) <<< ((cpN ft fr dn) y0 &&& 31)) bp dn)), (po, AI cI 40 (thF (fun _ => nI 1) cp dn)), (qt, AI cI 10 (tiF ri fr (cpN fs (clF fk fr dn co) co) co (flF ti 0 10) dn)), (qd, OB 1 [.ref dr, .ref dk, .ref ds, .ref dt, .int (nI co), .int (nI dn)]), (dr, AJ cJ 40 fr), (dk, AJ cJ 40 (clF fk fr dn co)), (ds, AI cI 40 (cpN fs (clF fk fr dn co) co)), (dt, AI cI 40 (cpN ft fr dn))])) (fun _ => rfl) (fun u h_11 => ?_)
        refine x_iload_n C dX4_fit_62 rfl 1 rfl ?_
        refine x_iret C hK hlk hrt hQ hH0 hAA () ?_ [0, 1, 2, 3, 4, 5, 6, 7, 8, 9, 10, 11, 12] (by decide) rfl (by first | decide | omega) (by first | decide | omega) dX4_fit_63
        first | rfl | (exact ⟨rfl, rfl⟩) | trivial | assumption | omega
      ·
        exact False.elim (by omega)
  ·
    exact absurd h_1 (by omega)
abbrev rm_diffX : Room := { frames := 0, cells := 0, slots := 0, locals := 0 }
set_option maxRecDepth 100000 in
set_option maxHeartbeats 4000000 in
theorem c_diffX (l : Launch) (D : va_G) (tys : List (ClassId × FieldType)) (cI cJ : ClassId) (hI : tys[0]? = some (cI, .int)) (hJ : tys[1]? = some (cJ, .long)) (x : Nat) (qw : Nat) (qv : Nat) (qt : Nat) (ri : Int32) (qd : Nat) (qc : Nat) (ql : Nat) (wa : Nat) (wo : Nat) (nw : Nat) (bw : Nat → Int32) (cw : Nat → Int32) (pa : Nat) (po : Nat) (np : Nat) (bp : Nat → Int32) (cp : Nat → Int32) (dr : Nat) (dk : Nat) (ds : Nat) (dt : Nat) (co : Nat) (dn : Nat) (hnw : nw ≤ 40) (hnp : np ≤ 40) (hco : co ≤ 40) (hdn : dn ≤ 40) (hx : nw ≠ co ∨ np ≠ dn) : MI l yX4_differences wsX4_differences rm_diffX D tys [.ref x] [(x, OB 4 [.ref qw, .ref qv, .ref qt, .int ri, .ref qd, .ref qc, .ref ql]), (qw, OB 3 [.ref wa, .ref wo, .int (nI nw)]), (wa, AI cI 40 bw), (wo, AI cI 40 cw), (qv, OB 3 [.ref pa, .ref po, .int (nI np)]), (pa, AI cI 40 bp), (po, AI cI 40 cp), (qd, OB 1 [.ref dr, .ref dk, .ref ds, .ref dt, .int (nI co), .int (nI dn)])] Unit (fun r (_ : Unit) => r = -1) (fun (_ : Unit) => [(x, OB 4 [.ref qw, .ref qv, .ref qt, .int ri, .ref qd, .ref qc, .ref ql]), (qw, OB 3 [.ref wa, .ref wo, .int (nI nw)]), (wa, AI cI 40 bw), (wo, AI cI 40 cw), (qv, OB 3 [.ref pa, .ref po, .int (nI np)]), (pa, AI cI 40 bp), (po, AI cI 40 cp), (qd, OB 1 [.ref dr, .ref dk, .ref ds, .ref dt, .int (nI co), .int (nI dn)])]) 0 0 := by
  intro sz
  refine x_met (cc := cX4_differences) (maxL := 3) (ret := (some .int)) (by decide +kernel) rfl (by show _ ≤ _; simp [lg_sl, Value.category]) [(0, .ref x)] rfl ?_
  intro p e s m args below meth c Q A H0 C hK hNW hlk hrt hnm hQ hH0 hAA hA
  refine x_aload_n C dX4_differences_0 rfl 0 rfl ?_
  refine x_get C hK in_X4_differences_X4 0 rfl rfl 0 (by decide) (by decide +kernel) rfl rfl dX4_differences_1 ?_
  refine x_getN C hK hNW in_X4_differences_X3 1 rfl rfl 2 (by decide) 31 rfl rfl rfl dX4_differences_4 ?_
  refine x_aload_n C dX4_differences_7 rfl 0 rfl ?_
  refine x_get C hK in_X4_differences_X4 0 rfl rfl 4 (by decide) (by decide +kernel) rfl rfl dX4_differences_8 ?_
  refine x_getN C hK hNW in_X4_differences_X1 7 rfl rfl 4 (by decide) 35 rfl rfl rfl dX4_differences_11 ?_
  refine xn_icmp_ne C 34 (by omega) (by omega) dX4_differences_14 (by decide) (fun h_1 => ?_) (fun h_1 => ?_)
  ·
    refine x_iconst C (-1 : Int32) dX4_differences_34 (by decide +kernel) ?_
    refine x_iret C hK hlk hrt hQ hH0 hAA () ?_ [0, 1, 2, 3, 4, 5, 6, 7] (by decide) rfl (by first | decide | omega) (by first | decide | omega) dX4_differences_35
    first | rfl | (exact ⟨rfl, rfl⟩) | trivial | assumption | omega
  ·
    refine x_aload_n C dX4_differences_17 rfl 0 rfl ?_
    refine x_get C hK in_X4_differences_X4 0 rfl rfl 1 (by decide) (by decide +kernel) rfl rfl dX4_differences_18 ?_
    refine x_getN C hK hNW in_X4_differences_X3 4 rfl rfl 2 (by decide) 31 rfl rfl rfl dX4_differences_21 ?_
    refine x_aload_n C dX4_differences_24 rfl 0 rfl ?_
    refine x_get C hK in_X4_differences_X4 0 rfl rfl 4 (by decide) (by decide +kernel) rfl rfl dX4_differences_25 ?_
    refine x_getN C hK hNW in_X4_differences_X1 7 rfl rfl 5 (by decide) 36 rfl rfl rfl dX4_differences_28 ?_
    refine xn_icmp_eq C 36 (by omega) (by omega) dX4_differences_31 (by decide) (fun h_2 => ?_) (fun h_2 => ?_)
    ·
      exact False.elim (by omega)
    ·
      refine x_iconst C (-1 : Int32) dX4_differences_34 (by decide +kernel) ?_
      refine x_iret C hK hlk hrt hQ hH0 hAA () ?_ [0, 1, 2, 3, 4, 5, 6, 7] (by decide) rfl (by first | decide | omega) (by first | decide | omega) dX4_differences_35
      first | rfl | (exact ⟨rfl, rfl⟩) | trivial | assumption | omega
abbrev rm_diff : Room := { frames := 4, cells := 0, slots := 0, locals := 93 }
set_option maxRecDepth 100000 in
set_option maxHeartbeats 4000000 in
theorem c_diff (l : Launch) (D : va_G) (tys : List (ClassId × FieldType)) (cI cJ : ClassId) (hI : tys[0]? = some (cI, .int)) (hJ : tys[1]? = some (cJ, .long)) (x : Nat) (qw : Nat) (qv : Nat) (qt : Nat) (ri : Int32) (qd : Nat) (qc : Nat) (ql : Nat) (wa : Nat) (wo : Nat) (nw : Nat) (bw : Nat → Int32) (cw : Nat → Int32) (pa : Nat) (po : Nat) (np : Nat) (bp : Nat → Int32) (cp : Nat → Int32) (ti : Nat → Int32) (ce : Nat) (cf : Nat) (ven : Int32) (vpn : Int32) (fe : Nat → Int64) (ff : Nat → Int32) (dr : Nat) (dk : Nat) (ds : Nat) (dt : Nat) (fr : Nat → Int64) (hnw : nw ≤ 40) (hnp : np ≤ 40) : MI l yX4_differences wsX4_differences rm_diff D tys [.ref x] [(x, OB 4 [.ref qw, .ref qv, .ref qt, .int ri, .ref qd, .ref qc, .ref ql]), (qw, OB 3 [.ref wa, .ref wo, .int (nI nw)]), (wa, AI cI 40 bw), (wo, AI cI 40 cw), (qv, OB 3 [.ref pa, .ref po, .int (nI np)]), (pa, AI cI 40 bp), (po, AI cI 40 cp), (qt, AI cI 10 ti), (qc, OB 0 [.ref ce, .ref cf, .int ven, .int vpn]), (ce, AJ cJ 40 fe), (cf, AI cI 41 ff), (qd, OB 1 [.ref dr, .ref dk, .ref ds, .ref dt, .int (nI nw), .int (nI np)]), (dr, AJ cJ 40 fr)] Unit (fun r (_ : Unit) => r = dfS (wvF ri ti bp bw nw fe np) fr np) (fun (_ : Unit) => [(x, OB 4 [.ref qw, .ref qv, .ref qt, .int ri, .ref qd, .ref qc, .ref ql]), (qw, OB 3 [.ref wa, .ref wo, .int (nI nw)]), (wa, AI cI 40 bw), (wo, AI cI 40 cw), (qv, OB 3 [.ref pa, .ref po, .int (nI np)]), (pa, AI cI 40 bp), (po, AI cI 40 cp), (qt, AI cI 10 ti), (qc, OB 0 [.ref ce, .ref cf, .int (nI nw), .int (nI np)]), (ce, AJ cJ 40 (wvF ri ti bp bw nw fe np)), (cf, AI cI 41 ff), (qd, OB 1 [.ref dr, .ref dk, .ref ds, .ref dt, .int (nI nw), .int (nI np)]), (dr, AJ cJ 40 fr)]) 0 0 := by
  intro sz
  refine x_met (cc := cX4_differences) (maxL := 3) (ret := (some .int)) (by decide +kernel) rfl (by show _ ≤ _; simp [lg_sl, Value.category]) [(0, .ref x)] rfl ?_
  intro p e s m args below meth c Q A H0 C hK hNW hlk hrt hnm hQ hH0 hAA hA
  refine x_aload_n C dX4_differences_0 rfl 0 rfl ?_
  refine x_get C hK in_X4_differences_X4 0 rfl rfl 0 (by decide) (by decide +kernel) rfl rfl dX4_differences_1 ?_
  refine x_getN C hK hNW in_X4_differences_X3 1 rfl rfl 2 (by decide) 31 rfl rfl rfl dX4_differences_4 ?_
  refine x_aload_n C dX4_differences_7 rfl 0 rfl ?_
  refine x_get C hK in_X4_differences_X4 0 rfl rfl 4 (by decide) (by decide +kernel) rfl rfl dX4_differences_8 ?_
  refine x_getN C hK hNW in_X4_differences_X1 11 rfl rfl 4 (by decide) 35 rfl rfl rfl dX4_differences_11 ?_
  refine xn_icmp_ne C 34 (by omega) (by omega) dX4_differences_14 (by decide) (fun h_1 => ?_) (fun h_1 => ?_)
  ·
    exact absurd rfl h_1
  ·
    refine x_aload_n C dX4_differences_17 rfl 0 rfl ?_
    refine x_get C hK in_X4_differences_X4 0 rfl rfl 1 (by decide) (by decide +kernel) rfl rfl dX4_differences_18 ?_
    refine x_getN C hK hNW in_X4_differences_X3 4 rfl rfl 2 (by decide) 31 rfl rfl rfl dX4_differences_21 ?_
    refine x_aload_n C dX4_differences_24 rfl 0 rfl ?_
    refine x_get C hK in_X4_differences_X4 0 rfl rfl 4 (by decide) (by decide +kernel) rfl rfl dX4_differences_25 ?_
    refine x_getN C hK hNW in_X4_differences_X1 11 rfl rfl 5 (by decide) 36 rfl rfl rfl dX4_differences_28 ?_
    refine xn_icmp_eq C 36 (by omega) (by omega) dX4_differences_31 (by decide) (fun h_2 => ?_) (fun h_2 => ?_)
    ·
      refine x_aload_n C dX4_differences_36 rfl 0 rfl ?_
      refine x_callv (x_runV C hK hNW (c_weave l D tys cI cJ hI hJ x qw qv qt ri qd qc ql wa wo nw bw cw pa po np bp cp ti ce cf ven vpn fe ff (by first | omega | assumption) (by first | omega | assumption)) (cwV 0 C.2.2.2.2 gX4_differences_X4_weave rfl rfl rfl (by decide +kernel) ⟨by decide, by decide⟩) [0, 1, 2, 3, 4, 5, 6, 7, 8, 9, 10] rfl (by decide) 0 4 rfl rfl rfl (st := []) rfl rfl (Nat.le_of_ble_eq_true rfl) dX4_differences_37 ⟨by first | decide | omega, by first | decide | omega⟩) hA [0, 1, 2, 3, 4, 5, 6, 7, 8, 9, 10] rfl [11, 12] [(qd, OB 1 [.ref dr, .ref dk, .ref ds, .ref dt, .int (nI nw), .int (nI np)]), (dr, AJ cJ 40 fr)] rfl (by decide) (by decide) [2, 3, 4, 5, 6, 7, 8, 9, 10, 11, 12, 0, 1] (by decide) (wf := (fun (u : Unit) => [(x, OB 4 [.ref qw, .ref qv, .ref qt, .int ri, .ref qd, .ref qc, .ref ql]), (qw, OB 3 [.ref wa, .ref wo, .int (nI nw)]), (wa, AI cI 40 bw), (wo, AI cI 40 cw), (qv, OB 3 [.ref pa, .ref po, .int (nI np)]), (pa, AI cI 40 bp), (po, AI cI 40 cp), (qt, AI cI 10 ti), (qc, OB 0 [.ref ce, .ref cf, .int (nI nw), .int (nI np)]), (ce, AJ cJ 40 (wvF ri ti bp bw nw fe np)), (cf, AI cI 41 ff), (qd, OB 1 [.ref dr, .ref dk, .ref ds, .ref dt, .int (nI nw), .int (nI np)]), (dr, AJ cJ 40 fr)])) (fun _ => rfl) (fun u h_4 => ?_)
      refine x_iconst C (nI 0) dX4_differences_40 (by decide +kernel) ?_
      refine x_istore_n C [(1, .int (nI 0)), (0, .ref x)] dX4_differences_41 rfl (by decide) rfl ?_
      refine x_iconst C (nI 0) dX4_differences_42 (by decide +kernel) ?_
      refine x_istore_n C [(2, .int (nI 0)), (1, .int (nI 0)), (0, .ref x)] dX4_differences_43 rfl (by decide) rfl ?_
      have K_5 : ∀ (fuel : Nat) (i : Nat), (i ≤ np) → np - i < fuel → X_ p l e rm_diff s m args below meth c Q D A H0 3 0 0 [(x, OB 4 [.ref qw, .ref qv, .ref qt, .int ri, .ref qd, .ref qc, .ref ql]), (qw, OB 3 [.ref wa, .ref wo, .int (nI nw)]), (wa, AI cI 40 bw), (wo, AI cI 40 cw), (qv, OB 3 [.ref pa, .ref po, .int (nI np)]), (pa, AI cI 40 bp), (po, AI cI 40 cp), (qt, AI cI 10 ti), (qc, OB 0 [.ref ce, .ref cf, .int (nI nw), .int (nI np)]), (ce, AJ cJ 40 (wvF ri ti bp bw nw fe np)), (cf, AI cI 41 ff), (qd, OB 1 [.ref dr, .ref dk, .ref ds, .ref dt, .int (nI nw), .int (nI np)]), (dr, AJ cJ 40 fr)] [(0, .ref x), (1, .int (dfS (wvF ri ti bp bw nw fe np) fr i)), (2, .int (nI i))] 44 [] := by
        intro fuel
        induction fuel with
        | zero =>
          intros
          exact absurd (by assumption) (Nat.not_lt_zero _)
        | succ fuel ih_K_5 =>
          intro i hi hm_6
          refine x_iload_n C dX4_differences_44 rfl 2 rfl ?_
          refine x_aload_n C dX4_differences_45 rfl 0 rfl ?_
          refine x_get C hK in_X4_differences_X4 0 rfl rfl 4 (by decide) (by decide +kernel) rfl rfl dX4_differences_46 ?_
          refine x_getN C hK hNW in_X4_differences_X1 11 rfl rfl 5 (by decide) 36 rfl rfl rfl dX4_differences_49 ?_
          refine xn_icmp_ge C 86 (by omega) (by omega) dX4_differences_52 (by decide) (fun h_7 => ?_) (fun h_7 => ?_)
          ·
            have heq_i : np = i := by omega
            subst heq_i
            refine x_iload_n C dX4_differences_86 rfl 1 rfl ?_
            refine x_iret C hK hlk hrt hQ hH0 hAA () ?_ [0, 1, 2, 3, 4, 5, 6, 7, 8, 9, 10, 11, 12] (by decide) rfl (by first | decide | omega) (by first | decide | omega) dX4_differences_87
            first | rfl | (exact ⟨rfl, rfl⟩) | trivial | assumption | omega
          ·
            refine x_iload_n C dX4_differences_55 rfl 1 rfl ?_
            refine x_aload_n C dX4_differences_56 rfl 0 rfl ?_
            refine x_get C hK in_X4_differences_X4 0 rfl rfl 5 (by decide) (by decide +kernel) rfl rfl dX4_differences_57 ?_
            refine x_getN C hK hNW in_X4_differences_X0 8 rfl rfl 0 (by decide) 37 rfl rfl rfl dX4_differences_60 ?_
            refine x_iload_n C dX4_differences_63 rfl 2 rfl ?_
            refine x_lald C hK 9 1 rfl hJ (by omega) (by omega) dX4_differences_64 ?_
            refine x_aload_n C dX4_differences_65 rfl 0 rfl ?_
            refine x_get C hK in_X4_differences_X4 0 rfl rfl 4 (by decide) (by decide +kernel) rfl rfl dX4_differences_66 ?_
            refine x_getN C hK hNW in_X4_differences_X1 11 rfl rfl 0 (by decide) 32 rfl rfl rfl dX4_differences_69 ?_
            refine x_iload_n C dX4_differences_72 rfl 2 rfl ?_
            refine x_lald C hK 12 1 rfl hJ (by omega) (by omega) dX4_differences_73 ?_
            refine x_lxor C _ dX4_differences_74 rfl ?_
            refine x_calli (x_runS C hK hNW (c_bit64 l D tys cI cJ hI hJ (((wvF ri ti bp bw nw fe np) i) ^^^ (fr i)) ) (va_cwS 1 C.2.2.2.2 gX4_differences_J13_bitCount_95d88 rfl rfl rfl (by decide +kernel) ⟨by decide, by decide⟩) [] rfl (by decide) (st := [.int (dfS (wvF ri ti bp bw nw fe np) fr i)]) rfl rfl (Nat.le_of_ble_eq_true rfl) dX4_differences_75 ⟨by first | decide | omega, by first | decide | omega⟩) hA [] rfl [0, 1, 2, 3, 4, 5, 6, 7, 8, 9, 10, 11, 12] [(x, OB 4 [.ref qw, .ref qv, .ref qt, .int ri, .ref qd, .ref qc, .ref ql]), (qw, OB 3 [.ref wa, .ref wo, .int (nI nw)]), (wa, AI cI 40 bw), (wo, AI cI 40 cw), (qv, OB 3 [.ref pa, .ref po, .int (nI np)]), (pa, AI cI 40 bp), (po, AI cI 40 cp), (qt, AI cI 10 ti), (qc, OB 0 [.ref ce, .ref cf, .int (nI nw), .int (nI np)]), (ce, AJ cJ 40 (wvF ri ti bp bw nw fe np)), (cf, AI cI 41 ff), (qd, OB 1 [.ref dr, .ref dk, .ref ds, .ref dt, .int (nI nw), .int (nI np)]), (dr, AJ cJ 40 fr)] rfl (by decide) (by decide) [0, 1, 2, 3, 4, 5, 6, 7, 8, 9, 10, 11, 12] (by decide) (wf := (fun (u : Unit) => [(x, OB 4 [.ref qw, .ref qv, .ref qt, .int ri, .ref qd, .ref qc, .ref ql]), (qw, OB 3 [.ref wa, .ref wo, .int (nI nw)]), (wa, AI cI 40 bw), (wo, AI cI 40 cw), (qv, OB 3 [.ref pa, .ref po, .int (nI np)]), (pa, AI cI 40 bp), (po, AI cI 40 cp), (qt, AI cI 10 ti), (qc, OB 0 [.ref ce, .ref cf, .int (nI nw), .int (nI np)]), (ce, AJ cJ 40 (wvF ri ti bp bw nw fe np)), (cf, AI cI 41 ff), (qd, OB 1 [.ref dr, .ref dk, .ref ds, .ref dt, .int (nI nw), .int (nI np)]), (dr, AJ cJ 40 fr)])) (fun _ => rfl) (fun r_8 u h_9 => ?_)
            subst h_9
            refine x_iadd C _ dX4_differences_78 rfl ?_
            refine x_istore_n C [(1, .int ((dfS (wvF ri ti bp bw nw fe np) fr i) + (bc64 (((wvF ri ti bp bw nw fe np) i) ^^^ (fr i))))), (0, .ref x), (2, .int (nI i))] dX4_differences_79 rfl (by decide) rfl ?_
            refine xn_iinc C (i + 1) [(2, .int (nI (i + 1))), (1, .int ((dfS (wvF ri ti bp bw nw fe np) fr i) + (bc64 (((wvF ri ti bp bw nw fe np) i) ^^^ (fr i))))), (0, .ref x)] dX4_differences_80 2 rfl (by rw [show Int32.ofInt 1 = nI 1 from by decide +kernel]; exact nI_add _ _) (by decide) rfl ?_
            refine x_goto C 44 dX4_differences_83 (by decide) ?_
            refine x_lv [(0, .ref x), (1, .int (dfS (wvF ri ti bp bw nw fe np) fr (i + 1))), (2, .int (nI (i + 1)))] [2, 1, 0] (by rw [show dfS (wvF ri ti bp bw nw fe np) fr (i + 1) = (dfS (wvF ri ti bp bw nw fe np) fr i) + (bc64 (((wvF ri ti bp bw nw fe np) i) ^^^ (fr i))) from by rfl]; rfl) ?_
            exact ih_K_5 (i + 1) (by first | assumption | omega) (by omega)
      refine x_lv [(0, .ref x), (1, .int (dfS (wvF ri ti bp bw nw fe np) fr 0)), (2, .int (nI 0))] [2, 1, 0] (by rw [show dfS (wvF ri ti bp bw nw fe np) fr 0 = nI 0 from by rfl]; rfl) ?_
      exact K_5 (np - 0 + 1) 0 (by first | assumption | omega) (Nat.lt_succ_self _)
    ·
      exact absurd rfl h_2
abbrev rm_digest : Room := { frames := 2, cells := 0, slots := 0, locals := 48 }
set_option maxRecDepth 100000 in
set_option maxHeartbeats 4000000 in
theorem c_digest (l : Launch) (D : va_G) (tys : List (ClassId × FieldType)) (cI cJ : ClassId) (hI : tys[0]? = some (cI, .int)) (hJ : tys[1]? = some (cJ, .long)) (x : Nat) (qw : Nat) (qv : Nat) (qt : Nat) (ri : Int32) (qd : Nat) (qc : Nat) (ql : Nat) (wa : Nat) (wo : Nat) (nw : Nat) (bw : Nat → Int32) (cw : Nat → Int32) (pa : Nat) (po : Nat) (np : Nat) (bp : Nat → Int32) (cp : Nat → Int32) (ti : Nat → Int32) (dr : Nat) (dk : Nat) (ds : Nat) (dt : Nat) (co : Nat) (dn : Nat) (fr : Nat → Int64) (fk : Nat → Int64) (fs : Nat → Int32) (ft : Nat → Int32) (hnw : nw ≤ 40) (hnp : np ≤ 40) (hco : co ≤ 40) (hdn : dn ≤ 40) : ML l yX4_digest wsX4_digest rm_digest D tys [.ref x] [(x, OB 4 [.ref qw, .ref qv, .ref qt, .int ri, .ref qd, .ref qc, .ref ql]), (qw, OB 3 [.ref wa, .ref wo, .int (nI nw)]), (wa, AI cI 40 bw), (wo, AI cI 40 cw), (qv, OB 3 [.ref pa, .ref po, .int (nI np)]), (pa, AI cI 40 bp), (po, AI cI 40 cp), (qt, AI cI 10 ti), (qd, OB 1 [.ref dr, .ref dk, .ref ds, .ref dt, .int (nI co), .int (nI dn)]), (dr, AJ cJ 40 fr), (dk, AJ cJ 40 fk), (ds, AI cI 40 fs), (dt, AI cI 40 ft)] Unit (fun r (_ : Unit) => r = dgD fr (dgw (dgw (dgR bp cp (dgw (dgR bw cw (dgw (dgT ti (dgw 241 (if ri = 0 then 0 else 1)) 10) (nI nw).toInt64) nw) (nI np).toInt64) np) (nI co).toInt64) (nI dn).toInt64) dn) (fun (_ : Unit) => [(x, OB 4 [.ref qw, .ref qv, .ref qt, .int ri, .ref qd, .ref qc, .ref ql]), (qw, OB 3 [.ref wa, .ref wo, .int (nI nw)]), (wa, AI cI 40 bw), (wo, AI cI 40 cw), (qv, OB 3 [.ref pa, .ref po, .int (nI np)]), (pa, AI cI 40 bp), (po, AI cI 40 cp), (qt, AI cI 10 ti), (qd, OB 1 [.ref dr, .ref dk, .ref ds, .ref dt, .int (nI co), .int (nI dn)]), (dr, AJ cJ 40 fr), (dk, AJ cJ 40 fk), (ds, AI cI 40 fs), (dt, AI cI 40 ft)]) 0 0 := by
  intro sz
  refine x_met (cc := cX4_digest) (maxL := 4) (ret := (some .long)) (by decide +kernel) rfl (by show _ ≤ _; simp [lg_sl, Value.category]) [(0, .ref x)] rfl ?_
  intro p e s m args below meth c Q A H0 C hK hNW hlk hrt hnm hQ hH0 hAA hA
  refine x_ldc2 C (241) (by decide +kernel) dX4_digest_0 ?_
  refine x_aload_n C dX4_digest_3 rfl 0 rfl ?_
  refine x_get C hK in_X4_digest_X4 0 rfl rfl 3 (by decide) (by decide +kernel) rfl rfl dX4_digest_4 ?_
  refine x_if_eq C 14 dX4_digest_7 (by decide) (fun h_1 => ?_) (fun h_1 => ?_)
  ·
    refine x_lconst C (0 : Int64) dX4_digest_14 rfl ?_
    refine x_topl (if ri = 0 then 0 else 1) (by first | (rw [if_pos (by assumption)]; done) | (rw [if_neg (by assumption)]; done)) ?_
    refine x_calll (x_runS C hK hNW (c_digestWith l D tys cI cJ hI hJ 241 (if ri = 0 then 0 else 1) ) (va_cwS 2 C.2.2.2.2 gX4_digest_X4_digestWith rfl rfl rfl (by decide +kernel) ⟨by decide, by decide⟩) [] rfl (by decide) (st := []) rfl rfl (Nat.le_of_ble_eq_true rfl) dX4_digest_15 ⟨by first | decide | omega, by first | decide | omega⟩) hA [] rfl [0, 1, 2, 3, 4, 5, 6, 7, 8, 9, 10, 11, 12] [(x, OB 4 [.ref qw, .ref qv, .ref qt, .int ri, .ref qd, .ref qc, .ref ql]), (qw, OB 3 [.ref wa, .ref wo, .int (nI nw)]), (wa, AI cI 40 bw), (wo, AI cI 40 cw), (qv, OB 3 [.ref pa, .ref po, .int (nI np)]), (pa, AI cI 40 bp), (po, AI cI 40 cp), (qt, AI cI 10 ti), (qd, OB 1 [.ref dr, .ref dk, .ref ds, .ref dt, .int (nI co), .int (nI dn)]), (dr, AJ cJ 40 fr), (dk, AJ cJ 40 fk), (ds, AI cI 40 fs), (dt, AI cI 40 ft)] rfl (by decide) (by decide) [0, 1, 2, 3, 4, 5, 6, 7, 8, 9, 10, 11, 12] (by decide) (wf := (fun (u : Unit) => [(x, OB 4 [.ref qw, .ref qv, .ref qt, .int ri, .ref qd, .ref qc, .ref ql]), (qw, OB 3 [.ref wa, .ref wo, .int (nI nw)]), (wa, AI cI 40 bw), (wo, AI cI 40 cw), (qv, OB 3 [.ref pa, .ref po, .int (nI np)]), (pa, AI cI 40 bp), (po, AI cI 40 cp), (qt, AI cI 10 ti), (qd, OB 1 [.ref dr, .ref dk, .ref ds, .ref dt, .int (nI co), .int (nI dn)]), (dr, AJ cJ 40 fr), (dk, AJ cJ 40 fk), (ds, AI cI 40 fs), (dt, AI cI 40 ft)])) (fun _ => rfl) (fun r_2 u h_3 => ?_)
    subst h_3
    refine x_lstore_n C [(1, .long (dgw 241 (if ri = 0 then 0 else 1))), (0, .ref x)] dX4_digest_18 rfl (by decide) rfl ?_
    refine x_iconst C (nI 0) dX4_digest_19 (by decide +kernel) ?_
    refine x_istore_n C [(3, .int (nI 0)), (1, .long (dgw 241 (if ri = 0 then 0 else 1))), (0, .ref x)] dX4_digest_20 rfl (by decide) rfl ?_
    have K_4 : ∀ (fuel : Nat) (i : Nat), (i ≤ 10) → 10 - i < fuel → X_ p l e rm_digest s m args below meth c Q D A H0 4 0 0 [(x, OB 4 [.ref qw, .ref qv, .ref qt, .int ri, .ref qd, .ref qc, .ref ql]), (qw, OB 3 [.ref wa, .ref wo, .int (nI nw)]), (wa, AI cI 40 bw), (wo, AI cI 40 cw), (qv, OB 3 [.ref pa, .ref po, .int (nI np)]), (pa, AI cI 40 bp), (po, AI cI 40 cp), (qt, AI cI 10 ti), (qd, OB 1 [.ref dr, .ref dk, .ref ds, .ref dt, .int (nI co), .int (nI dn)]), (dr, AJ cJ 40 fr), (dk, AJ cJ 40 fk), (ds, AI cI 40 fs), (dt, AI cI 40 ft)] [(0, .ref x), (1, .long (dgT ti (dgw 241 (if ri = 0 then 0 else 1)) i)), (3, .int (nI i))] 21 [] := by
      intro fuel
      induction fuel with
      | zero =>
        intros
        exact absurd (by assumption) (Nat.not_lt_zero _)
      | succ fuel ih_K_4 =>
        intro i hi hm_5
        refine x_iload_n C dX4_digest_21 rfl 2 rfl ?_
        refine x_bipush C (nI 10) dX4_digest_22 (by decide +kernel) ?_
        refine xn_icmp_ge C 45 (by omega) (by omega) dX4_digest_24 (by decide) (fun h_6 => ?_) (fun h_6 => ?_)
        ·
          have heq_i : i = 10 := by omega
          subst heq_i
          refine x_aload_n C dX4_digest_45 rfl 0 rfl ?_
          refine x_get C hK in_X4_digest_X4 0 rfl rfl 0 (by decide) (by decide +kernel) rfl rfl dX4_digest_46 ?_
          refine x_lload_n C dX4_digest_49 rfl 1 rfl ?_
          refine x_calll (x_runVN C hK hNW (c_tr_dig l D tys cI cJ hI hJ qw wa wo nw bw cw (dgT ti (dgw 241 (if ri = 0 then 0 else 1)) 10) (by first | omega | assumption)) ⟨va_cnB 1 C.2.2.2.2 gX4_digest_X3_digestFrom_n186 rfl rfl rfl (hNW.at 15 rfl) (C.2.2.2.2 (.initialized RX3) (by decide +kernel)) (by decide +kernel) ⟨by decide, by decide⟩, C.2.2.2.2 (.instanceMethod yX3_digestFrom) (by decide +kernel), C.2.2.2.2 (.selects RX3 yX3_digestFrom yX3_digestFrom) (by decide +kernel)⟩ [1, 2, 3] rfl (by decide) 1 3 rfl rfl rfl (st := []) rfl rfl (Nat.le_of_ble_eq_true rfl) dX4_digest_50 ⟨by first | decide | omega, by first | decide | omega⟩) hA [1, 2, 3] rfl [0, 4, 5, 6, 7, 8, 9, 10, 11, 12] [(x, OB 4 [.ref qw, .ref qv, .ref qt, .int ri, .ref qd, .ref qc, .ref ql]), (qv, OB 3 [.ref pa, .ref po, .int (nI np)]), (pa, AI cI 40 bp), (po, AI cI 40 cp), (qt, AI cI 10 ti), (qd, OB 1 [.ref dr, .ref dk, .ref ds, .ref dt, .int (nI co), .int (nI dn)]), (dr, AJ cJ 40 fr), (dk, AJ cJ 40 fk), (ds, AI cI 40 fs), (dt, AI cI 40 ft)] rfl (by decide) (by decide) [0, 10, 11, 12, 1, 2, 3, 4, 5, 6, 7, 8, 9] (by decide) (wf := (fun (u : Unit) => [(x, OB 4 [.ref qw, .ref qv, .ref qt, .int ri, .ref qd, .ref qc, .ref ql]), (qw, OB 3 [.ref wa, .ref wo, .int (nI nw)]), (wa, AI cI 40 bw), (wo, AI cI 40 cw), (qv, OB 3 [.ref pa, .ref po, .int (nI np)]), (pa, AI cI 40 bp), (po, AI cI 40 cp), (qt, AI cI 10 ti), (qd, OB 1 [.ref dr, .ref dk, .ref ds, .ref dt, .int (nI co), .int (nI dn)]), (dr, AJ cJ 40 fr), (dk, AJ cJ 40 fk), (ds, AI cI 40 fs), (dt, AI cI 40 ft)])) (fun _ => rfl) (fun r_7 u h_8 => ?_)
          subst h_8
          refine x_lstore_n C [(1, .long (dgR bw cw (dgw (dgT ti (dgw 241 (if ri = 0 then 0 else 1)) 10) (nI nw).toInt64) nw)), (0, .ref x), (3, .int (nI 10))] dX4_digest_53 rfl (by decide) rfl ?_
          refine x_aload_n C dX4_digest_54 rfl 1 rfl ?_
          refine x_get C hK in_X4_digest_X4 0 rfl rfl 1 (by decide) (by decide +kernel) rfl rfl dX4_digest_55 ?_
          refine x_lload_n C dX4_digest_58 rfl 0 rfl ?_
          refine x_calll (x_runVN C hK hNW (c_tr_dig l D tys cI cJ hI hJ qv pa po np bp cp (dgR bw cw (dgw (dgT ti (dgw 241 (if ri = 0 then 0 else 1)) 10) (nI nw).toInt64) nw) (by first | omega | assumption)) ⟨va_cnB 1 C.2.2.2.2 gX4_digest_X3_digestFrom_n186 rfl rfl rfl (hNW.at 15 rfl) (C.2.2.2.2 (.initialized RX3) (by decide +kernel)) (by decide +kernel) ⟨by decide, by decide⟩, C.2.2.2.2 (.instanceMethod yX3_digestFrom) (by decide +kernel), C.2.2.2.2 (.selects RX3 yX3_digestFrom yX3_digestFrom) (by decide +kernel)⟩ [4, 5, 6] rfl (by decide) 4 3 rfl rfl rfl (st := []) rfl rfl (Nat.le_of_ble_eq_true rfl) dX4_digest_59 ⟨by first | decide | omega, by first | decide | omega⟩) hA [4, 5, 6] rfl [0, 1, 2, 3, 7, 8, 9, 10, 11, 12] [(x, OB 4 [.ref qw, .ref qv, .ref qt, .int ri, .ref qd, .ref qc, .ref ql]), (qw, OB 3 [.ref wa, .ref wo, .int (nI nw)]), (wa, AI cI 40 bw), (wo, AI cI 40 cw), (qt, AI cI 10 ti), (qd, OB 1 [.ref dr, .ref dk, .ref ds, .ref dt, .int (nI co), .int (nI dn)]), (dr, AJ cJ 40 fr), (dk, AJ cJ 40 fk), (ds, AI cI 40 fs), (dt, AI cI 40 ft)] rfl (by decide) (by decide) [0, 1, 2, 3, 10, 11, 12, 4, 5, 6, 7, 8, 9] (by decide) (wf := (fun (u : Unit) => [(x, OB 4 [.ref qw, .ref qv, .ref qt, .int ri, .ref qd, .ref qc, .ref ql]), (qw, OB 3 [.ref wa, .ref wo, .int (nI nw)]), (wa, AI cI 40 bw), (wo, AI cI 40 cw), (qv, OB 3 [.ref pa, .ref po, .int (nI np)]), (pa, AI cI 40 bp), (po, AI cI 40 cp), (qt, AI cI 10 ti), (qd, OB 1 [.ref dr, .ref dk, .ref ds, .ref dt, .int (nI co), .int (nI dn)]), (dr, AJ cJ 40 fr), (dk, AJ cJ 40 fk), (ds, AI cI 40 fs), (dt, AI cI 40 ft)])) (fun _ => rfl) (fun r_9 u h_10 => ?_)
          subst h_10
          refine x_lstore_n C [(1, .long (dgR bp cp (dgw (dgR bw cw (dgw (dgT ti (dgw 241 (if ri = 0 then 0 else 1)) 10) (nI nw).toInt64) nw) (nI np).toInt64) np)), (0, .ref x), (3, .int (nI 10))] dX4_digest_62 rfl (by decide) rfl ?_
          refine x_aload_n C dX4_digest_63 rfl 1 rfl ?_
          refine x_get C hK in_X4_digest_X4 0 rfl rfl 4 (by decide) (by decide +kernel) rfl rfl dX4_digest_64 ?_
          refine x_lload_n C dX4_digest_67 rfl 0 rfl ?_
          refine x_calll (x_runVN C hK hNW (c_dr_dig l D tys cI cJ hI hJ qd dr dk ds dt co dn fr fk fs ft (dgR bp cp (dgw (dgR bw cw (dgw (dgT ti (dgw 241 (if ri = 0 then 0 else 1)) 10) (nI nw).toInt64) nw) (nI np).toInt64) np) (by first | omega | assumption) (by first | omega | assumption)) ⟨va_cnB 1 C.2.2.2.2 gX4_digest_X1_digestFrom_n190 rfl rfl rfl (hNW.at 17 rfl) (C.2.2.2.2 (.initialized RX1) (by decide +kernel)) (by decide +kernel) ⟨by decide, by decide⟩, C.2.2.2.2 (.instanceMethod yX1_digestFrom) (by decide +kernel), C.2.2.2.2 (.selects RX1 yX1_digestFrom yX1_digestFrom) (by decide +kernel)⟩ [8, 9, 10, 11, 12] rfl (by decide) 8 1 rfl rfl rfl (st := []) rfl rfl (Nat.le_of_ble_eq_true rfl) dX4_digest_68 ⟨by first | decide | omega, by first | decide | omega⟩) hA [8, 9, 10, 11, 12] rfl [0, 1, 2, 3, 4, 5, 6, 7] [(x, OB 4 [.ref qw, .ref qv, .ref qt, .int ri, .ref qd, .ref qc, .ref ql]), (qw, OB 3 [.ref wa, .ref wo, .int (nI nw)]), (wa, AI cI 40 bw), (wo, AI cI 40 cw), (qv, OB 3 [.ref pa, .ref po, .int (nI np)]), (pa, AI cI 40 bp), (po, AI cI 40 cp), (qt, AI cI 10 ti)] rfl (by decide) (by decide) [0, 1, 2, 3, 4, 5, 6, 7, 8, 9, 10, 11, 12] (by decide) (wf := (fun (u : Unit) => [(x, OB 4 [.ref qw, .ref qv, .ref qt, .int ri, .ref qd, .ref qc, .ref ql]), (qw, OB 3 [.ref wa, .ref wo, .int (nI nw)]), (wa, AI cI 40 bw), (wo, AI cI 40 cw), (qv, OB 3 [.ref pa, .ref po, .int (nI np)]), (pa, AI cI 40 bp), (po, AI cI 40 cp), (qt, AI cI 10 ti), (qd, OB 1 [.ref dr, .ref dk, .ref ds, .ref dt, .int (nI co), .int (nI dn)]), (dr, AJ cJ 40 fr), (dk, AJ cJ 40 fk), (ds, AI cI 40 fs), (dt, AI cI 40 ft)])) (fun _ => rfl) (fun r_11 u h_12 => ?_)
          subst h_12
          refine x_lret C hK hlk hrt hQ hH0 hAA () ?_ [0, 1, 2, 3, 4, 5, 6, 7, 8, 9, 10, 11, 12] (by decide) rfl (by first | decide | omega) (by first | decide | omega) dX4_digest_71
          first | rfl | (exact ⟨rfl, rfl⟩) | trivial | assumption | omega
        ·
          refine x_lload_n C dX4_digest_27 rfl 1 rfl ?_
          refine x_aload_n C dX4_digest_28 rfl 0 rfl ?_
          refine x_get C hK in_X4_digest_X4 0 rfl rfl 2 (by decide) (by decide +kernel) rfl rfl dX4_digest_29 ?_
          refine x_iload_n C dX4_digest_32 rfl 2 rfl ?_
          refine x_iald C hK 7 0 rfl hI (by omega) (by omega) dX4_digest_33 ?_
          refine x_i2l C _ dX4_digest_34 rfl ?_
          refine x_calll (x_runS C hK hNW (c_digestWith l D tys cI cJ hI hJ (dgT ti (dgw 241 (if ri = 0 then 0 else 1)) i) ((ti i).toInt64) ) (va_cwS 2 C.2.2.2.2 gX4_digest_X4_digestWith rfl rfl rfl (by decide +kernel) ⟨by decide, by decide⟩) [] rfl (by decide) (st := []) rfl rfl (Nat.le_of_ble_eq_true rfl) dX4_digest_35 ⟨by first | decide | omega, by first | decide | omega⟩) hA [] rfl [0, 1, 2, 3, 4, 5, 6, 7, 8, 9, 10, 11, 12] [(x, OB 4 [.ref qw, .ref qv, .ref qt, .int ri, .ref qd, .ref qc, .ref ql]), (qw, OB 3 [.ref wa, .ref wo, .int (nI nw)]), (wa, AI cI 40 bw), (wo, AI cI 40 cw), (qv, OB 3 [.ref pa, .ref po, .int (nI np)]), (pa, AI cI 40 bp), (po, AI cI 40 cp), (qt, AI cI 10 ti), (qd, OB 1 [.ref dr, .ref dk, .ref ds, .ref dt, .int (nI co), .int (nI dn)]), (dr, AJ cJ 40 fr), (dk, AJ cJ 40 fk), (ds, AI cI 40 fs), (dt, AI cI 40 ft)] rfl (by decide) (by decide) [0, 1, 2, 3, 4, 5, 6, 7, 8, 9, 10, 11, 12] (by decide) (wf := (fun (u : Unit) => [(x, OB 4 [.ref qw, .ref qv, .ref qt, .int ri, .ref qd, .ref qc, .ref ql]), (qw, OB 3 [.ref wa, .ref wo, .int (nI nw)]), (wa, AI cI 40 bw), (wo, AI cI 40 cw), (qv, OB 3 [.ref pa, .ref po, .int (nI np)]), (pa, AI cI 40 bp), (po, AI cI 40 cp), (qt, AI cI 10 ti), (qd, OB 1 [.ref dr, .ref dk, .ref ds, .ref dt, .int (nI co), .int (nI dn)]), (dr, AJ cJ 40 fr), (dk, AJ cJ 40 fk), (ds, AI cI 40 fs), (dt, AI cI 40 ft)])) (fun _ => rfl) (fun r_13 u h_14 => ?_)
          subst h_14
          refine x_lstore_n C [(1, .long (dgw (dgT ti (dgw 241 (if ri = 0 then 0 else 1)) i) ((ti i).toInt64))), (0, .ref x), (3, .int (nI i))] dX4_digest_38 rfl (by decide) rfl ?_
          refine xn_iinc C (i + 1) [(3, .int (nI (i + 1))), (1, .long (dgw (dgT ti (dgw 241 (if ri = 0 then 0 else 1)) i) ((ti i).toInt64))), (0, .ref x)] dX4_digest_39 2 rfl (by rw [show Int32.ofInt 1 = nI 1 from by decide +kernel]; exact nI_add _ _) (by decide) rfl ?_
          refine x_goto C 21 dX4_digest_42 (by decide) ?_
          refine x_lv [(0, .ref x), (1, .long (dgT ti (dgw 241 (if ri = 0 then 0 else 1)) (i + 1))), (3, .int (nI (i + 1)))] [2, 1, 0] (by rw [show dgT ti (dgw 241 (if ri = 0 then 0 else 1)) (i + 1) = dgw (dgT ti (dgw 241 (if ri = 0 then 0 else 1)) i) ((ti i).toInt64) from by rfl]; rfl) ?_
          exact ih_K_4 (i + 1) (by first | assumption | omega) (by omega)
    refine x_lv [(0, .ref x), (1, .long (dgT ti (dgw 241 (if ri = 0 then 0 else 1)) 0)), (3, .int (nI 0))] [2, 1, 0] (by rw [show dgT ti (dgw 241 (if ri = 0 then 0 else 1)) 0 = dgw 241 (if ri = 0 then 0 else 1) from by rfl]; rfl) ?_
    exact K_4 (10 - 0 + 1) 0 (by first | assumption | omega) (Nat.lt_succ_self _)
  ·
    refine x_lconst C (1 : Int64) dX4_digest_10 rfl ?_
    refine x_goto C 15 dX4_digest_11 (by decide) ?_
    refine x_topl (if ri = 0 then 0 else 1) (by first | (rw [if_pos (by assumption)]; done) | (rw [if_neg (by assumption)]; done)) ?_
    refine x_calll (x_runS C hK hNW (c_digestWith l D tys cI cJ hI hJ 241 (if ri = 0 then 0 else 1) ) (va_cwS 2 C.2.2.2.2 gX4_digest_X4_digestWith rfl rfl rfl (by decide +kernel) ⟨by decide, by decide⟩) [] rfl (by decide) (st := []) rfl rfl (Nat.le_of_ble_eq_true rfl) dX4_digest_15 ⟨by first | decide | omega, by first | decide | omega⟩) hA [] rfl [0, 1, 2, 3, 4, 5, 6, 7, 8, 9, 10, 11, 12] [(x, OB 4 [.ref qw, .ref qv, .ref qt, .int ri, .ref qd, .ref qc, .ref ql]), (qw, OB 3 [.ref wa, .ref wo, .int (nI nw)]), (wa, AI cI 40 bw), (wo, AI cI 40 cw), (qv, OB 3 [.ref pa, .ref po, .int (nI np)]), (pa, AI cI 40 bp), (po, AI cI 40 cp), (qt, AI cI 10 ti), (qd, OB 1 [.ref dr, .ref dk, .ref ds, .ref dt, .int (nI co), .int (nI dn)]), (dr, AJ cJ 40 fr), (dk, AJ cJ 40 fk), (ds, AI cI 40 fs), (dt, AI cI 40 ft)] rfl (by decide) (by decide) [0, 1, 2, 3, 4, 5, 6, 7, 8, 9, 10, 11, 12] (by decide) (wf := (fun (u : Unit) => [(x, OB 4 [.ref qw, .ref qv, .ref qt, .int ri, .ref qd, .ref qc, .ref ql]), (qw, OB 3 [.ref wa, .ref wo, .int (nI nw)]), (wa, AI cI 40 bw), (wo, AI cI 40 cw), (qv, OB 3 [.ref pa, .ref po, .int (nI np)]), (pa, AI cI 40 bp), (po, AI cI 40 cp), (qt, AI cI 10 ti), (qd, OB 1 [.ref dr, .ref dk, .ref ds, .ref dt, .int (nI co), .int (nI dn)]), (dr, AJ cJ 40 fr), (dk, AJ cJ 40 fk), (ds, AI cI 40 fs), (dt, AI cI 40 ft)])) (fun _ => rfl) (fun r_15 u h_16 => ?_)
    subst h_16
    refine x_lstore_n C [(1, .long (dgw 241 (if ri = 0 then 0 else 1))), (0, .ref x)] dX4_digest_18 rfl (by decide) rfl ?_
    refine x_iconst C (nI 0) dX4_digest_19 (by decide +kernel) ?_
    refine x_istore_n C [(3, .int (nI 0)), (1, .long (dgw 241 (if ri = 0 then 0 else 1))), (0, .ref x)] dX4_digest_20 rfl (by decide) rfl ?_
    have K_17 : ∀ (fuel : Nat) (i : Nat), (i ≤ 10) → 10 - i < fuel → X_ p l e rm_digest s m args below meth c Q D A H0 4 0 0 [(x, OB 4 [.ref qw, .ref qv, .ref qt, .int ri, .ref qd, .ref qc, .ref ql]), (qw, OB 3 [.ref wa, .ref wo, .int (nI nw)]), (wa, AI cI 40 bw), (wo, AI cI 40 cw), (qv, OB 3 [.ref pa, .ref po, .int (nI np)]), (pa, AI cI 40 bp), (po, AI cI 40 cp), (qt, AI cI 10 ti), (qd, OB 1 [.ref dr, .ref dk, .ref ds, .ref dt, .int (nI co), .int (nI dn)]), (dr, AJ cJ 40 fr), (dk, AJ cJ 40 fk), (ds, AI cI 40 fs), (dt, AI cI 40 ft)] [(0, .ref x), (1, .long (dgT ti (dgw 241 (if ri = 0 then 0 else 1)) i)), (3, .int (nI i))] 21 [] := by
      intro fuel
      induction fuel with
      | zero =>
        intros
        exact absurd (by assumption) (Nat.not_lt_zero _)
      | succ fuel ih_K_17 =>
        intro i hi hm_18
        refine x_iload_n C dX4_digest_21 rfl 2 rfl ?_
        refine x_bipush C (nI 10) dX4_digest_22 (by decide +kernel) ?_
        refine xn_icmp_ge C 45 (by omega) (by omega) dX4_digest_24 (by decide) (fun h_19 => ?_) (fun h_19 => ?_)
        ·
          have heq_i : i = 10 := by omega
          subst heq_i
          refine x_aload_n C dX4_digest_45 rfl 0 rfl ?_
          refine x_get C hK in_X4_digest_X4 0 rfl rfl 0 (by decide) (by decide +kernel) rfl rfl dX4_digest_46 ?_
          refine x_lload_n C dX4_digest_49 rfl 1 rfl ?_
          refine x_calll (x_runVN C hK hNW (c_tr_dig l D tys cI cJ hI hJ qw wa wo nw bw cw (dgT ti (dgw 241 (if ri = 0 then 0 else 1)) 10) (by first | omega | assumption)) ⟨va_cnB 1 C.2.2.2.2 gX4_digest_X3_digestFrom_n186 rfl rfl rfl (hNW.at 15 rfl) (C.2.2.2.2 (.initialized RX3) (by decide +kernel)) (by decide +kernel) ⟨by decide, by decide⟩, C.2.2.2.2 (.instanceMethod yX3_digestFrom) (by decide +kernel), C.2.2.2.2 (.selects RX3 yX3_digestFrom yX3_digestFrom) (by decide +kernel)⟩ [1, 2, 3] rfl (by decide) 1 3 rfl rfl rfl (st := []) rfl rfl (Nat.le_of_ble_eq_true rfl) dX4_digest_50 ⟨by first | decide | omega, by first | decide | omega⟩) hA [1, 2, 3] rfl [0, 4, 5, 6, 7, 8, 9, 10, 11, 12] [(x, OB 4 [.ref qw, .ref qv, .ref qt, .int ri, .ref qd, .ref qc, .ref ql]), (qv, OB 3 [.ref pa, .ref po, .int (nI np)]), (pa, AI cI 40 bp), (po, AI cI 40 cp), (qt, AI cI 10 ti), (qd, OB 1 [.ref dr, .ref dk, .ref ds, .ref dt, .int (nI co), .int (nI dn)]), (dr, AJ cJ 40 fr), (dk, AJ cJ 40 fk), (ds, AI cI 40 fs), (dt, AI cI 40 ft)] rfl (by decide) (by decide) [0, 10, 11, 12, 1, 2, 3, 4, 5, 6, 7, 8, 9] (by decide) (wf := (fun (u : Unit) => [(x, OB 4 [.ref qw, .ref qv, .ref qt, .int ri, .ref qd, .ref qc, .ref ql]), (qw, OB 3 [.ref wa, .ref wo, .int (nI nw)]), (wa, AI cI 40 bw), (wo, AI cI 40 cw), (qv, OB 3 [.ref pa, .ref po, .int (nI np)]), (pa, AI cI 40 bp), (po, AI cI 40 cp), (qt, AI cI 10 ti), (qd, OB 1 [.ref dr, .ref dk, .ref ds, .ref dt, .int (nI co), .int (nI dn)]), (dr, AJ cJ 40 fr), (dk, AJ cJ 40 fk), (ds, AI cI 40 fs), (dt, AI cI 40 ft)])) (fun _ => rfl) (fun r_20 u h_21 => ?_)
          subst h_21
          refine x_lstore_n C [(1, .long (dgR bw cw (dgw (dgT ti (dgw 241 (if ri = 0 then 0 else 1)) 10) (nI nw).toInt64) nw)), (0, .ref x), (3, .int (nI 10))] dX4_digest_53 rfl (by decide) rfl ?_
          refine x_aload_n C dX4_digest_54 rfl 1 rfl ?_
          refine x_get C hK in_X4_digest_X4 0 rfl rfl 1 (by decide) (by decide +kernel) rfl rfl dX4_digest_55 ?_
          refine x_lload_n C dX4_digest_58 rfl 0 rfl ?_
          refine x_calll (x_runVN C hK hNW (c_tr_dig l D tys cI cJ hI hJ qv pa po np bp cp (dgR bw cw (dgw (dgT ti (dgw 241 (if ri = 0 then 0 else 1)) 10) (nI nw).toInt64) nw) (by first | omega | assumption)) ⟨va_cnB 1 C.2.2.2.2 gX4_digest_X3_digestFrom_n186 rfl rfl rfl (hNW.at 15 rfl) (C.2.2.2.2 (.initialized RX3) (by decide +kernel)) (by decide +kernel) ⟨by decide, by decide⟩, C.2.2.2.2 (.instanceMethod yX3_digestFrom) (by decide +kernel), C.2.2.2.2 (.selects RX3 yX3_digestFrom yX3_digestFrom) (by decide +kernel)⟩ [4, 5, 6] rfl (by decide) 4 3 rfl rfl rfl (st := []) rfl rfl (Nat.le_of_ble_eq_true rfl) dX4_digest_59 ⟨by first | decide | omega, by first | decide | omega⟩) hA [4, 5, 6] rfl [0, 1, 2, 3, 7, 8, 9, 10, 11, 12] [(x, OB 4 [.ref qw, .ref qv, .ref qt, .int ri, .ref qd, .ref qc, .ref ql]), (qw, OB 3 [.ref wa, .ref wo, .int (nI nw)]), (wa, AI cI 40 bw), (wo, AI cI 40 cw), (qt, AI cI 10 ti), (qd, OB 1 [.ref dr, .ref dk, .ref ds, .ref dt, .int (nI co), .int (nI dn)]), (dr, AJ cJ 40 fr), (dk, AJ cJ 40 fk), (ds, AI cI 40 fs), (dt, AI cI 40 ft)] rfl (by decide) (by decide) [0, 1, 2, 3, 10, 11, 12, 4, 5, 6, 7, 8, 9] (by decide) (wf := (fun (u : Unit) => [(x, OB 4 [.ref qw, .ref qv, .ref qt, .int ri, .ref qd, .ref qc, .ref ql]), (qw, OB 3 [.ref wa, .ref wo, .int (nI nw)]), (wa, AI cI 40 bw), (wo, AI cI 40 cw), (qv, OB 3 [.ref pa, .ref po, .int (nI np)]), (pa, AI cI 40 bp), (po, AI cI 40 cp), (qt, AI cI 10 ti), (qd, OB 1 [.ref dr, .ref dk, .ref ds, .ref dt, .int (nI co), .int (nI dn)]), (dr, AJ cJ 40 fr), (dk, AJ cJ 40 fk), (ds, AI cI 40 fs), (dt, AI cI 40 ft)])) (fun _ => rfl) (fun r_22 u h_23 => ?_)
          subst h_23
          refine x_lstore_n C [(1, .long (dgR bp cp (dgw (dgR bw cw (dgw (dgT ti (dgw 241 (if ri = 0 then 0 else 1)) 10) (nI nw).toInt64) nw) (nI np).toInt64) np)), (0, .ref x), (3, .int (nI 10))] dX4_digest_62 rfl (by decide) rfl ?_
          refine x_aload_n C dX4_digest_63 rfl 1 rfl ?_
          refine x_get C hK in_X4_digest_X4 0 rfl rfl 4 (by decide) (by decide +kernel) rfl rfl dX4_digest_64 ?_
          refine x_lload_n C dX4_digest_67 rfl 0 rfl ?_
          refine x_calll (x_runVN C hK hNW (c_dr_dig l D tys cI cJ hI hJ qd dr dk ds dt co dn fr fk fs ft (dgR bp cp (dgw (dgR bw cw (dgw (dgT ti (dgw 241 (if ri = 0 then 0 else 1)) 10) (nI nw).toInt64) nw) (nI np).toInt64) np) (by first | omega | assumption) (by first | omega | assumption)) ⟨va_cnB 1 C.2.2.2.2 gX4_digest_X1_digestFrom_n190 rfl rfl rfl (hNW.at 17 rfl) (C.2.2.2.2 (.initialized RX1) (by decide +kernel)) (by decide +kernel) ⟨by decide, by decide⟩, C.2.2.2.2 (.instanceMethod yX1_digestFrom) (by decide +kernel), C.2.2.2.2 (.selects RX1 yX1_digestFrom yX1_digestFrom) (by decide +kernel)⟩ [8, 9, 10, 11, 12] rfl (by decide) 8 1 rfl rfl rfl (st := []) rfl rfl (Nat.le_of_ble_eq_true rfl) dX4_digest_68 ⟨by first | decide | omega, by first | decide | omega⟩) hA [8, 9, 10, 11, 12] rfl [0, 1, 2, 3, 4, 5, 6, 7] [(x, OB 4 [.ref qw, .ref qv, .ref qt, .int ri, .ref qd, .ref qc, .ref ql]), (qw, OB 3 [.ref wa, .ref wo, .int (nI nw)]), (wa, AI cI 40 bw), (wo, AI cI 40 cw), (qv, OB 3 [.ref pa, .ref po, .int (nI np)]), (pa, AI cI 40 bp), (po, AI cI 40 cp), (qt, AI cI 10 ti)] rfl (by decide) (by decide) [0, 1, 2, 3, 4, 5, 6, 7, 8, 9, 10, 11, 12] (by decide) (wf := (fun (u : Unit) => [(x, OB 4 [.ref qw, .ref qv, .ref qt, .int ri, .ref qd, .ref qc, .ref ql]), (qw, OB 3 [.ref wa, .ref wo, .int (nI nw)]), (wa, AI cI 40 bw), (wo, AI cI 40 cw), (qv, OB 3 [.ref pa, .ref po, .int (nI np)]), (pa, AI cI 40 bp), (po, AI cI 40 cp), (qt, AI cI 10 ti), (qd, OB 1 [.ref dr, .ref dk, .ref ds, .ref dt, .int (nI co), .int (nI dn)]), (dr, AJ cJ 40 fr), (dk, AJ cJ 40 fk), (ds, AI cI 40 fs), (dt, AI cI 40 ft)])) (fun _ => rfl) (fun r_24 u h_25 => ?_)
          subst h_25
          refine x_lret C hK hlk hrt hQ hH0 hAA () ?_ [0, 1, 2, 3, 4, 5, 6, 7, 8, 9, 10, 11, 12] (by decide) rfl (by first | decide | omega) (by first | decide | omega) dX4_digest_71
          first | rfl | (exact ⟨rfl, rfl⟩) | trivial | assumption | omega
        ·
          refine x_lload_n C dX4_digest_27 rfl 1 rfl ?_
          refine x_aload_n C dX4_digest_28 rfl 0 rfl ?_
          refine x_get C hK in_X4_digest_X4 0 rfl rfl 2 (by decide) (by decide +kernel) rfl rfl dX4_digest_29 ?_
          refine x_iload_n C dX4_digest_32 rfl 2 rfl ?_
          refine x_iald C hK 7 0 rfl hI (by omega) (by omega) dX4_digest_33 ?_
          refine x_i2l C _ dX4_digest_34 rfl ?_
          refine x_calll (x_runS C hK hNW (c_digestWith l D tys cI cJ hI hJ (dgT ti (dgw 241 (if ri = 0 then 0 else 1)) i) ((ti i).toInt64) ) (va_cwS 2 C.2.2.2.2 gX4_digest_X4_digestWith rfl rfl rfl (by decide +kernel) ⟨by decide, by decide⟩) [] rfl (by decide) (st := []) rfl rfl (Nat.le_of_ble_eq_true rfl) dX4_digest_35 ⟨by first | decide | omega, by first | decide | omega⟩) hA [] rfl [0, 1, 2, 3, 4, 5, 6, 7, 8, 9, 10, 11, 12] [(x, OB 4 [.ref qw, .ref qv, .ref qt, .int ri, .ref qd, .ref qc, .ref ql]), (qw, OB 3 [.ref wa, .ref wo, .int (nI nw)]), (wa, AI cI 40 bw), (wo, AI cI 40 cw), (qv, OB 3 [.ref pa, .ref po, .int (nI np)]), (pa, AI cI 40 bp), (po, AI cI 40 cp), (qt, AI cI 10 ti), (qd, OB 1 [.ref dr, .ref dk, .ref ds, .ref dt, .int (nI co), .int (nI dn)]), (dr, AJ cJ 40 fr), (dk, AJ cJ 40 fk), (ds, AI cI 40 fs), (dt, AI cI 40 ft)] rfl (by decide) (by decide) [0, 1, 2, 3, 4, 5, 6, 7, 8, 9, 10, 11, 12] (by decide) (wf := (fun (u : Unit) => [(x, OB 4 [.ref qw, .ref qv, .ref qt, .int ri, .ref qd, .ref qc, .ref ql]), (qw, OB 3 [.ref wa, .ref wo, .int (nI nw)]), (wa, AI cI 40 bw), (wo, AI cI 40 cw), (qv, OB 3 [.ref pa, .ref po, .int (nI np)]), (pa, AI cI 40 bp), (po, AI cI 40 cp), (qt, AI cI 10 ti), (qd, OB 1 [.ref dr, .ref dk, .ref ds, .ref dt, .int (nI co), .int (nI dn)]), (dr, AJ cJ 40 fr), (dk, AJ cJ 40 fk), (ds, AI cI 40 fs), (dt, AI cI 40 ft)])) (fun _ => rfl) (fun r_26 u h_27 => ?_)
          subst h_27
          refine x_lstore_n C [(1, .long (dgw (dgT ti (dgw 241 (if ri = 0 then 0 else 1)) i) ((ti i).toInt64))), (0, .ref x), (3, .int (nI i))] dX4_digest_38 rfl (by decide) rfl ?_
          refine xn_iinc C (i + 1) [(3, .int (nI (i + 1))), (1, .long (dgw (dgT ti (dgw 241 (if ri = 0 then 0 else 1)) i) ((ti i).toInt64))), (0, .ref x)] dX4_digest_39 2 rfl (by rw [show Int32.ofInt 1 = nI 1 from by decide +kernel]; exact nI_add _ _) (by decide) rfl ?_
          refine x_goto C 21 dX4_digest_42 (by decide) ?_
          refine x_lv [(0, .ref x), (1, .long (dgT ti (dgw 241 (if ri = 0 then 0 else 1)) (i + 1))), (3, .int (nI (i + 1)))] [2, 1, 0] (by rw [show dgT ti (dgw 241 (if ri = 0 then 0 else 1)) (i + 1) = dgw (dgT ti (dgw 241 (if ri = 0 then 0 else 1)) i) ((ti i).toInt64) from by rfl]; rfl) ?_
          exact ih_K_17 (i + 1) (by first | assumption | omega) (by omega)
    refine x_lv [(0, .ref x), (1, .long (dgT ti (dgw 241 (if ri = 0 then 0 else 1)) 0)), (3, .int (nI 0))] [2, 1, 0] (by rw [show dgT ti (dgw 241 (if ri = 0 then 0 else 1)) 0 = dgw 241 (if ri = 0 then 0 else 1) from by rfl]; rfl) ?_
    exact K_17 (10 - 0 + 1) 0 (by first | assumption | omega) (Nat.lt_succ_self _)
