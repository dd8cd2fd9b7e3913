/-! the reference, fifth part -/
theorem in_X5_fit_X5 : ∀ w ∈ wsX50, w ∈ wsX5_fit := by decide +kernel
abbrev rm_m_numbered : Room := { frames := 0, cells := 1, slots := 41, locals := 0 }
set_option maxRecDepth 100000 in
set_option maxHeartbeats 4000000 in
theorem c_m_numbered (l : Launch) (D : va_G) (tys : List (ClassId × FieldType)) (cI cJ cA : ClassId) (hI : tys[0]? = some (cI, .int)) (hJ : tys[1]? = some (cJ, .long)) (hR : tys[2]? = some (cA, .array .int)) (q : Nat) (n0 : Nat) (t : Nat → Int64) (hn0 : n0 ≤ 40) : MR l yX5_numbered wsX5_numbered rm_m_numbered D tys [.ref q] [(q, AJ cJ n0 t)] Unit (fun (_ : Unit) => True) (fun (_ : Unit) ra => [(q, AJ cJ n0 t), (ra, AI cI (n0 + 1) (nuF t n0))]) 1 41 := by
  intro sz
  refine x_met (cc := cX5_numbered) (maxL := 5) (ret := (some (.array .int))) (by decide +kernel) rfl (by show _ ≤ _; simp [lg_sl, Value.category]) [(0, .ref q)] rfl ?_
  intro p e s m args below meth c Q A H0 C hK hNW hlk hrt hnm hQ hH0 hAA hA
  refine x_aload_n C dX5_numbered_0 rfl 0 rfl ?_
  refine x_alen C hK 0 1 rfl hJ dX5_numbered_1 ?_
  refine x_iconst C (nI 1) dX5_numbered_2 (by decide +kernel) ?_
  refine xn_iadd C dX5_numbered_3 ?_
  refine x_new_int C hK hA (by decide +kernel) 0 hI (by omega) (by first | decide | omega | exact (show _ ≤ 1 by omega)) (by first | decide | omega | exact (show _ ≤ 41 by omega)) dX5_numbered_4 (fun q_1 => ?_)
  refine x_widen 1 (n0 + 1) (by first | decide | omega) (by first | decide | omega) ?_
  refine x_astore_n C [(1, .ref q_1), (0, .ref q)] dX5_numbered_6 rfl (by decide) rfl ?_
  refine x_iconst C (nI 0) dX5_numbered_7 (by decide +kernel) ?_
  refine x_istore_n C [(2, .int (nI 0)), (1, .ref q_1), (0, .ref q)] dX5_numbered_8 rfl (by decide) rfl ?_
  refine x_iconst C (nI 0) dX5_numbered_9 (by decide +kernel) ?_
  refine x_istore_n C [(3, .int (nI 0)), (2, .int (nI 0)), (1, .ref q_1), (0, .ref q)] dX5_numbered_10 rfl (by decide) rfl ?_
  have LK_2 : ∀ (fuel : Nat) (k9 : Nat), (k9 ≤ n0) → n0 - k9 < fuel → X_ p l e rm_m_numbered s m args below meth c Q D A H0 5 1 (n0 + 1) [(q, AJ cJ n0 t), (q_1, AI cI (n0 + 1) (cpN (fun _ => 0) t k9))] [(0, .ref q), (1, .ref q_1), (2, .int (nI (tkn t k9))), (3, .int (nI k9))] 11 [] := by
    intro fuel
    induction fuel with
    | zero =>
      intros
      exact absurd (by assumption) (Nat.not_lt_zero _)
    | succ fuel ih_LK_2 =>
      intro k9 hk hm_3
      have htk := tkn_le t k9
      refine x_iload_n C dX5_numbered_11 rfl 3 rfl ?_
      refine x_aload_n C dX5_numbered_12 rfl 0 rfl ?_
      refine x_alen C hK 0 1 rfl hJ dX5_numbered_13 ?_
      refine xn_icmp_ge C 76 (by omega) (by omega) dX5_numbered_14 (by decide) (fun h_4 => ?_) (fun h_4 => ?_)
      ·
        have heq_k9 : n0 = k9 := by omega
        subst heq_k9
        refine x_aload_n C dX5_numbered_76 rfl 1 rfl ?_
        refine x_aload_n C dX5_numbered_77 rfl 0 rfl ?_
        refine x_alen C hK 0 1 rfl hJ dX5_numbered_78 ?_
        refine x_iload_n C dX5_numbered_79 rfl 2 rfl ?_
        refine x_iast C hK 1 0 rfl hI (by omega) (by omega) [(q, AJ cJ n0 t), (q_1, AI cI (n0 + 1) (upd (cpN (fun _ => 0) t n0) n0 (nI (tkn t n0))))] rfl dX5_numbered_80 ?_
        refine x_ws [(q, AJ cJ n0 t), (q_1, AI cI (n0 + 1) (nuF t n0))] (by rfl) ?_
        refine x_aload_n C dX5_numbered_81 rfl 1 rfl ?_
        refine x_aret C hK hlk hrt (by first | exact Or.inl ⟨_, rfl⟩ | exact Or.inr ⟨_, rfl⟩) hQ hH0 hAA () ?_ [0, 1] (by decide) rfl (by first | decide | omega) (by first | decide | omega) dX5_numbered_82
        trivial
      ·
        refine x_aload_n C dX5_numbered_17 rfl 1 rfl ?_
        refine x_iload_n C dX5_numbered_18 rfl 3 rfl ?_
        refine x_iload_n C dX5_numbered_19 rfl 2 rfl ?_
        refine x_iast C hK 1 0 rfl hI (by omega) (by omega) [(q, AJ cJ n0 t), (q_1, AI cI (n0 + 1) (upd (cpN (fun _ => 0) t k9) k9 (nI (tkn t k9))))] rfl dX5_numbered_20 ?_
        refine x_iload_n C dX5_numbered_21 rfl 3 rfl ?_
        refine x_iconst C (nI 1) dX5_numbered_22 (by decide +kernel) ?_
        refine x_isub C _ dX5_numbered_23 rfl ?_
        refine x_istore C [(4, .int ((nI k9) - (nI 1))), (0, .ref q), (1, .ref q_1), (2, .int (nI (tkn t k9))), (3, .int (nI k9))] dX5_numbered_24 (by decide) rfl ?_
        have LI_5 : ∀ (fuel : Nat) (z : Nat) (mv : Nat), (z ≤ k9) → (mv ≤ 40) → (nuV t k9 z mv) → z < fuel → X_ p l e rm_m_numbered s m args below meth c Q D A H0 5 1 (n0 + 1) [(q, AJ cJ n0 t), (q_1, AI cI (n0 + 1) (upd (cpN (fun _ => 0) t k9) k9 (nI mv)))] [(0, .ref q), (1, .ref q_1), (2, .int (nI (tkn t k9))), (3, .int (nI k9)), (4, .int (nI z - nI 1))] 26 [] := by
          intro fuel
          induction fuel with
          | zero =>
            intros
            exact absurd (by assumption) (Nat.not_lt_zero _)
          | succ fuel ih_LI_5 =>
            intro z mv hz hmv hv hm_6
            refine x_iload C dX5_numbered_26 4 rfl ?_
            refine x_if_lt C 55 dX5_numbered_28 (by decide) (fun h_7 => ?_) (fun h_7 => ?_)
            ·
              have hz0 := (zm1 (by omega)).mp h_7
              subst hz0
              obtain ⟨hn1, hn2, hn3⟩ := nuV_e hv
              refine x_iload_n C dX5_numbered_55 rfl 2 rfl ?_
              refine x_aload_n C dX5_numbered_56 rfl 1 rfl ?_
              refine x_iload_n C dX5_numbered_57 rfl 3 rfl ?_
              refine x_iald C hK 1 0 rfl hI (by omega) (by omega) dX5_numbered_58 ?_
              refine x_topi (nI mv) (by exact pk_us) ?_
              refine x_iload_n C dX5_numbered_59 rfl 2 rfl ?_
              refine xn_icmp_ne C 67 (by omega) (by omega) dX5_numbered_60 (by decide) (fun h_8 => ?_) (fun h_8 => ?_)
              ·
                refine x_iconst C (nI 0) dX5_numbered_67 (by decide +kernel) ?_
                refine xn_iadd C dX5_numbered_68 ?_
                refine x_istore_n C [(2, .int (nI ((tkn t k9) + 0))), (0, .ref q), (1, .ref q_1), (3, .int (nI k9)), (4, .int (nI 0 - nI 1))] dX5_numbered_69 rfl (by decide) rfl ?_
                refine xn_iinc C (k9 + 1) [(3, .int (nI (k9 + 1))), (2, .int (nI ((tkn t k9) + 0))), (0, .ref q), (1, .ref q_1), (4, .int (nI 0 - nI 1))] dX5_numbered_70 3 rfl (by rw [show Int32.ofInt 1 = nI 1 from by decide +kernel]; exact nI_add _ _) (by decide) rfl ?_
                refine x_goto C 11 dX5_numbered_73 (by decide) ?_
                refine x_lv [(0, .ref q), (1, .ref q_1), (2, .int (nI (tkn t (k9 + 1)))), (3, .int (nI (k9 + 1)))] [2, 3, 1, 0] (by rw [show tkn t (k9 + 1) = (tkn t k9) + 0 from by first | exact hn2 (by assumption) | exact hn3 (by assumption)]; rfl) ?_
                refine x_ws [(q, AJ cJ n0 t), (q_1, AI cI (n0 + 1) (cpN (fun _ => 0) t (k9 + 1)))] (by rw [hn1, cpN_u]; try rfl) ?_
                exact ih_LK_2 (k9 + 1) (by first | assumption | omega) (by omega)
              ·
                refine x_iconst C (nI 1) dX5_numbered_63 (by decide +kernel) ?_
                refine x_goto C 68 dX5_numbered_64 (by decide) ?_
                refine xn_iadd C dX5_numbered_68 ?_
                refine x_istore_n C [(2, .int (nI ((tkn t k9) + 1))), (0, .ref q), (1, .ref q_1), (3, .int (nI k9)), (4, .int (nI 0 - nI 1))] dX5_numbered_69 rfl (by decide) rfl ?_
                refine xn_iinc C (k9 + 1) [(3, .int (nI (k9 + 1))), (2, .int (nI ((tkn t k9) + 1))), (0, .ref q), (1, .ref q_1), (4, .int (nI 0 - nI 1))] dX5_numbered_70 3 rfl (by rw [show Int32.ofInt 1 = nI 1 from by decide +kernel]; exact nI_add _ _) (by decide) rfl ?_
                refine x_goto C 11 dX5_numbered_73 (by decide) ?_
                refine x_lv [(0, .ref q), (1, .ref q_1), (2, .int (nI (tkn t (k9 + 1)))), (3, .int (nI (k9 + 1)))] [2, 3, 1, 0] (by rw [show tkn t (k9 + 1) = (tkn t k9) + 1 from by first | exact hn2 (by assumption) | exact hn3 (by assumption)]; rfl) ?_
                refine x_ws [(q, AJ cJ n0 t), (q_1, AI cI (n0 + 1) (cpN (fun _ => 0) t (k9 + 1)))] (by rw [hn1, cpN_u]; try rfl) ?_
                exact ih_LK_2 (k9 + 1) (by first | assumption | omega) (by omega)
            ·
              have hz0 : ¬ z = 0 := fun q => h_7 ((zm1 (by omega)).mpr q)
              refine x_lv [(0, .ref q), (1, .ref q_1), (2, .int (nI (tkn t k9))), (3, .int (nI k9)), (4, .int (nI (z - 1)))] [0, 1, 2, 3, 4] (by rw [show nI z - nI 1 = nI (z - 1) from pk_sub (by omega)]; rfl) ?_
              refine x_aload_n C dX5_numbered_31 rfl 0 rfl ?_
              refine x_iload C dX5_numbered_32 4 rfl ?_
              refine x_lald C hK 0 1 rfl hJ (by omega) (by omega) dX5_numbered_34 ?_
              refine x_aload_n C dX5_numbered_35 rfl 0 rfl ?_
              refine x_iload_n C dX5_numbered_36 rfl 3 rfl ?_
              refine x_lald C hK 0 1 rfl hJ (by omega) (by omega) dX5_numbered_37 ?_
              refine x_lcmp C dX5_numbered_38 ?_
              refine x_if_ne C 49 dX5_numbered_39 (by decide) (fun h_9 => ?_) (fun h_9 => ?_)
              ·
                have hne : ¬ t (z - 1) = t k9 := fun q => h_9 ((lg_cmp_eq _ _).mpr q)
                refine x_iinc C ((nI (z - 1)) + -1) [(4, .int ((nI (z - 1)) + -1)), (0, .ref q), (1, .ref q_1), (2, .int (nI (tkn t k9))), (3, .int (nI k9))] dX5_numbered_49 4 rfl rfl (by decide) rfl ?_
                refine x_goto C 26 dX5_numbered_52 (by decide) ?_
                refine x_lv [(0, .ref q), (1, .ref q_1), (2, .int (nI (tkn t k9))), (3, .int (nI k9)), (4, .int (nI (z - 1) - nI 1))] [1, 2, 3, 4, 0] (by rw [show nI (z - 1) - nI 1 = (nI (z - 1)) + -1 from by exact zm2 _]; rfl) ?_
                exact ih_LI_5 (z - 1) mv (by first | assumption | omega) (by first | assumption | (have hq1 := nmb_lt (t := t) (n := n0) (i := z - 1) (by omega); have hq2 := tkn_le t n0; omega)) (by first | exact nuV_n (by assumption) (by rw [show z - 1 + 1 = z by omega]; exact hv) | exact nuV_y (mv := mv) (by omega) (by assumption)) (by omega)
              ·
                have heq : t (z - 1) = t k9 := (lg_cmp_eq _ _).mp h_9
                refine x_aload_n C dX5_numbered_42 rfl 1 rfl ?_
                refine x_iload_n C dX5_numbered_43 rfl 3 rfl ?_
                refine x_aload_n C dX5_numbered_44 rfl 1 rfl ?_
                refine x_iload C dX5_numbered_45 4 rfl ?_
                refine x_iald C hK 1 0 rfl hI (by omega) (by omega) dX5_numbered_47 ?_
                refine x_topi (nI (nmb t (z - 1))) (by rw [pk_un (by omega), cpN_at _ _ (by omega)]) ?_
                refine x_iast C hK 1 0 rfl hI (by omega) (by omega) [(q, AJ cJ n0 t), (q_1, AI cI (n0 + 1) (upd (upd (cpN (fun _ => 0) t k9) k9 (nI mv)) k9 (nI (nmb t (z - 1)))))] rfl dX5_numbered_48 ?_
                refine x_ws [(q, AJ cJ n0 t), (q_1, AI cI (n0 + 1) (upd (cpN (fun _ => 0) t k9) k9 (nI (nmb t (z - 1)))))] (by rw [upd_upd]) ?_
                refine x_iinc C ((nI (z - 1)) + -1) [(4, .int ((nI (z - 1)) + -1)), (0, .ref q), (1, .ref q_1), (2, .int (nI (tkn t k9))), (3, .int (nI k9))] dX5_numbered_49 4 rfl rfl (by decide) rfl ?_
                refine x_goto C 26 dX5_numbered_52 (by decide) ?_
                refine x_lv [(0, .ref q), (1, .ref q_1), (2, .int (nI (tkn t k9))), (3, .int (nI k9)), (4, .int (nI (z - 1) - nI 1))] [1, 2, 3, 4, 0] (by rw [show nI (z - 1) - nI 1 = (nI (z - 1)) + -1 from by exact zm2 _]; rfl) ?_
                exact ih_LI_5 (z - 1) (nmb t (z - 1)) (by first | assumption | omega) (by first | assumption | (have hq1 := nmb_lt (t := t) (n := n0) (i := z - 1) (by omega); have hq2 := tkn_le t n0; omega)) (by first | exact nuV_n (by assumption) (by rw [show z - 1 + 1 = z by omega]; exact hv) | exact nuV_y (mv := mv) (by omega) (by assumption)) (by omega)
        refine x_lv [(0, .ref q), (1, .ref q_1), (2, .int (nI (tkn t k9))), (3, .int (nI k9)), (4, .int (nI k9 - nI 1))] [1, 2, 3, 4, 0] (by rw [show nI k9 - nI 1 = (nI k9) - (nI 1) from by rfl]; rfl) ?_
        exact LI_5 (k9 + 1) k9 (tkn t k9) (by first | assumption | omega) (by first | assumption | omega) (by exact nuV_0 _ _) (Nat.lt_succ_self _)
  refine x_lv [(0, .ref q), (1, .ref q_1), (2, .int (nI (tkn t 0))), (3, .int (nI 0))] [3, 2, 1, 0] (by rw [show tkn t 0 = 0 from by rfl]; rfl) ?_
  refine x_ws [(q, AJ cJ n0 t), (q_1, AI cI (n0 + 1) (cpN (fun _ => 0) t 0))] (by rw [cpN_0]; try rfl) ?_
  exact LK_2 (n0 - 0 + 1) 0 (by first | assumption | omega) (Nat.lt_succ_self _)
abbrev rm_m_fitX1 : Room := { frames := 1, cells := 0, slots := 0, locals := 21 }
set_option maxRecDepth 100000 in
set_option maxHeartbeats 4000000 in
theorem c_m_fitX1 (l : Launch) (D : va_G) (tys : List (ClassId × FieldType)) (cI cJ cA : ClassId) (hI : tys[0]? = some (cI, .int)) (hJ : tys[1]? = some (cJ, .long)) (hR : tys[2]? = some (cA, .array .int)) (yo : Nat) (thr : Int32) (ri : Int32) (yt : Nat) (ys : Nat) (yf : Nat) (yc : Nat) (co : Nat) (yd : Nat)  : MI l yX5_fit wsX5_fit rm_m_fitX1 D tys [.ref yo] [(yo, OB 5 [.int thr, .int ri, .ref yt, .ref ys, .ref yf, .ref yc, .int (nI co), .int (nI 0), .ref yd])] Unit (fun r (_ : Unit) => r = nI 0) (fun (_ : Unit) => [(yo, OB 5 [.int (nI 1), .int ri, .ref yt, .ref ys, .ref yf, .ref yc, .int (nI co), .int (nI 0), .ref yd])]) 0 0 := by
  intro sz
  refine x_met (cc := cX5_fit) (maxL := 7) (ret := (some .int)) (by decide +kernel) rfl (by show _ ≤ _; simp [lg_sl, Value.category]) [(0, .ref yo)] rfl ?_
  intro p e s m args below meth c Q A H0 C hK hNW hlk hrt hnm hQ hH0 hAA hA
  refine x_aload_n C dX5_fit_0 rfl 0 rfl ?_
  refine x_iconst C (nI 0) dX5_fit_1 (by decide +kernel) ?_
  refine x_put C hK in_X5_fit_X5 tyX5 tyX5_ok nmX5 0 rfl rfl 0 (by decide) (by decide +kernel) rfl rfl (tyX5_ok 0 (by decide)) rfl rfl (Nat.le_of_ble_eq_true rfl) [(yo, OB 5 [.int (nI 0), .int ri, .ref yt, .ref ys, .ref yf, .ref yc, .int (nI co), .int (nI 0), .ref yd])] rfl dX5_fit_2 ?_
  refine x_aload_n C dX5_fit_5 rfl 0 rfl ?_
  refine x_get C hK in_X5_fit_X5 0 rfl rfl 7 (by decide) (by decide +kernel) rfl rfl dX5_fit_6 ?_
  refine xn_if_ne C 18 (by omega) dX5_fit_9 (by decide) (fun h_1 => ?_) (fun h_1 => ?_)
  ·
    exact absurd h_1 (by first | decide | omega)
  ·
    refine x_aload_n C dX5_fit_12 rfl 0 rfl ?_
    refine x_iconst C (nI 1) dX5_fit_13 (by decide +kernel) ?_
    refine x_calli (x_runV C hK hNW (c_m_fail l D tys cI cJ cA hI hJ hR yo (nI 0) ri yt ys yf yc co 0 yd 1 ) (cwV 1 C.2.2.2.2 gX5_fit_X5_fail rfl rfl rfl (by decide +kernel) ⟨by decide, by decide⟩) [0] rfl (by decide) 0 5 rfl rfl rfl (st := []) rfl rfl (Nat.le_of_ble_eq_true rfl) dX5_fit_14 ⟨by first | decide | omega | exact (show _ ≤ 0 by omega), by first | decide | omega | exact (show _ ≤ 0 by omega)⟩) hA [0] rfl [] [] rfl (by decide) (by decide) [0] (by decide) (wf := (fun (u : Unit) => [(yo, OB 5 [.int (nI 1), .int ri, .ref yt, .ref ys, .ref yf, .ref yc, .int (nI co), .int (nI 0), .ref yd])])) (fun _ => rfl) (fun r_2 u h_3 => ?_)
    subst h_3
    refine x_iret C hK hlk hrt hQ hH0 hAA () ?_ [0] (by decide) rfl (by first | decide | omega) (by first | decide | omega) dX5_fit_17
    first | rfl | (exact ⟨rfl, rfl⟩) | trivial | assumption | omega
abbrev rm_m_fitX2 : Room := { frames := 2, cells := 4, slots := 162, locals := 46 }
set_option maxRecDepth 100000 in
set_option maxHeartbeats 4000000 in
theorem c_m_fitX2 (l : Launch) (D : va_G) (tys : List (ClassId × FieldType)) (cI cJ cA : ClassId) (hI : tys[0]? = some (cI, .int)) (hJ : tys[1]? = some (cJ, .long)) (hR : tys[2]? = some (cA, .array .int)) (yo : Nat) (thr : Int32) (ri : Int32) (yt : Nat) (ys : Nat) (yf : Nat) (yc : Nat) (co : Nat) (dn : Nat) (yd : Nat) (fr : Nat → Int64) (hco : co ≤ 40) (hdn : dn ≤ 40) (h0 : 0 < dn) (hx : 8 < tkn (clF (fun _ => 0) fr dn co) co ∨ 10 < tkn fr dn) : MI l yX5_fit wsX5_fit rm_m_fitX2 D tys [.ref yo] [(yo, OB 5 [.int thr, .int ri, .ref yt, .ref ys, .ref yf, .ref yc, .int (nI co), .int (nI dn), .ref yd]), (yd, AJ cJ 40 fr)] Unit (fun r (_ : Unit) => r = nI 0) (fun (_ : Unit) => [(yo, OB 5 [.int (nI 1), .int ri, .ref yt, .ref ys, .ref yf, .ref yc, .int (nI co), .int (nI dn), .ref yd]), (yd, AJ cJ 40 fr)]) 4 162 := by
  intro sz
  refine x_met (cc := cX5_fit) (maxL := 7) (ret := (some .int)) (by decide +kernel) rfl (by show _ ≤ _; simp [lg_sl, Value.category]) [(0, .ref yo)] rfl ?_
  intro p e s m args below meth c Q A H0 C hK hNW hlk hrt hnm hQ hH0 hAA hA
  have hb1 := tkn_le (clF (fun _ => 0) fr dn co) co
  have hb2 := tkn_le fr dn
  refine x_aload_n C dX5_fit_0 rfl 0 rfl ?_
  refine x_iconst C (nI 0) dX5_fit_1 (by decide +kernel) ?_
  refine x_put C hK in_X5_fit_X5 tyX5 tyX5_ok nmX5 0 rfl rfl 0 (by decide) (by decide +kernel) rfl rfl (tyX5_ok 0 (by decide)) rfl rfl (Nat.le_of_ble_eq_true rfl) [(yo, OB 5 [.int (nI 0), .int ri, .ref yt, .ref ys, .ref yf, .ref yc, .int (nI co), .int (nI dn), .ref yd]), (yd, AJ cJ 40 fr)] rfl dX5_fit_2 ?_
  refine x_aload_n C dX5_fit_5 rfl 0 rfl ?_
  refine x_get C hK in_X5_fit_X5 0 rfl rfl 7 (by decide) (by decide +kernel) rfl rfl dX5_fit_6 ?_
  refine xn_if_ne C 18 (by omega) dX5_fit_9 (by decide) (fun h_1 => ?_) (fun h_1 => ?_)
  ·
    refine x_aload_n C dX5_fit_18 rfl 0 rfl ?_
    refine x_get C hK in_X5_fit_X5 0 rfl rfl 7 (by decide) (by decide +kernel) rfl rfl dX5_fit_19 ?_
    refine x_new_long C hK hA (by decide +kernel) 1 hJ (by omega) (by first | decide | omega | exact (show _ ≤ 4 by omega)) (by first | decide | omega | exact (show _ ≤ 162 by omega)) dX5_fit_22 (fun q_2 => ?_)
    refine x_widen 1 dn (by first | decide | omega) (by first | decide | omega) ?_
    refine x_astore_n C [(1, .ref q_2), (0, .ref yo)] dX5_fit_24 rfl (by decide) rfl ?_
    refine x_aload_n C dX5_fit_25 rfl 1 rfl ?_
    refine x_get C hK in_X5_fit_X5 0 rfl rfl 8 (by decide) (by decide +kernel) rfl rfl dX5_fit_26 ?_
    refine x_iconst C (nI 0) dX5_fit_29 (by decide +kernel) ?_
    refine x_aload_n C dX5_fit_30 rfl 0 rfl ?_
    refine x_iconst C (nI 0) dX5_fit_31 (by decide +kernel) ?_
    refine x_aload_n C dX5_fit_32 rfl 1 rfl ?_
    refine x_get C hK in_X5_fit_X5 0 rfl rfl 7 (by decide) (by decide +kernel) rfl rfl dX5_fit_33 ?_
    refine x_copyl C hK (by decide +kernel) (by decide +kernel) (by decide +kernel) (by decide +kernel) 1 2 1 rfl rfl hJ (by omega) (by omega) (by omega) (by decide) (by decide) dX5_fit_36 [(yo, OB 5 [.int (nI 0), .int ri, .ref yt, .ref ys, .ref yf, .ref yc, .int (nI co), .int (nI dn), .ref yd]), (yd, AJ cJ 40 fr), (q_2, AJ cJ dn (fun z0 => if z0 < dn then fr z0 else (fun _ => 0) z0))] rfl ?_
    refine x_ws [(yo, OB 5 [.int (nI 0), .int ri, .ref yt, .ref ys, .ref yf, .ref yc, .int (nI co), .int (nI dn), .ref yd]), (yd, AJ cJ 40 fr), (q_2, AJ cJ dn (cpR fr dn))] (by rfl) ?_
    refine x_aload_n C dX5_fit_39 rfl 1 rfl ?_
    refine x_get C hK in_X5_fit_X5 0 rfl rfl 6 (by decide) (by decide +kernel) rfl rfl dX5_fit_40 ?_
    refine x_new_long C hK hA (by decide +kernel) 1 hJ (by omega) (by first | decide | omega | exact (show _ ≤ 4 by omega)) (by first | decide | omega | exact (show _ ≤ 162 by omega)) dX5_fit_43 (fun q_3 => ?_)
    refine x_widen 2 (dn + co) (by first | decide | omega) (by first | decide | omega) ?_
    refine x_astore_n C [(2, .ref q_3), (1, .ref q_2), (0, .ref yo)] dX5_fit_45 rfl (by decide) rfl ?_
    refine x_iconst C (nI 0) dX5_fit_46 (by decide +kernel) ?_
    refine x_istore_n C [(3, .int (nI 0)), (2, .ref q_3), (1, .ref q_2), (0, .ref yo)] dX5_fit_47 rfl (by decide) rfl ?_
    have LS_4 : ∀ (fuel : Nat) (i : Nat), (i ≤ co) → co - i < fuel → X_ p l e rm_m_fitX2 s m args below meth c Q D A H0 7 2 (dn + co) [(yo, OB 5 [.int (nI 0), .int ri, .ref yt, .ref ys, .ref yf, .ref yc, .int (nI co), .int (nI dn), .ref yd]), (yd, AJ cJ 40 fr), (q_2, AJ cJ dn (cpR fr dn)), (q_3, AJ cJ co (clF (fun _ => 0) fr dn i))] [(0, .ref yo), (1, .ref q_2), (2, .ref q_3), (3, .int (nI i))] 48 [] := by
      intro fuel
      induction fuel with
      | zero =>
        intros
        exact absurd (by assumption) (Nat.not_lt_zero _)
      | succ fuel ih_LS_4 =>
        intro i hi hm_5
        refine x_iload_n C dX5_fit_48 rfl 3 rfl ?_
        refine x_aload_n C dX5_fit_49 rfl 0 rfl ?_
        refine x_get C hK in_X5_fit_X5 0 rfl rfl 6 (by decide) (by decide +kernel) rfl rfl dX5_fit_50 ?_
        refine xn_icmp_ge C 70 (by omega) (by omega) dX5_fit_53 (by decide) (fun h_6 => ?_) (fun h_6 => ?_)
        ·
          have heq_i : co = i := by omega
          subst heq_i
          refine x_aload_n C dX5_fit_70 rfl 2 rfl ?_
          refine x_callr (x_runS C hK hNW (c_m_numbered l D tys cI cJ cA hI hJ hR q_3 co (clF (fun _ => 0) fr dn co) (by first | omega | assumption)) (va_cwS 1 C.2.2.2.2 gX5_fit_X5_numbered rfl rfl rfl (by decide +kernel) ⟨by decide, by decide⟩) [3] rfl (by decide) (st := []) rfl rfl (Nat.le_of_ble_eq_true rfl) dX5_fit_71 ⟨by first | decide | omega | exact (show _ ≤ 4 by omega), by first | decide | omega | exact (show _ ≤ 162 by omega)⟩) hA [3] rfl [0, 1, 2] [(yo, OB 5 [.int (nI 0), .int ri, .ref yt, .ref ys, .ref yf, .ref yc, .int (nI co), .int (nI dn), .ref yd]), (yd, AJ cJ 40 fr), (q_2, AJ cJ dn (cpR fr dn))] rfl (by decide) (by decide) [0, 1, 2, 3, 4] (by decide) (wf := (fun (u : Unit) (ra : Nat) => [(yo, OB 5 [.int (nI 0), .int ri, .ref yt, .ref ys, .ref yf, .ref yc, .int (nI co), .int (nI dn), .ref yd]), (yd, AJ cJ 40 fr), (q_2, AJ cJ dn (cpR fr dn)), (q_3, AJ cJ co (clF (fun _ => 0) fr dn co)), (ra, AI cI (co + 1) (nuF (clF (fun _ => 0) fr dn co) co))])) (fun _ _ => rfl) (fun u ra_9 h_8 => ?_)
          refine x_widen 3 ((dn + co) + 41) (by first | decide | omega) (by first | decide | omega) ?_
          refine x_astore_n C [(3, .ref ra_9), (0, .ref yo), (1, .ref q_2), (2, .ref q_3)] dX5_fit_74 rfl (by decide) rfl ?_
          refine x_aload_n C dX5_fit_75 rfl 2 rfl ?_
          refine x_callr (x_runS C hK hNW (c_m_numbered l D tys cI cJ cA hI hJ hR q_2 dn (cpR fr dn) (by first | omega | assumption)) (va_cwS 1 C.2.2.2.2 gX5_fit_X5_numbered rfl rfl rfl (by decide +kernel) ⟨by decide, by decide⟩) [2] rfl (by decide) (st := []) rfl rfl (Nat.le_of_ble_eq_true rfl) dX5_fit_76 ⟨by first | decide | omega | exact (show _ ≤ 4 by omega), by first | decide | omega | exact (show _ ≤ 162 by omega)⟩) hA [2] rfl [0, 1, 3, 4] [(yo, OB 5 [.int (nI 0), .int ri, .ref yt, .ref ys, .ref yf, .ref yc, .int (nI co), .int (nI dn), .ref yd]), (yd, AJ cJ 40 fr), (q_3, AJ cJ co (clF (fun _ => 0) fr dn co)), (ra_9, AI cI (co + 1) (nuF (clF (fun _ => 0) fr dn co) co))] rfl (by decide) (by decide) [0, 1, 4, 2, 3, 5] (by decide) (wf := (fun (u : Unit) (ra : Nat) => [(yo, OB 5 [.int (nI 0), .int ri, .ref yt, .ref ys, .ref yf, .ref yc, .int (nI co), .int (nI dn), .ref yd]), (yd, AJ cJ 40 fr), (q_2, AJ cJ dn (cpR fr dn)), (q_3, AJ cJ co (clF (fun _ => 0) fr dn co)), (ra_9, AI cI (co + 1) (nuF (clF (fun _ => 0) fr dn co) co)), (ra, AI cI (dn + 1) (nuF (cpR fr dn) dn))])) (fun _ _ => rfl) (fun u ra_12 h_11 => ?_)
          refine x_widen 4 (((dn + co) + 41) + 41) (by first | decide | omega) (by first | decide | omega) ?_
          refine x_astore C [(4, .ref ra_12), (3, .ref ra_9), (0, .ref yo), (1, .ref q_2), (2, .ref q_3)] dX5_fit_79 (by decide) rfl ?_
          refine x_aload_n C dX5_fit_81 rfl 1 rfl ?_
          refine x_aload_n C dX5_fit_82 rfl 2 rfl ?_
          refine x_get C hK in_X5_fit_X5 0 rfl rfl 6 (by decide) (by decide +kernel) rfl rfl dX5_fit_83 ?_
          refine x_iald C hK 4 0 rfl hI (by omega) (by omega) dX5_fit_86 ?_
          refine x_topi (nI (tkn (clF (fun _ => 0) fr dn co) co)) (by exact nuF_n _ _) ?_
          refine x_bipush C (nI 8) dX5_fit_87 (by decide +kernel) ?_
          refine xn_icmp_gt C 104 (by omega) (by omega) dX5_fit_89 (by decide) (fun h_13 => ?_) (fun h_13 => ?_)
          ·
            refine x_aload_n C dX5_fit_104 rfl 2 rfl ?_
            refine x_iconst C (nI 1) dX5_fit_105 (by decide +kernel) ?_
            refine x_calli (x_runV C hK hNW (c_m_fail l D tys cI cJ cA hI hJ hR yo (nI 0) ri yt ys yf yc co dn yd 1 ) (cwV 1 C.2.2.2.2 gX5_fit_X5_fail rfl rfl rfl (by decide +kernel) ⟨by decide, by decide⟩) [0] rfl (by decide) 0 5 rfl rfl rfl (st := []) rfl rfl (Nat.le_of_ble_eq_true rfl) dX5_fit_106 ⟨by first | decide | omega | exact (show _ ≤ 4 by omega), by first | decide | omega | exact (show _ ≤ 162 by omega)⟩) hA [0] rfl [1, 2, 3, 4, 5] [(yd, AJ cJ 40 fr), (q_2, AJ cJ dn (cpR fr dn)), (q_3, AJ cJ co (clF (fun _ => 0) fr dn co)), (ra_9, AI cI (co + 1) (nuF (clF (fun _ => 0) fr dn co) co)), (ra_12, AI cI (dn + 1) (nuF (cpR fr dn) dn))] rfl (by decide) (by decide) [5, 0, 1, 2, 3, 4] (by decide) (wf := (fun (u : Unit) => [(yo, OB 5 [.int (nI 1), .int ri, .ref yt, .ref ys, .ref yf, .ref yc, .int (nI co), .int (nI dn), .ref yd]), (yd, AJ cJ 40 fr), (q_2, AJ cJ dn (cpR fr dn)), (q_3, AJ cJ co (clF (fun _ => 0) fr dn co)), (ra_9, AI cI (co + 1) (nuF (clF (fun _ => 0) fr dn co) co)), (ra_12, AI cI (dn + 1) (nuF (cpR fr dn) dn))])) (fun _ => rfl) (fun r_14 u h_15 => ?_)
            refine x_widen 4 (((dn + co) + 41) + 41) (by first | decide | omega) (by first | decide | omega) ?_
            subst h_15
            refine x_iret C hK hlk hrt hQ hH0 hAA () ?_ [0, 1] (by decide) rfl (by first | decide | omega) (by first | decide | omega) dX5_fit_109
            first | rfl | (exact ⟨rfl, rfl⟩) | trivial | assumption | omega
          ·
            refine x_aload C dX5_fit_92 0 rfl ?_
            refine x_aload_n C dX5_fit_94 rfl 2 rfl ?_
            refine x_get C hK in_X5_fit_X5 0 rfl rfl 7 (by decide) (by decide +kernel) rfl rfl dX5_fit_95 ?_
            refine x_iald C hK 5 0 rfl hI (by omega) (by omega) dX5_fit_98 ?_
            refine x_topi (nI (tkn fr dn)) (by rw [nuF_n]; exact congrArg nI (tkn_cong (n := dn) (fun j hj => if_pos hj) (Nat.le_refl _))) ?_
            refine x_bipush C (nI 10) dX5_fit_99 (by decide +kernel) ?_
            refine xn_icmp_le C 110 (by omega) (by omega) dX5_fit_101 (by decide) (fun h_16 => ?_) (fun h_16 => ?_)
            ·
              exact False.elim (by omega)
            ·
              refine x_aload_n C dX5_fit_104 rfl 2 rfl ?_
              refine x_iconst C (nI 1) dX5_fit_105 (by decide +kernel) ?_
              refine x_calli (x_runV C hK hNW (c_m_fail l D tys cI cJ cA hI hJ hR yo (nI 0) ri yt ys yf yc co dn yd 1 ) (cwV 1 C.2.2.2.2 gX5_fit_X5_fail rfl rfl rfl (by decide +kernel) ⟨by decide, by decide⟩) [0] rfl (by decide) 0 5 rfl rfl rfl (st := []) rfl rfl (Nat.le_of_ble_eq_true rfl) dX5_fit_106 ⟨by first | decide | omega | exact (show _ ≤ 4 by omega), by first | decide | omega | exact (show _ ≤ 162 by omega)⟩) hA [0] rfl [1, 2, 3, 4, 5] [(yd, AJ cJ 40 fr), (q_2, AJ cJ dn (cpR fr dn)), (q_3, AJ cJ co (clF (fun _ => 0) fr dn co)), (ra_9, AI cI (co + 1) (nuF (clF (fun _ => 0) fr dn co) co)), (ra_12, AI cI (dn + 1) (nuF (cpR fr dn) dn))] rfl (by decide) (by decide) [5, 0, 1, 2, 3, 4] (by decide) (wf := (fun (u : Unit) => [(yo, OB 5 [.int (nI 1), .int ri, .ref yt, .ref ys, .ref yf, .ref yc, .int (nI co), .int (nI dn), .ref yd]), (yd, AJ cJ 40 fr), (q_2, AJ cJ dn (cpR fr dn)), (q_3, AJ cJ co (clF (fun _ => 0) fr dn co)), (ra_9, AI cI (co + 1) (nuF (clF (fun _ => 0) fr dn co) co)), (ra_12, AI cI (dn + 1) (nuF (cpR fr dn) dn))])) (fun _ => rfl) (fun r_17 u h_18 => ?_)
              refine x_widen 4 (((dn + co) + 41) + 41) (by first | decide | omega) (by first | decide | omega) ?_
              subst h_18
              refine x_iret C hK hlk hrt hQ hH0 hAA () ?_ [0, 1] (by decide) rfl (by first | decide | omega) (by first | decide | omega) dX5_fit_109
              first | rfl | (exact ⟨rfl, rfl⟩) | trivial | assumption | omega
        ·
          refine x_aload_n C dX5_fit_56 rfl 2 rfl ?_
          refine x_iload_n C dX5_fit_57 rfl 3 rfl ?_
          refine x_aload_n C dX5_fit_58 rfl 0 rfl ?_
          refine x_iload_n C dX5_fit_59 rfl 3 rfl ?_
          refine x_calll (x_runV C hK hNW (c_m_column l D tys cI cJ cA hI hJ hR yo (nI 0) ri yt ys yf yc co dn yd fr i (by first | omega | assumption)) (cwV 1 C.2.2.2.2 gX5_fit_X5_column rfl rfl rfl (by decide +kernel) ⟨by decide, by decide⟩) [0, 1] rfl (by decide) 0 5 rfl rfl rfl (st := [.int (nI i), .ref q_3]) rfl rfl (Nat.le_of_ble_eq_true rfl) dX5_fit_60 ⟨by first | decide | omega | exact (show _ ≤ 4 by omega), by first | decide | omega | exact (show _ ≤ 162 by omega)⟩) hA [0, 1] rfl [2, 3] [(q_2, AJ cJ dn (cpR fr dn)), (q_3, AJ cJ co (clF (fun _ => 0) fr dn i))] rfl (by decide) (by decide) [2, 3, 0, 1] (by decide) (wf := (fun (u : Unit) => [(yo, OB 5 [.int (nI 0), .int ri, .ref yt, .ref ys, .ref yf, .ref yc, .int (nI co), .int (nI dn), .ref yd]), (yd, AJ cJ 40 fr), (q_2, AJ cJ dn (cpR fr dn)), (q_3, AJ cJ co (clF (fun _ => 0) fr dn i))])) (fun _ => rfl) (fun r_19 u h_20 => ?_)
          refine x_widen 2 (dn + co) (by first | decide | omega) (by first | decide | omega) ?_
          subst h_20
          refine x_last C hK 3 1 rfl hJ (by omega) (by omega) [(yo, OB 5 [.int (nI 0), .int ri, .ref yt, .ref ys, .ref yf, .ref yc, .int (nI co), .int (nI dn), .ref yd]), (yd, AJ cJ 40 fr), (q_2, AJ cJ dn (cpR fr dn)), (q_3, AJ cJ co (vp_updL (clF (fun _ => 0) fr dn i) i (mkB (fun k => hbit (fr k) (nI i)) dn)))] rfl dX5_fit_63 ?_
          refine xn_iinc C (i + 1) [(3, .int (nI (i + 1))), (0, .ref yo), (1, .ref q_2), (2, .ref q_3)] dX5_fit_64 3 rfl (by rw [show Int32.ofInt 1 = nI 1 from by decide +kernel]; exact nI_add _ _) (by decide) rfl ?_
          refine x_goto C 48 dX5_fit_67 (by decide) ?_
          refine x_lv [(0, .ref yo), (1, .ref q_2), (2, .ref q_3), (3, .int (nI (i + 1)))] [1, 2, 3, 0] rfl ?_
          refine x_ws [(yo, OB 5 [.int (nI 0), .int ri, .ref yt, .ref ys, .ref yf, .ref yc, .int (nI co), .int (nI dn), .ref yd]), (yd, AJ cJ 40 fr), (q_2, AJ cJ dn (cpR fr dn)), (q_3, AJ cJ co (clF (fun _ => 0) fr dn (i + 1)))] (by rw [clF_s]; try rfl) ?_
          exact ih_LS_4 (i + 1) (by first | assumption | omega) (by omega)
    refine x_lv [(0, .ref yo), (1, .ref q_2), (2, .ref q_3), (3, .int (nI 0))] [3, 2, 1, 0] rfl ?_
    refine x_ws [(yo, OB 5 [.int (nI 0), .int ri, .ref yt, .ref ys, .ref yf, .ref yc, .int (nI co), .int (nI dn), .ref yd]), (yd, AJ cJ 40 fr), (q_2, AJ cJ dn (cpR fr dn)), (q_3, AJ cJ co (clF (fun _ => 0) fr dn 0))] (by rw [clF_0]; try rfl) ?_
    exact LS_4 (co - 0 + 1) 0 (by first | assumption | omega) (Nat.lt_succ_self _)
  ·
    exact absurd h_1 (by omega)
abbrev rm_m_fit : Room := { frames := 2, cells := 4, slots := 162, locals := 46 }
set_option maxRecDepth 100000 in
set_option maxHeartbeats 4000000 in
theorem c_m_fit (l : Launch) (D : va_G) (tys : List (ClassId × FieldType)) (cI cJ cA : ClassId) (hI : tys[0]? = some (cI, .int)) (hJ : tys[1]? = some (cJ, .long)) (hR : tys[2]? = some (cA, .array .int)) (yo : Nat) (thr : Int32) (ri : Int32) (yt : Nat) (ys : Nat) (yf : Nat) (yc : Nat) (co : Nat) (dn : Nat) (yd : Nat) (nw : Nat) (np : Nat) (ti : Nat → Int32) (g0 : Nat) (g1 : Nat) (bw : Nat → Int32) (bp : Nat → Int32) (k0 : Nat) (k1 : Nat) (cw : Nat → Int32) (cp : Nat → Int32) (fr : Nat → Int64) (hco : co ≤ 40) (hdn : dn ≤ 40) (h0 : 0 < dn) (h8 : tkn (clF (fun _ => 0) fr dn co) co ≤ 8) (h10 : tkn fr dn ≤ 10) : MI l yX5_fit wsX5_fit rm_m_fit D tys [.ref yo] [(yo, OB 5 [.int thr, .int ri, .ref yt, .ref ys, .ref yf, .ref yc, .int (nI co), .int (nI dn), .ref yd]), (ys, AI cI 2 (sz2 nw np)), (yt, AI cI 10 ti), (yf, AR cA 2 (gr2 g0 g1)), (g0, AI cI 40 bw), (g1, AI cI 40 bp), (yc, AR cA 2 (gr2 k0 k1)), (k0, AI cI 40 cw), (k1, AI cI 40 cp), (yd, AJ cJ 40 fr)] Unit (fun r (_ : Unit) => r = nI (tkn (clF (fun _ => 0) fr dn co) co)) (fun (_ : Unit) => [(yo, OB 5 [.int (nI 0), .int ri, .ref yt, .ref ys, .ref yf, .ref yc, .int (nI co), .int (nI dn), .ref yd]), (ys, AI cI 2 (sz2 co dn)), (yt, AI cI 10 (tiF ri fr (cpN (fun _ => 0) (clF (fun _ => 0) fr dn co) co) co (flF ti 0 10) dn)), (yf, AR cA 2 (gr2 g0 g1)), (g0, AI cI 40 (thF (cpN (fun _ => 0) (clF (fun _ => 0) fr dn co) co) bw co)), (g1, AI cI 40 (thF (fun y0 => (nI 1) <<< ((cpN (fun _ => 0) fr dn) y0 &&& 31)) bp dn)), (yc, AR cA 2 (gr2 k0 k1)), (k0, AI cI 40 (thF (fun _ => nI 0) cw co)), (k1, AI cI 40 (thF (fun _ => nI 1) cp dn)), (yd, AJ cJ 40 fr)]) 4 162 := by
  intro sz
  refine x_met (cc := cX5_fit) (maxL := 7) (ret := (some .int)) (by decide +kernel) rfl (by show _ ≤ _; simp [lg_sl, Value.category]) [(0, .ref yo)] rfl ?_
  intro p e s m args below meth c Q A H0 C hK hNW hlk hrt hnm hQ hH0 hAA hA
  have hb1 := tkn_le (clF (fun _ => 0) fr dn co) co
  have hb2 := tkn_le fr dn
  refine x_aload_n C dX5_fit_0 rfl 0 rfl ?_
  refine x_iconst C (nI 0) dX5_fit_1 (by decide +kernel) ?_
  refine x_put C hK in_X5_fit_X5 tyX5 tyX5_ok nmX5 0 rfl rfl 0 (by decide) (by decide +kernel) rfl rfl (tyX5_ok 0 (by decide)) rfl rfl (Nat.le_of_ble_eq_true rfl) [(yo, OB 5 [.int (nI 0), .int ri, .ref yt, .ref ys, .ref yf, .ref yc, .int (nI co), .int (nI dn), .ref yd]), (ys, AI cI 2 (sz2 nw np)), (yt, AI cI 10 ti), (yf, AR cA 2 (gr2 g0 g1)), (g0, AI cI 40 bw), (g1, AI cI 40 bp), (yc, AR cA 2 (gr2 k0 k1)), (k0, AI cI 40 cw), (k1, AI cI 40 cp), (yd, AJ cJ 40 fr)] rfl dX5_fit_2 ?_
  refine x_aload_n C dX5_fit_5 rfl 0 rfl ?_
  refine x_get C hK in_X5_fit_X5 0 rfl rfl 7 (by decide) (by decide +kernel) rfl rfl dX5_fit_6 ?_
  refine xn_if_ne C 18 (by omega) dX5_fit_9 (by decide) (fun h_1 => ?_) (fun h_1 => ?_)
  ·
    refine x_aload_n C dX5_fit_18 rfl 0 rfl ?_
    refine x_get C hK in_X5_fit_X5 0 rfl rfl 7 (by decide) (by decide +kernel) rfl rfl dX5_fit_19 ?_
    refine x_new_long C hK hA (by decide +kernel) 1 hJ (by omega) (by first | decide | omega | exact (show _ ≤ 4 by omega)) (by first | decide | omega | exact (show _ ≤ 162 by omega)) dX5_fit_22 (fun q_2 => ?_)
    refine x_widen 1 dn (by first | decide | omega) (by first | decide | omega) ?_
    refine x_astore_n C [(1, .ref q_2), (0, .ref yo)] dX5_fit_24 rfl (by decide) rfl ?_
    refine x_aload_n C dX5_fit_25 rfl 1 rfl ?_
    refine x_get C hK in_X5_fit_X5 0 rfl rfl 8 (by decide) (by decide +kernel) rfl rfl dX5_fit_26 ?_
    refine x_iconst C (nI 0) dX5_fit_29 (by decide +kernel) ?_
    refine x_aload_n C dX5_fit_30 rfl 0 rfl ?_
    refine x_iconst C (nI 0) dX5_fit_31 (by decide +kernel) ?_
    refine x_aload_n C dX5_fit_32 rfl 1 rfl ?_
    refine x_get C hK in_X5_fit_X5 0 rfl rfl 7 (by decide) (by decide +kernel) rfl rfl dX5_fit_33 ?_
    refine x_copyl C hK (by decide +kernel) (by decide +kernel) (by decide +kernel) (by decide +kernel) 9 10 1 rfl rfl hJ (by omega) (by omega) (by omega) (by decide) (by decide) dX5_fit_36 [(yo, OB 5 [.int (nI 0), .int ri, .ref yt, .ref ys, .ref yf, .ref yc, .int (nI co), .int (nI dn), .ref yd]), (ys, AI cI 2 (sz2 nw np)), (yt, AI cI 10 ti), (yf, AR cA 2 (gr2 g0 g1)), (g0, AI cI 40 bw), (g1, AI cI 40 bp), (yc, AR cA 2 (gr2 k0 k1)), (k0, AI cI 40 cw), (k1, AI cI 40 cp), (yd, AJ cJ 40 fr), (q_2, AJ cJ dn (fun z0 => if z0 < dn then fr z0 else (fun _ => 0) z0))] rfl ?_
    refine x_ws [(yo, OB 5 [.int (nI 0), .int ri, .ref yt, .ref ys, .ref yf, .ref yc, .int (nI co), .int (nI dn), .ref yd]), (ys, AI cI 2 (sz2 nw np)), (yt, AI cI 10 ti), (yf, AR cA 2 (gr2 g0 g1)), (g0, AI cI 40 bw), (g1, AI cI 40 bp), (yc, AR cA 2 (gr2 k0 k1)), (k0, AI cI 40 cw), (k1, AI cI 40 cp), (yd, AJ cJ 40 fr), (q_2, AJ cJ dn (cpR fr dn))] (by rfl) ?_
    refine x_aload_n C dX5_fit_39 rfl 1 rfl ?_
    refine x_get C hK in_X5_fit_X5 0 rfl rfl 6 (by decide) (by decide +kernel) rfl rfl dX5_fit_40 ?_
    refine x_new_long C hK hA (by decide +kernel) 1 hJ (by omega) (by first | decide | omega | exact (show _ ≤ 4 by omega)) (by first | decide | omega | exact (show _ ≤ 162 by omega)) dX5_fit_43 (fun q_3 => ?_)
    refine x_widen 2 (dn + co) (by first | decide | omega) (by first | decide | omega) ?_
    refine x_astore_n C [(2, .ref q_3), (1, .ref q_2), (0, .ref yo)] dX5_fit_45 rfl (by decide) rfl ?_
    refine x_iconst C (nI 0) dX5_fit_46 (by decide +kernel) ?_
    refine x_istore_n C [(3, .int (nI 0)), (2, .ref q_3), (1, .ref q_2), (0, .ref yo)] dX5_fit_47 rfl (by decide) rfl ?_
    have LS_4 : ∀ (fuel : Nat) (i : Nat), (i ≤ co) → co - i < fuel → X_ p l e rm_m_fit s m args below meth c Q D A H0 7 2 (dn + co) [(yo, OB 5 [.int (nI 0), .int ri, .ref yt, .ref ys, .ref yf, .ref yc, .int (nI co), .int (nI dn), .ref yd]), (ys, AI cI 2 (sz2 nw np)), (yt, AI cI 10 ti), (yf, AR cA 2 (gr2 g0 g1)), (g0, AI cI 40 bw), (g1, AI cI 40 bp), (yc, AR cA 2 (gr2 k0 k1)), (k0, AI cI 40 cw), (k1, AI cI 40 cp), (yd, AJ cJ 40 fr), (q_2, AJ cJ dn (cpR fr dn)), (q_3, AJ cJ co (clF (fun _ => 0) fr dn i))] [(0, .ref yo), (1, .ref q_2), (2, .ref q_3), (3, .int (nI i))] 48 [] := by
      intro fuel
      induction fuel with
      | zero =>
        intros
        exact absurd (by assumption) (Nat.not_lt_zero _)
      | succ fuel ih_LS_4 =>
        intro i hi hm_5
        refine x_iload_n C dX5_fit_48 rfl 3 rfl ?_
        refine x_aload_n C dX5_fit_49 rfl 0 rfl ?_
        refine x_get C hK in_X5_fit_X5 0 rfl rfl 6 (by decide) (by decide +kernel) rfl rfl dX5_fit_50 ?_
        refine xn_icmp_ge C 70 (by omega) (by omega) dX5_fit_53 (by decide) (fun h_6 => ?_) (fun h_6 => ?_)
        ·
          have heq_i : co = i := by omega
          subst heq_i
          refine x_aload_n C dX5_fit_70 rfl 2 rfl ?_
          refine x_callr (x_runS C hK hNW (c_m_numbered l D tys cI cJ cA hI hJ hR q_3 co (clF (fun _ => 0) fr dn co) (by first | omega | assumption)) (va_cwS 1 C.2.2.2.2 gX5_fit_X5_numbered rfl rfl rfl (by decide +kernel) ⟨by decide, by decide⟩) [11] rfl (by decide) (st := []) rfl rfl (Nat.le_of_ble_eq_true rfl) dX5_fit_71 ⟨by first | decide | omega | exact (show _ ≤ 4 by omega), by first | decide | omega | exact (show _ ≤ 162 by omega)⟩) hA [11] rfl [0, 1, 2, 3, 4, 5, 6, 7, 8, 9, 10] [(yo, OB 5 [.int (nI 0), .int ri, .ref yt, .ref ys, .ref yf, .ref yc, .int (nI co), .int (nI dn), .ref yd]), (ys, AI cI 2 (sz2 nw np)), (yt, AI cI 10 ti), (yf, AR cA 2 (gr2 g0 g1)), (g0, AI cI 40 bw), (g1, AI cI 40 bp), (yc, AR cA 2 (gr2 k0 k1)), (k0, AI cI 40 cw), (k1, AI cI 40 cp), (yd, AJ cJ 40 fr), (q_2, AJ cJ dn (cpR fr dn))] rfl (by decide) (by decide) [0, 1, 2, 3, 4, 5, 6, 7, 8, 9, 10, 11, 12] (by decide) (wf := (fun (u : Unit) (ra : Nat) => [(yo, OB 5 [.int (nI 0), .int ri, .ref yt, .ref ys, .ref yf, .ref yc, .int (nI co), .int (nI dn), .ref yd]), (ys, AI cI 2 (sz2 nw np)), (yt, AI cI 10 ti), (yf, AR cA 2 (gr2 g0 g1)), (g0, AI cI 40 bw), (g1, AI cI 40 bp), (yc, AR cA 2 (gr2 k0 k1)), (k0, AI cI 40 cw), (k1, AI cI 40 cp), (yd, AJ cJ 40 fr), (q_2, AJ cJ dn (cpR fr dn)), (q_3, AJ cJ co (clF (fun _ => 0) fr dn co)), (ra, AI cI (co + 1) (nuF (clF (fun _ => 0) fr dn co) co))])) (fun _ _ => rfl) (fun u ra_9 h_8 => ?_)
          refine x_widen 3 ((dn + co) + 41) (by first | decide | omega) (by first | decide | omega) ?_
          refine x_astore_n C [(3, .ref ra_9), (0, .ref yo), (1, .ref q_2), (2, .ref q_3)] dX5_fit_74 rfl (by decide) rfl ?_
          refine x_aload_n C dX5_fit_75 rfl 2 rfl ?_
          refine x_callr (x_runS C hK hNW (c_m_numbered l D tys cI cJ cA hI hJ hR q_2 dn (cpR fr dn) (by first | omega | assumption)) (va_cwS 1 C.2.2.2.2 gX5_fit_X5_numbered rfl rfl rfl (by decide +kernel) ⟨by decide, by decide⟩) [10] rfl (by decide) (st := []) rfl rfl (Nat.le_of_ble_eq_true rfl) dX5_fit_76 ⟨by first | decide | omega | exact (show _ ≤ 4 by omega), by first | decide | omega | exact (show _ ≤ 162 by omega)⟩) hA [10] rfl [0, 1, 2, 3, 4, 5, 6, 7, 8, 9, 11, 12] [(yo, OB 5 [.int (nI 0), .int ri, .ref yt, .ref ys, .ref yf, .ref yc, .int (nI co), .int (nI dn), .ref yd]), (ys, AI cI 2 (sz2 nw np)), (yt, AI cI 10 ti), (yf, AR cA 2 (gr2 g0 g1)), (g0, AI cI 40 bw), (g1, AI cI 40 bp), (yc, AR cA 2 (gr2 k0 k1)), (k0, AI cI 40 cw), (k1, AI cI 40 cp), (yd, AJ cJ 40 fr), (q_3, AJ cJ co (clF (fun _ => 0) fr dn co)), (ra_9, AI cI (co + 1) (nuF (clF (fun _ => 0) fr dn co) co))] rfl (by decide) (by decide) [0, 1, 2, 3, 4, 5, 6, 7, 8, 9, 12, 10, 11, 13] (by decide) (wf := (fun (u : Unit) (ra : Nat) => [(yo, OB 5 [.int (nI 0), .int ri, .ref yt, .ref ys, .ref yf, .ref yc, .int (nI co), .int (nI dn), .ref yd]), (ys, AI cI 2 (sz2 nw np)), (yt, AI cI 10 ti), (yf, AR cA 2 (gr2 g0 g1)), (g0, AI cI 40 bw), (g1, AI cI 40 bp), (yc, AR cA 2 (gr2 k0 k1)), (k0, AI cI 40 cw), (k1, AI cI 40 cp), (yd, AJ cJ 40 fr), (q_2, AJ cJ dn (cpR fr dn)), (q_3, AJ cJ co (clF (fun _ => 0) fr dn co)), (ra_9, AI cI (co + 1) (nuF (clF (fun _ => 0) fr dn co) co)), (ra, AI cI (dn + 1) (nuF (cpR fr dn) dn))])) (fun _ _ => rfl) (fun u ra_12 h_11 => ?_)
          refine x_widen 4 (((dn + co) + 41) + 41) (by first | decide | omega) (by first | decide | omega) ?_
          refine x_astore C [(4, .ref ra_12), (3, .ref ra_9), (0, .ref yo), (1, .ref q_2), (2, .ref q_3)] dX5_fit_79 (by decide) rfl ?_
          refine x_aload_n C dX5_fit_81 rfl 1 rfl ?_
          refine x_aload_n C dX5_fit_82 rfl 2 rfl ?_
          refine x_get C hK in_X5_fit_X5 0 rfl rfl 6 (by decide) (by decide +kernel) rfl rfl dX5_fit_83 ?_
          refine x_iald C hK 12 0 rfl hI (by omega) (by omega) dX5_fit_86 ?_
          refine x_topi (nI (tkn (clF (fun _ => 0) fr dn co) co)) (by exact nuF_n _ _) ?_
          refine x_bipush C (nI 8) dX5_fit_87 (by decide +kernel) ?_
          refine xn_icmp_gt C 104 (by omega) (by omega) dX5_fit_89 (by decide) (fun h_13 => ?_) (fun h_13 => ?_)
          ·
            exact False.elim (by omega)
          ·
            refine x_aload C dX5_fit_92 0 rfl ?_
            refine x_aload_n C dX5_fit_94 rfl 2 rfl ?_
            refine x_get C hK in_X5_fit_X5 0 rfl rfl 7 (by decide) (by decide +kernel) rfl rfl dX5_fit_95 ?_
            refine x_iald C hK 13 0 rfl hI (by omega) (by omega) dX5_fit_98 ?_
            refine x_topi (nI (tkn fr dn)) (by rw [nuF_n]; exact congrArg nI (tkn_cong (n := dn) (fun j hj => if_pos hj) (Nat.le_refl _))) ?_
            refine x_bipush C (nI 10) dX5_fit_99 (by decide +kernel) ?_
            refine xn_icmp_le C 110 (by omega) (by omega) dX5_fit_101 (by decide) (fun h_14 => ?_) (fun h_14 => ?_)
            ·
              refine x_aload_n C dX5_fit_110 rfl 2 rfl ?_
              refine x_get C hK in_X5_fit_X5 0 rfl rfl 3 (by decide) (by decide +kernel) rfl rfl dX5_fit_111 ?_
              refine x_iconst C (nI 0) dX5_fit_114 (by decide +kernel) ?_
              refine x_iconst C (nI 0) dX5_fit_115 (by decide +kernel) ?_
              refine x_iast C hK 1 0 rfl hI (by omega) (by omega) [(yo, OB 5 [.int (nI 0), .int ri, .ref yt, .ref ys, .ref yf, .ref yc, .int (nI co), .int (nI dn), .ref yd]), (ys, AI cI 2 (upd (sz2 nw np) 0 (nI 0))), (yt, AI cI 10 ti), (yf, AR cA 2 (gr2 g0 g1)), (g0, AI cI 40 bw), (g1, AI cI 40 bp), (yc, AR cA 2 (gr2 k0 k1)), (k0, AI cI 40 cw), (k1, AI cI 40 cp), (yd, AJ cJ 40 fr), (q_2, AJ cJ dn (cpR fr dn)), (q_3, AJ cJ co (clF (fun _ => 0) fr dn co)), (ra_9, AI cI (co + 1) (nuF (clF (fun _ => 0) fr dn co) co)), (ra_12, AI cI (dn + 1) (nuF (cpR fr dn) dn))] rfl dX5_fit_116 ?_
              refine x_ws [(yo, OB 5 [.int (nI 0), .int ri, .ref yt, .ref ys, .ref yf, .ref yc, .int (nI co), .int (nI dn), .ref yd]), (ys, AI cI 2 (sz2 0 np)), (yt, AI cI 10 ti), (yf, AR cA 2 (gr2 g0 g1)), (g0, AI cI 40 bw), (g1, AI cI 40 bp), (yc, AR cA 2 (gr2 k0 k1)), (k0, AI cI 40 cw), (k1, AI cI 40 cp), (yd, AJ cJ 40 fr), (q_2, AJ cJ dn (cpR fr dn)), (q_3, AJ cJ co (clF (fun _ => 0) fr dn co)), (ra_9, AI cI (co + 1) (nuF (clF (fun _ => 0) fr dn co) co)), (ra_12, AI cI (dn + 1) (nuF (cpR fr dn) dn))] (by rw [sz2_u0]) ?_
              refine x_aload_n C dX5_fit_117 rfl 2 rfl ?_
              refine x_get C hK in_X5_fit_X5 0 rfl rfl 3 (by decide) (by decide +kernel) rfl rfl dX5_fit_118 ?_
              refine x_iconst C (nI 1) dX5_fit_121 (by decide +kernel) ?_
              refine x_iconst C (nI 0) dX5_fit_122 (by decide +kernel) ?_
              refine x_iast C hK 1 0 rfl hI (by omega) (by omega) [(yo, OB 5 [.int (nI 0), .int ri, .ref yt, .ref ys, .ref yf, .ref yc, .int (nI co), .int (nI dn), .ref yd]), (ys, AI cI 2 (upd (sz2 0 np) 1 (nI 0))), (yt, AI cI 10 ti), (yf, AR cA 2 (gr2 g0 g1)), (g0, AI cI 40 bw), (g1, AI cI 40 bp), (yc, AR cA 2 (gr2 k0 k1)), (k0, AI cI 40 cw), (k1, AI cI 40 cp), (yd, AJ cJ 40 fr), (q_2, AJ cJ dn (cpR fr dn)), (q_3, AJ cJ co (clF (fun _ => 0) fr dn co)), (ra_9, AI cI (co + 1) (nuF (clF (fun _ => 0) fr dn co) co)), (ra_12, AI cI (dn + 1) (nuF (cpR fr dn) dn))] rfl dX5_fit_123 ?_
              refine x_ws [(yo, OB 5 [.int (nI 0), .int ri, .ref yt, .ref ys, .ref yf, .ref yc, .int (nI co), .int (nI dn), .ref yd]), (ys, AI cI 2 (sz2 0 0)), (yt, AI cI 10 ti), (yf, AR cA 2 (gr2 g0 g1)), (g0, AI cI 40 bw), (g1, AI cI 40 bp), (yc, AR cA 2 (gr2 k0 k1)), (k0, AI cI 40 cw), (k1, AI cI 40 cp), (yd, AJ cJ 40 fr), (q_2, AJ cJ dn (cpR fr dn)), (q_3, AJ cJ co (clF (fun _ => 0) fr dn co)), (ra_9, AI cI (co + 1) (nuF (clF (fun _ => 0) fr dn co) co)), (ra_12, AI cI (dn + 1) (nuF (cpR fr dn) dn))] (by rw [sz2_u1]) ?_
              refine x_iconst C (nI 0) dX5_fit_124 (by decide +kernel) ?_
              refine x_istore C [(5, .int (nI 0)), (4, .ref ra_12), (3, .ref ra_9), (0, .ref yo), (1, .ref q_2), (2, .ref q_3)] dX5_fit_125 (by decide) rfl ?_
              have LT_15 : ∀ (fuel : Nat) (i : Nat), (i ≤ 10) → 10 - i < fuel → X_ p l e rm_m_fit s m args below meth c Q D A H0 7 4 (((dn + co) + 41) + 41) [(yo, OB 5 [.int (nI 0), .int ri, .ref yt, .ref ys, .ref yf, .ref yc, .int (nI co), .int (nI dn), .ref yd]), (ys, AI cI 2 (sz2 0 0)), (yt, AI cI 10 (flF ti (nI 0) i)), (yf, AR cA 2 (gr2 g0 g1)), (g0, AI cI 40 bw), (g1, AI cI 40 bp), (yc, AR cA 2 (gr2 k0 k1)), (k0, AI cI 40 cw), (k1, AI cI 40 cp), (yd, AJ cJ 40 fr), (q_2, AJ cJ dn (cpR fr dn)), (q_3, AJ cJ co (clF (fun _ => 0) fr dn co)), (ra_9, AI cI (co + 1) (nuF (clF (fun _ => 0) fr dn co) co)), (ra_12, AI cI (dn + 1) (nuF (cpR fr dn) dn))] [(0, .ref yo), (1, .ref q_2), (2, .ref q_3), (3, .ref ra_9), (4, .ref ra_12), (5, .int (nI i))] 127 [] := by
                intro fuel
                induction fuel with
                | zero =>
                  intros
                  exact absurd (by assumption) (Nat.not_lt_zero _)
                | succ fuel ih_LT_15 =>
                  intro i hi hm_16
                  refine x_iload C dX5_fit_127 5 rfl ?_
                  refine x_bipush C (nI 10) dX5_fit_129 (by decide +kernel) ?_
                  refine xn_icmp_ge C 148 (by omega) (by omega) dX5_fit_131 (by decide) (fun h_17 => ?_) (fun h_17 => ?_)
                  ·
                    have heq_i : i = 10 := by omega
                    subst heq_i
                    refine x_ws [(yo, OB 5 [.int (nI 0), .int ri, .ref yt, .ref ys, .ref yf, .ref yc, .int (nI co), .int (nI dn), .ref yd]), (ys, AI cI 2 (sz2 0 0)), (yt, AI cI 10 (flF ti 0 10)), (yf, AR cA 2 (gr2 g0 g1)), (g0, AI cI 40 bw), (g1, AI cI 40 bp), (yc, AR cA 2 (gr2 k0 k1)), (k0, AI cI 40 cw), (k1, AI cI 40 cp), (yd, AJ cJ 40 fr), (q_2, AJ cJ dn (cpR fr dn)), (q_3, AJ cJ co (clF (fun _ => 0) fr dn co)), (ra_9, AI cI (co + 1) (nuF (clF (fun _ => 0) fr dn co) co)), (ra_12, AI cI (dn + 1) (nuF (cpR fr dn) dn))] (by rfl) ?_
                    refine x_iconst C (nI 0) dX5_fit_148 (by decide +kernel) ?_
                    refine x_istore C [(5, .int (nI 0)), (0, .ref yo), (1, .ref q_2), (2, .ref q_3), (3, .ref ra_9), (4, .ref ra_12)] dX5_fit_149 (by decide) rfl ?_
                    have LA_18 : ∀ (fuel : Nat) (i : Nat), (i ≤ co) → co - i < fuel → X_ p l e rm_m_fit s m args below meth c Q D A H0 7 4 (((dn + co) + 41) + 41) [(yo, OB 5 [.int (nI 0), .int ri, .ref yt, .ref ys, .ref yf, .ref yc, .int (nI co), .int (nI dn), .ref yd]), (ys, AI cI 2 (sz2 i 0)), (yt, AI cI 10 (flF ti 0 10)), (yf, AR cA 2 (gr2 g0 g1)), (g0, AI cI 40 (thF (cpN (fun _ => 0) (clF (fun _ => 0) fr dn co) co) bw i)), (g1, AI cI 40 bp), (yc, AR cA 2 (gr2 k0 k1)), (k0, AI cI 40 (thF (fun _ => nI 0) cw i)), (k1, AI cI 40 cp), (yd, AJ cJ 40 fr), (q_2, AJ cJ dn (cpR fr dn)), (q_3, AJ cJ co (clF (fun _ => 0) fr dn co)), (ra_9, AI cI (co + 1) (nuF (clF (fun _ => 0) fr dn co) co)), (ra_12, AI cI (dn + 1) (nuF (cpR fr dn) dn))] [(0, .ref yo), (1, .ref q_2), (2, .ref q_3), (3, .ref ra_9), (4, .ref ra_12), (5, .int (nI i))] 151 [] := by
                      intro fuel
                      induction fuel with
                      | zero =>
                        intros
                        exact absurd (by assumption) (Nat.not_lt_zero _)
                      | succ fuel ih_LA_18 =>
                        intro i hi hm_19
                        refine x_iload C dX5_fit_151 5 rfl ?_
                        refine x_aload_n C dX5_fit_153 rfl 0 rfl ?_
                        refine x_get C hK in_X5_fit_X5 0 rfl rfl 6 (by decide) (by decide +kernel) rfl rfl dX5_fit_154 ?_
                        refine xn_icmp_ge C 177 (by omega) (by omega) dX5_fit_157 (by decide) (fun h_20 => ?_) (fun h_20 => ?_)
                        ·
                          have heq_i : co = i := by omega
                          subst heq_i
                          refine x_iconst C (nI 0) dX5_fit_177 (by decide +kernel) ?_
                          refine x_istore C [(5, .int (nI 0)), (0, .ref yo), (1, .ref q_2), (2, .ref q_3), (3, .ref ra_9), (4, .ref ra_12)] dX5_fit_178 (by decide) rfl ?_
                          have LR_21 : ∀ (fuel : Nat) (j9 : Nat), (j9 ≤ dn) → dn - j9 < fuel → X_ p l e rm_m_fit s m args below meth c Q D A H0 7 4 (((dn + co) + 41) + 41) [(yo, OB 5 [.int (nI 0), .int ri, .ref yt, .ref ys, .ref yf, .ref yc, .int (nI co), .int (nI dn), .ref yd]), (ys, AI cI 2 (sz2 co j9)), (yt, AI cI 10 (tiF ri fr (cpN (fun _ => 0) (clF (fun _ => 0) fr dn co) co) co (flF ti 0 10) j9)), (yf, AR cA 2 (gr2 g0 g1)), (g0, AI cI 40 (thF (cpN (fun _ => 0) (clF (fun _ => 0) fr dn co) co) bw co)), (g1, AI cI 40 (thF (fun y0 => (nI 1) <<< ((cpN (fun _ => 0) fr dn) y0 &&& 31)) bp j9)), (yc, AR cA 2 (gr2 k0 k1)), (k0, AI cI 40 (thF (fun _ => nI 0) cw co)), (k1, AI cI 40 (thF (fun _ => nI 1) cp j9)), (yd, AJ cJ 40 fr), (q_2, AJ cJ dn (cpR fr dn)), (q_3, AJ cJ co (clF (fun _ => 0) fr dn co)), (ra_9, AI cI (co + 1) (nuF (clF (fun _ => 0) fr dn co) co)), (ra_12, AI cI (dn + 1) (nuF (cpR fr dn) dn))] [(0, .ref yo), (1, .ref q_2), (2, .ref q_3), (3, .ref ra_9), (4, .ref ra_12), (5, .int (nI j9))] 180 [] := by
                            intro fuel
                            induction fuel with
                            | zero =>
                              intros
                              exact absurd (by assumption) (Nat.not_lt_zero _)
                            | succ fuel ih_LR_21 =>
                              intro j9 hj hm_22
                              refine x_iload C dX5_fit_180 5 rfl ?_
                              refine x_aload_n C dX5_fit_182 rfl 0 rfl ?_
                              refine x_get C hK in_X5_fit_X5 0 rfl rfl 7 (by decide) (by decide +kernel) rfl rfl dX5_fit_183 ?_
                              refine xn_icmp_ge C 262 (by omega) (by omega) dX5_fit_186 (by decide) (fun h_23 => ?_) (fun h_23 => ?_)
                              ·
                                have heq_j9 : dn = j9 := by omega
                                subst heq_j9
                                refine x_aload_n C dX5_fit_262 rfl 3 rfl ?_
                                refine x_aload_n C dX5_fit_263 rfl 0 rfl ?_
                                refine x_get C hK in_X5_fit_X5 0 rfl rfl 6 (by decide) (by decide +kernel) rfl rfl dX5_fit_264 ?_
                                refine x_iald C hK 12 0 rfl hI (by omega) (by omega) dX5_fit_267 ?_
                                refine x_topi (nI (tkn (clF (fun _ => 0) fr dn co) co)) (by exact nuF_n _ _) ?_
                                refine x_iret C hK hlk hrt hQ hH0 hAA () ?_ [0, 1, 2, 3, 4, 5, 6, 7, 8, 9] (by decide) rfl (by first | decide | omega) (by first | decide | omega) dX5_fit_268
                                first | rfl | (exact ⟨rfl, rfl⟩) | trivial | assumption | omega
                              ·
                                have hnb := nmb_lt (t := fr) (n := dn) (i := j9) (by omega)
                                refine x_aload_n C dX5_fit_189 rfl 0 rfl ?_
                                refine x_iconst C (nI 1) dX5_fit_190 (by decide +kernel) ?_
                                refine x_iconst C (nI 1) dX5_fit_191 (by decide +kernel) ?_
                                refine x_aload C dX5_fit_192 4 rfl ?_
                                refine x_iload C dX5_fit_194 5 rfl ?_
                                refine x_iald C hK 13 0 rfl hI (by omega) (by omega) dX5_fit_196 ?_
                                refine x_topi ((cpN (fun _ => 0) fr dn) j9) (by rw [nuF_at (by omega), cpN_at _ _ (by omega)]; exact congrArg nI (nmb_cong (n := dn) (fun j hj => if_pos hj) (by omega))) ?_
                                refine x_ishl C _ dX5_fit_197 rfl ?_
                                refine x_iconst C (nI 1) dX5_fit_198 (by decide +kernel) ?_
                                refine x_calli (x_runV C hK hNW (c_m_add1 l D tys cI cJ cA hI hJ hR yo (nI 0) ri yt ys yf yc co dn yd co j9 g0 g1 (thF (cpN (fun _ => 0) (clF (fun _ => 0) fr dn co) co) bw co) (thF (fun y0 => (nI 1) <<< ((cpN (fun _ => 0) fr dn) y0 &&& 31)) bp j9) k0 k1 (thF (fun _ => nI 0) cw co) (thF (fun _ => nI 1) cp j9) ((nI 1) <<< (((cpN (fun _ => 0) fr dn) j9) &&& 31)) (nI 1) (by first | omega | assumption)) (cwV 3 C.2.2.2.2 gX5_fit_X5_add rfl rfl rfl (by decide +kernel) ⟨by decide, by decide⟩) [0, 1, 3, 4, 5, 6, 7, 8] rfl (by decide) 0 5 rfl rfl rfl (st := []) rfl rfl (Nat.le_of_ble_eq_true rfl) dX5_fit_199 ⟨by first | decide | omega | exact (show _ ≤ 4 by omega), by first | decide | omega | exact (show _ ≤ 162 by omega)⟩) hA [0, 1, 3, 4, 5, 6, 7, 8] rfl [2, 9, 10, 11, 12, 13] [(yt, AI cI 10 (tiF ri fr (cpN (fun _ => 0) (clF (fun _ => 0) fr dn co) co) co (flF ti 0 10) j9)), (yd, AJ cJ 40 fr), (q_2, AJ cJ dn (cpR fr dn)), (q_3, AJ cJ co (clF (fun _ => 0) fr dn co)), (ra_9, AI cI (co + 1) (nuF (clF (fun _ => 0) fr dn co) co)), (ra_12, AI cI (dn + 1) (nuF (cpR fr dn) dn))] rfl (by decide) (by decide) [6, 7, 0, 8, 9, 10, 11, 12, 13, 1, 2, 3, 4, 5] (by decide) (wf := (fun (u : Unit) => [(yo, OB 5 [.int (nI 0), .int ri, .ref yt, .ref ys, .ref yf, .ref yc, .int (nI co), .int (nI dn), .ref yd]), (ys, AI cI 2 (sz2 co (j9 + 1))), (yt, AI cI 10 (tiF ri fr (cpN (fun _ => 0) (clF (fun _ => 0) fr dn co) co) co (flF ti 0 10) j9)), (yf, AR cA 2 (gr2 g0 g1)), (g0, AI cI 40 (thF (cpN (fun _ => 0) (clF (fun _ => 0) fr dn co) co) bw co)), (g1, AI cI 40 (upd (thF (fun y0 => (nI 1) <<< ((cpN (fun _ => 0) fr dn) y0 &&& 31)) bp j9) j9 ((nI 1) <<< (((cpN (fun _ => 0) fr dn) j9) &&& 31)))), (yc, AR cA 2 (gr2 k0 k1)), (k0, AI cI 40 (thF (fun _ => nI 0) cw co)), (k1, AI cI 40 (upd (thF (fun _ => nI 1) cp j9) j9 (nI 1))), (yd, AJ cJ 40 fr), (q_2, AJ cJ dn (cpR fr dn)), (q_3, AJ cJ co (clF (fun _ => 0) fr dn co)), (ra_9, AI cI (co + 1) (nuF (clF (fun _ => 0) fr dn co) co)), (ra_12, AI cI (dn + 1) (nuF (cpR fr dn) dn))])) (fun _ => rfl) (fun r_24 u h_25 => ?_)
                                refine x_widen 4 (((dn + co) + 41) + 41) (by first | decide | omega) (by first | decide | omega) ?_
                                subst h_25
                                refine x_pop C dX5_fit_202 rfl ?_
                                refine x_iconst C (nI 0) dX5_fit_203 (by decide +kernel) ?_
                                refine x_istore C [(6, .int (nI 0)), (0, .ref yo), (1, .ref q_2), (2, .ref q_3), (3, .ref ra_9), (4, .ref ra_12), (5, .int (nI j9))] dX5_fit_204 (by decide) rfl ?_
                                have LC_26 : ∀ (fuel : Nat) (c9 : Nat), (c9 ≤ co) → co - c9 < fuel → X_ p l e rm_m_fit s m args below meth c Q D A H0 7 4 (((dn + co) + 41) + 41) [(yo, OB 5 [.int (nI 0), .int ri, .ref yt, .ref ys, .ref yf, .ref yc, .int (nI co), .int (nI dn), .ref yd]), (ys, AI cI 2 (sz2 co (j9 + 1))), (yt, AI cI 10 (upd (tiF ri fr (cpN (fun _ => 0) (clF (fun _ => 0) fr dn co) co) co (flF ti 0 10) j9) (nmb fr j9) (tiF ri fr (cpN (fun _ => 0) (clF (fun _ => 0) fr dn co) co) co (flF ti 0 10) j9 (nmb fr j9) ||| shF ri (fr j9) (cpN (fun _ => 0) (clF (fun _ => 0) fr dn co) co) c9))), (yf, AR cA 2 (gr2 g0 g1)), (g0, AI cI 40 (thF (cpN (fun _ => 0) (clF (fun _ => 0) fr dn co) co) bw co)), (g1, AI cI 40 (upd (thF (fun y0 => (nI 1) <<< ((cpN (fun _ => 0) fr dn) y0 &&& 31)) bp j9) j9 ((nI 1) <<< (((cpN (fun _ => 0) fr dn) j9) &&& 31)))), (yc, AR cA 2 (gr2 k0 k1)), (k0, AI cI 40 (thF (fun _ => nI 0) cw co)), (k1, AI cI 40 (upd (thF (fun _ => nI 1) cp j9) j9 (nI 1))), (yd, AJ cJ 40 fr), (q_2, AJ cJ dn (cpR fr dn)), (q_3, AJ cJ co (clF (fun _ => 0) fr dn co)), (ra_9, AI cI (co + 1) (nuF (clF (fun _ => 0) fr dn co) co)), (ra_12, AI cI (dn + 1) (nuF (cpR fr dn) dn))] [(0, .ref yo), (1, .ref q_2), (2, .ref q_3), (3, .ref ra_9), (4, .ref ra_12), (5, .int (nI j9)), (6, .int (nI c9))] 206 [] := by
                                  intro fuel
                                  induction fuel with
                                  | zero =>
                                    intros
                                    exact absurd (by assumption) (Nat.not_lt_zero _)
                                  | succ fuel ih_LC_26 =>
                                    intro c9 hc hm_27
                                    refine x_iload C dX5_fit_206 6 rfl ?_
                                    refine x_aload_n C dX5_fit_208 rfl 0 rfl ?_
                                    refine x_get C hK in_X5_fit_X5 0 rfl rfl 6 (by decide) (by decide +kernel) rfl rfl dX5_fit_209 ?_
                                    refine xn_icmp_ge C 256 (by omega) (by omega) dX5_fit_212 (by decide) (fun h_28 => ?_) (fun h_28 => ?_)
                                    ·
                                      have heq_c9 : co = c9 := by omega
                                      subst heq_c9
                                      refine xn_iinc C (j9 + 1) [(5, .int (nI (j9 + 1))), (0, .ref yo), (1, .ref q_2), (2, .ref q_3), (3, .ref ra_9), (4, .ref ra_12), (6, .int (nI co))] dX5_fit_256 5 rfl (by rw [show Int32.ofInt 1 = nI 1 from by decide +kernel]; exact nI_add _ _) (by decide) rfl ?_
                                      refine x_goto C 180 dX5_fit_259 (by decide) ?_
                                      refine x_lv [(0, .ref yo), (1, .ref q_2), (2, .ref q_3), (3, .ref ra_9), (4, .ref ra_12), (5, .int (nI (j9 + 1)))] [1, 2, 3, 4, 5, 0] rfl ?_
                                      refine x_ws [(yo, OB 5 [.int (nI 0), .int ri, .ref yt, .ref ys, .ref yf, .ref yc, .int (nI co), .int (nI dn), .ref yd]), (ys, AI cI 2 (sz2 co (j9 + 1))), (yt, AI cI 10 (tiF ri fr (cpN (fun _ => 0) (clF (fun _ => 0) fr dn co) co) co (flF ti 0 10) (j9 + 1))), (yf, AR cA 2 (gr2 g0 g1)), (g0, AI cI 40 (thF (cpN (fun _ => 0) (clF (fun _ => 0) fr dn co) co) bw co)), (g1, AI cI 40 (thF (fun y0 => (nI 1) <<< ((cpN (fun _ => 0) fr dn) y0 &&& 31)) bp (j9 + 1))), (yc, AR cA 2 (gr2 k0 k1)), (k0, AI cI 40 (thF (fun _ => nI 0) cw co)), (k1, AI cI 40 (thF (fun _ => nI 1) cp (j9 + 1))), (yd, AJ cJ 40 fr), (q_2, AJ cJ dn (cpR fr dn)), (q_3, AJ cJ co (clF (fun _ => 0) fr dn co)), (ra_9, AI cI (co + 1) (nuF (clF (fun _ => 0) fr dn co) co)), (ra_12, AI cI (dn + 1) (nuF (cpR fr dn) dn))] (by rw [tiF_or (flz (by omega)), thF_s, thF_s]; try rfl) ?_
                                      exact ih_LR_21 (j9 + 1) (by first | assumption | omega) (by omega)
                                    ·
                                      refine x_aload_n C dX5_fit_215 rfl 1 rfl ?_
                                      refine x_iload C dX5_fit_216 5 rfl ?_
                                      refine x_lald C hK 10 1 rfl hJ (by omega) (by omega) dX5_fit_218 ?_
                                      refine x_topl (fr j9) (by exact if_pos (by omega)) ?_
                                      refine x_iload C dX5_fit_219 6 rfl ?_
                                      refine x_calli (x_runS C hK hNW (c_m_has l D tys cI cJ cA hI hJ hR (fr j9) (nI c9) ) (va_cwS 2 C.2.2.2.2 gX5_fit_X5_has rfl rfl rfl (by decide +kernel) ⟨by decide, by decide⟩) [] rfl (by decide) (st := []) rfl rfl (Nat.le_of_ble_eq_true rfl) dX5_fit_221 ⟨by first | decide | omega | exact (show _ ≤ 4 by omega), by first | decide | omega | exact (show _ ≤ 162 by omega)⟩) hA [] rfl [0, 1, 2, 3, 4, 5, 6, 7, 8, 9, 10, 11, 12, 13] [(yo, OB 5 [.int (nI 0), .int ri, .ref yt, .ref ys, .ref yf, .ref yc, .int (nI co), .int (nI dn), .ref yd]), (ys, AI cI 2 (sz2 co (j9 + 1))), (yt, AI cI 10 (upd (tiF ri fr (cpN (fun _ => 0) (clF (fun _ => 0) fr dn co) co) co (flF ti 0 10) j9) (nmb fr j9) (tiF ri fr (cpN (fun _ => 0) (clF (fun _ => 0) fr dn co) co) co (flF ti 0 10) j9 (nmb fr j9) ||| shF ri (fr j9) (cpN (fun _ => 0) (clF (fun _ => 0) fr dn co) co) c9))), (yf, AR cA 2 (gr2 g0 g1)), (g0, AI cI 40 (thF (cpN (fun _ => 0) (clF (fun _ => 0) fr dn co) co) bw co)), (g1, AI cI 40 (upd (thF (fun y0 => (nI 1) <<< ((cpN (fun _ => 0) fr dn) y0 &&& 31)) bp j9) j9 ((nI 1) <<< (((cpN (fun _ => 0) fr dn) j9) &&& 31)))), (yc, AR cA 2 (gr2 k0 k1)), (k0, AI cI 40 (thF (fun _ => nI 0) cw co)), (k1, AI cI 40 (upd (thF (fun _ => nI 1) cp j9) j9 (nI 1))), (yd, AJ cJ 40 fr), (q_2, AJ cJ dn (cpR fr dn)), (q_3, AJ cJ co (clF (fun _ => 0) fr dn co)), (ra_9, AI cI (co + 1) (nuF (clF (fun _ => 0) fr dn co) co)), (ra_12, AI cI (dn + 1) (nuF (cpR fr dn) dn))] rfl (by decide) (by decide) [0, 1, 2, 3, 4, 5, 6, 7, 8, 9, 10, 11, 12, 13] (by decide) (wf := (fun (u : Unit) => [(yo, OB 5 [.int (nI 0), .int ri, .ref yt, .ref ys, .ref yf, .ref yc, .int (nI co), .int (nI dn), .ref yd]), (ys, AI cI 2 (sz2 co (j9 + 1))), (yt, AI cI 10 (upd (tiF ri fr (cpN (fun _ => 0) (clF (fun _ => 0) fr dn co) co) co (flF ti 0 10) j9) (nmb fr j9) (tiF ri fr (cpN (fun _ => 0) (clF (fun _ => 0) fr dn co) co) co (flF ti 0 10) j9 (nmb fr j9) ||| shF ri (fr j9) (cpN (fun _ => 0) (clF (fun _ => 0) fr dn co) co) c9))), (yf, AR cA 2 (gr2 g0 g1)), (g0, AI cI 40 (thF (cpN (fun _ => 0) (clF (fun _ => 0) fr dn co) co) bw co)), (g1, AI cI 40 (upd (thF (fun y0 => (nI 1) <<< ((cpN (fun _ => 0) fr dn) y0 &&& 31)) bp j9) j9 ((nI 1) <<< (((cpN (fun _ => 0) fr dn) j9) &&& 31)))), (yc, AR cA 2 (gr2 k0 k1)), (k0, AI cI 40 (thF (fun _ => nI 0) cw co)), (k1, AI cI 40 (upd (thF (fun _ => nI 1) cp j9) j9 (nI 1))), (yd, AJ cJ 40 fr), (q_2, AJ cJ dn (cpR fr dn)), (q_3, AJ cJ co (clF (fun _ => 0) fr dn co)), (ra_9, AI cI (co + 1) (nuF (clF (fun _ => 0) fr dn co) co)), (ra_12, AI cI (dn + 1) (nuF (cpR fr dn) dn))])) (fun _ => rfl) (fun r_29 u h_30 => ?_)
                                      refine x_widen 4 (((dn + co) + 41) + 41) (by first | decide | omega) (by first | decide | omega) ?_
                                      subst h_30
                                      refine x_aload_n C dX5_fit_224 rfl 0 rfl ?_
                                      refine x_get C hK in_X5_fit_X5 0 rfl rfl 1 (by decide) (by decide +kernel) rfl rfl dX5_fit_225 ?_
                                      refine x_icmp_ne C 250 dX5_fit_228 (by decide) (fun h_31 => ?_) (fun h_31 => ?_)
                                      ·
                                        refine xn_iinc C (c9 + 1) [(6, .int (nI (c9 + 1))), (0, .ref yo), (1, .ref q_2), (2, .ref q_3), (3, .ref ra_9), (4, .ref ra_12), (5, .int (nI j9))] dX5_fit_250 6 rfl (by rw [show Int32.ofInt 1 = nI 1 from by decide +kernel]; exact nI_add _ _) (by decide) rfl ?_
                                        refine x_goto C 206 dX5_fit_253 (by decide) ?_
                                        refine x_lv [(0, .ref yo), (1, .ref q_2), (2, .ref q_3), (3, .ref ra_9), (4, .ref ra_12), (5, .int (nI j9)), (6, .int (nI (c9 + 1)))] [1, 2, 3, 4, 5, 6, 0] rfl ?_
                                        refine x_ws [(yo, OB 5 [.int (nI 0), .int ri, .ref yt, .ref ys, .ref yf, .ref yc, .int (nI co), .int (nI dn), .ref yd]), (ys, AI cI 2 (sz2 co (j9 + 1))), (yt, AI cI 10 (upd (tiF ri fr (cpN (fun _ => 0) (clF (fun _ => 0) fr dn co) co) co (flF ti 0 10) j9) (nmb fr j9) (tiF ri fr (cpN (fun _ => 0) (clF (fun _ => 0) fr dn co) co) co (flF ti 0 10) j9 (nmb fr j9) ||| shF ri (fr j9) (cpN (fun _ => 0) (clF (fun _ => 0) fr dn co) co) (c9 + 1)))), (yf, AR cA 2 (gr2 g0 g1)), (g0, AI cI 40 (thF (cpN (fun _ => 0) (clF (fun _ => 0) fr dn co) co) bw co)), (g1, AI cI 40 (upd (thF (fun y0 => (nI 1) <<< ((cpN (fun _ => 0) fr dn) y0 &&& 31)) bp j9) j9 ((nI 1) <<< (((cpN (fun _ => 0) fr dn) j9) &&& 31)))), (yc, AR cA 2 (gr2 k0 k1)), (k0, AI cI 40 (thF (fun _ => nI 0) cw co)), (k1, AI cI 40 (upd (thF (fun _ => nI 1) cp j9) j9 (nI 1))), (yd, AJ cJ 40 fr), (q_2, AJ cJ dn (cpR fr dn)), (q_3, AJ cJ co (clF (fun _ => 0) fr dn co)), (ra_9, AI cI (co + 1) (nuF (clF (fun _ => 0) fr dn co) co)), (ra_12, AI cI (dn + 1) (nuF (cpR fr dn) dn))] (by first | (rw [upd_upd, i32_ora, ← shF_y (by assumption)]; try rfl; done) | (rw [shF_n (by assumption)]; try rfl; done)) ?_
                                        exact ih_LC_26 (c9 + 1) (by first | assumption | omega) (by omega)
                                      ·
                                        refine x_aload_n C dX5_fit_231 rfl 0 rfl ?_
                                        refine x_get C hK in_X5_fit_X5 0 rfl rfl 2 (by decide) (by decide +kernel) rfl rfl dX5_fit_232 ?_
                                        refine x_aload C dX5_fit_235 4 rfl ?_
                                        refine x_iload C dX5_fit_237 5 rfl ?_
                                        refine x_iald C hK 13 0 rfl hI (by omega) (by omega) dX5_fit_239 ?_
                                        refine x_topi (nI (nmb fr j9)) (by rw [nuF_at (by omega)]; exact congrArg nI (nmb_cong (n := dn) (fun j hj => if_pos hj) (by omega))) ?_
                                        refine x_dup2 C dX5_fit_240 rfl rfl ?_
                                        refine x_iald C hK 2 0 rfl hI (by omega) (by omega) dX5_fit_241 ?_
                                        refine x_topi (tiF ri fr (cpN (fun _ => 0) (clF (fun _ => 0) fr dn co) co) co (flF ti 0 10) j9 (nmb fr j9) ||| shF ri (fr j9) (cpN (fun _ => 0) (clF (fun _ => 0) fr dn co) co) c9) (by exact pk_us) ?_
                                        refine x_iconst C (nI 1) dX5_fit_242 (by decide +kernel) ?_
                                        refine x_aload_n C dX5_fit_243 rfl 3 rfl ?_
                                        refine x_iload C dX5_fit_244 6 rfl ?_
                                        refine x_iald C hK 12 0 rfl hI (by omega) (by omega) dX5_fit_246 ?_
                                        refine x_topi ((cpN (fun _ => 0) (clF (fun _ => 0) fr dn co) co) c9) (by rw [nuF_at (by omega)]; exact (cpN_at _ _ (by omega)).symm) ?_
                                        refine x_ishl C _ dX5_fit_247 rfl ?_
                                        refine x_ior C _ dX5_fit_248 rfl ?_
                                        refine x_iast C hK 2 0 rfl hI (by omega) (by omega) [(yo, OB 5 [.int (nI 0), .int ri, .ref yt, .ref ys, .ref yf, .ref yc, .int (nI co), .int (nI dn), .ref yd]), (ys, AI cI 2 (sz2 co (j9 + 1))), (yt, AI cI 10 (upd (upd (tiF ri fr (cpN (fun _ => 0) (clF (fun _ => 0) fr dn co) co) co (flF ti 0 10) j9) (nmb fr j9) (tiF ri fr (cpN (fun _ => 0) (clF (fun _ => 0) fr dn co) co) co (flF ti 0 10) j9 (nmb fr j9) ||| shF ri (fr j9) (cpN (fun _ => 0) (clF (fun _ => 0) fr dn co) co) c9)) (nmb fr j9) ((tiF ri fr (cpN (fun _ => 0) (clF (fun _ => 0) fr dn co) co) co (flF ti 0 10) j9 (nmb fr j9) ||| shF ri (fr j9) (cpN (fun _ => 0) (clF (fun _ => 0) fr dn co) co) c9) ||| ((nI 1) <<< (((cpN (fun _ => 0) (clF (fun _ => 0) fr dn co) co) c9) &&& 31))))), (yf, AR cA 2 (gr2 g0 g1)), (g0, AI cI 40 (thF (cpN (fun _ => 0) (clF (fun _ => 0) fr dn co) co) bw co)), (g1, AI cI 40 (upd (thF (fun y0 => (nI 1) <<< ((cpN (fun _ => 0) fr dn) y0 &&& 31)) bp j9) j9 ((nI 1) <<< (((cpN (fun _ => 0) fr dn) j9) &&& 31)))), (yc, AR cA 2 (gr2 k0 k1)), (k0, AI cI 40 (thF (fun _ => nI 0) cw co)), (k1, AI cI 40 (upd (thF (fun _ => nI 1) cp j9) j9 (nI 1))), (yd, AJ cJ 40 fr), (q_2, AJ cJ dn (cpR fr dn)), (q_3, AJ cJ co (clF (fun _ => 0) fr dn co)), (ra_9, AI cI (co + 1) (nuF (clF (fun _ => 0) fr dn co) co)), (ra_12, AI cI (dn + 1) (nuF (cpR fr dn) dn))] rfl dX5_fit_249 ?_
                                        refine xn_iinc C (c9 + 1) [(6, .int (nI (c9 + 1))), (0, .ref yo), (1, .ref q_2), (2, .ref q_3), (3, .ref ra_9), (4, .ref ra_12), (5, .int (nI j9))] dX5_fit_250 6 rfl (by rw [show Int32.ofInt 1 = nI 1 from by decide +kernel]; exact nI_add _ _) (by decide) rfl ?_
                                        refine x_goto C 206 dX5_fit_253 (by decide) ?_
                                        refine x_lv [(0, .ref yo), (1, .ref q_2), (2, .ref q_3), (3, .ref ra_9), (4, .ref ra_12), (5, .int (nI j9)), (6, .int (nI (c9 + 1)))] [1, 2, 3, 4, 5, 6, 0] rfl ?_
                                        refine x_ws [(yo, OB 5 [.int (nI 0), .int ri, .ref yt, .ref ys, .ref yf, .ref yc, .int (nI co), .int (nI dn), .ref yd]), (ys, AI cI 2 (sz2 co (j9 + 1))), (yt, AI cI 10 (upd (tiF ri fr (cpN (fun _ => 0) (clF (fun _ => 0) fr dn co) co) co (flF ti 0 10) j9) (nmb fr j9) (tiF ri fr (cpN (fun _ => 0) (clF (fun _ => 0) fr dn co) co) co (flF ti 0 10) j9 (nmb fr j9) ||| shF ri (fr j9) (cpN (fun _ => 0) (clF (fun _ => 0) fr dn co) co) (c9 + 1)))), (yf, AR cA 2 (gr2 g0 g1)), (g0, AI cI 40 (thF (cpN (fun _ => 0) (clF (fun _ => 0) fr dn co) co) bw co)), (g1, AI cI 40 (upd (thF (fun y0 => (nI 1) <<< ((cpN (fun _ => 0) fr dn) y0 &&& 31)) bp j9) j9 ((nI 1) <<< (((cpN (fun _ => 0) fr dn) j9) &&& 31)))), (yc, AR cA 2 (gr2 k0 k1)), (k0, AI cI 40 (thF (fun _ => nI 0) cw co)), (k1, AI cI 40 (upd (thF (fun _ => nI 1) cp j9) j9 (nI 1))), (yd, AJ cJ 40 fr), (q_2, AJ cJ dn (cpR fr dn)), (q_3, AJ cJ co (clF (fun _ => 0) fr dn co)), (ra_9, AI cI (co + 1) (nuF (clF (fun _ => 0) fr dn co) co)), (ra_12, AI cI (dn + 1) (nuF (cpR fr dn) dn))] (by first | (rw [upd_upd, i32_ora, ← shF_y (by assumption)]; try rfl; done) | (rw [shF_n (by assumption)]; try rfl; done)) ?_
                                        exact ih_LC_26 (c9 + 1) (by first | assumption | omega) (by omega)
                                refine x_lv [(0, .ref yo), (1, .ref q_2), (2, .ref q_3), (3, .ref ra_9), (4, .ref ra_12), (5, .int (nI j9)), (6, .int (nI 0))] [1, 2, 3, 4, 5, 6, 0] rfl ?_
                                refine x_ws [(yo, OB 5 [.int (nI 0), .int ri, .ref yt, .ref ys, .ref yf, .ref yc, .int (nI co), .int (nI dn), .ref yd]), (ys, AI cI 2 (sz2 co (j9 + 1))), (yt, AI cI 10 (upd (tiF ri fr (cpN (fun _ => 0) (clF (fun _ => 0) fr dn co) co) co (flF ti 0 10) j9) (nmb fr j9) (tiF ri fr (cpN (fun _ => 0) (clF (fun _ => 0) fr dn co) co) co (flF ti 0 10) j9 (nmb fr j9) ||| shF ri (fr j9) (cpN (fun _ => 0) (clF (fun _ => 0) fr dn co) co) 0))), (yf, AR cA 2 (gr2 g0 g1)), (g0, AI cI 40 (thF (cpN (fun _ => 0) (clF (fun _ => 0) fr dn co) co) bw co)), (g1, AI cI 40 (upd (thF (fun y0 => (nI 1) <<< ((cpN (fun _ => 0) fr dn) y0 &&& 31)) bp j9) j9 ((nI 1) <<< (((cpN (fun _ => 0) fr dn) j9) &&& 31)))), (yc, AR cA 2 (gr2 k0 k1)), (k0, AI cI 40 (thF (fun _ => nI 0) cw co)), (k1, AI cI 40 (upd (thF (fun _ => nI 1) cp j9) j9 (nI 1))), (yd, AJ cJ 40 fr), (q_2, AJ cJ dn (cpR fr dn)), (q_3, AJ cJ co (clF (fun _ => 0) fr dn co)), (ra_9, AI cI (co + 1) (nuF (clF (fun _ => 0) fr dn co) co)), (ra_12, AI cI (dn + 1) (nuF (cpR fr dn) dn))] (by first | (rw [updT0 (shF_0 _ _ _)]; try rfl)) ?_
                                exact LC_26 (co - 0 + 1) 0 (by first | assumption | omega) (Nat.lt_succ_self _)
                          refine x_lv [(0, .ref yo), (1, .ref q_2), (2, .ref q_3), (3, .ref ra_9), (4, .ref ra_12), (5, .int (nI 0))] [1, 2, 3, 4, 5, 0] rfl ?_
                          refine x_ws [(yo, OB 5 [.int (nI 0), .int ri, .ref yt, .ref ys, .ref yf, .ref yc, .int (nI co), .int (nI dn), .ref yd]), (ys, AI cI 2 (sz2 co 0)), (yt, AI cI 10 (tiF ri fr (cpN (fun _ => 0) (clF (fun _ => 0) fr dn co) co) co (flF ti 0 10) 0)), (yf, AR cA 2 (gr2 g0 g1)), (g0, AI cI 40 (thF (cpN (fun _ => 0) (clF (fun _ => 0) fr dn co) co) bw co)), (g1, AI cI 40 (thF (fun y0 => (nI 1) <<< ((cpN (fun _ => 0) fr dn) y0 &&& 31)) bp 0)), (yc, AR cA 2 (gr2 k0 k1)), (k0, AI cI 40 (thF (fun _ => nI 0) cw co)), (k1, AI cI 40 (thF (fun _ => nI 1) cp 0)), (yd, AJ cJ 40 fr), (q_2, AJ cJ dn (cpR fr dn)), (q_3, AJ cJ co (clF (fun _ => 0) fr dn co)), (ra_9, AI cI (co + 1) (nuF (clF (fun _ => 0) fr dn co) co)), (ra_12, AI cI (dn + 1) (nuF (cpR fr dn) dn))] (by rw [thF_0, thF_0]; try rfl) ?_
                          exact LR_21 (dn - 0 + 1) 0 (by first | assumption | omega) (Nat.lt_succ_self _)
                        ·
                          refine x_aload_n C dX5_fit_160 rfl 0 rfl ?_
                          refine x_iconst C (nI 0) dX5_fit_161 (by decide +kernel) ?_
                          refine x_aload_n C dX5_fit_162 rfl 3 rfl ?_
                          refine x_iload C dX5_fit_163 5 rfl ?_
                          refine x_iald C hK 12 0 rfl hI (by omega) (by omega) dX5_fit_165 ?_
                          refine x_topi ((cpN (fun _ => 0) (clF (fun _ => 0) fr dn co) co) i) (by rw [nuF_at (by omega)]; exact (cpN_at _ _ (by omega)).symm) ?_
                          refine x_iconst C (nI 0) dX5_fit_166 (by decide +kernel) ?_
                          refine x_calli (x_runV C hK hNW (c_m_add0 l D tys cI cJ cA hI hJ hR yo (nI 0) ri yt ys yf yc co dn yd i 0 g0 g1 (thF (cpN (fun _ => 0) (clF (fun _ => 0) fr dn co) co) bw i) bp k0 k1 (thF (fun _ => nI 0) cw i) cp ((cpN (fun _ => 0) (clF (fun _ => 0) fr dn co) co) i) (nI 0) (by first | omega | assumption)) (cwV 3 C.2.2.2.2 gX5_fit_X5_add rfl rfl rfl (by decide +kernel) ⟨by decide, by decide⟩) [0, 1, 3, 4, 5, 6, 7, 8] rfl (by decide) 0 5 rfl rfl rfl (st := []) rfl rfl (Nat.le_of_ble_eq_true rfl) dX5_fit_167 ⟨by first | decide | omega | exact (show _ ≤ 4 by omega), by first | decide | omega | exact (show _ ≤ 162 by omega)⟩) hA [0, 1, 3, 4, 5, 6, 7, 8] rfl [2, 9, 10, 11, 12, 13] [(yt, AI cI 10 (flF ti 0 10)), (yd, AJ cJ 40 fr), (q_2, AJ cJ dn (cpR fr dn)), (q_3, AJ cJ co (clF (fun _ => 0) fr dn co)), (ra_9, AI cI (co + 1) (nuF (clF (fun _ => 0) fr dn co) co)), (ra_12, AI cI (dn + 1) (nuF (cpR fr dn) dn))] rfl (by decide) (by decide) [6, 7, 0, 8, 9, 10, 11, 12, 13, 1, 2, 3, 4, 5] (by decide) (wf := (fun (u : Unit) => [(yo, OB 5 [.int (nI 0), .int ri, .ref yt, .ref ys, .ref yf, .ref yc, .int (nI co), .int (nI dn), .ref yd]), (ys, AI cI 2 (sz2 (i + 1) 0)), (yt, AI cI 10 (flF ti 0 10)), (yf, AR cA 2 (gr2 g0 g1)), (g0, AI cI 40 (upd (thF (cpN (fun _ => 0) (clF (fun _ => 0) fr dn co) co) bw i) i ((cpN (fun _ => 0) (clF (fun _ => 0) fr dn co) co) i))), (g1, AI cI 40 bp), (yc, AR cA 2 (gr2 k0 k1)), (k0, AI cI 40 (upd (thF (fun _ => nI 0) cw i) i (nI 0))), (k1, AI cI 40 cp), (yd, AJ cJ 40 fr), (q_2, AJ cJ dn (cpR fr dn)), (q_3, AJ cJ co (clF (fun _ => 0) fr dn co)), (ra_9, AI cI (co + 1) (nuF (clF (fun _ => 0) fr dn co) co)), (ra_12, AI cI (dn + 1) (nuF (cpR fr dn) dn))])) (fun _ => rfl) (fun r_32 u h_33 => ?_)
                          refine x_widen 4 (((dn + co) + 41) + 41) (by first | decide | omega) (by first | decide | omega) ?_
                          subst h_33
                          refine x_pop C dX5_fit_170 rfl ?_
                          refine xn_iinc C (i + 1) [(5, .int (nI (i + 1))), (0, .ref yo), (1, .ref q_2), (2, .ref q_3), (3, .ref ra_9), (4, .ref ra_12)] dX5_fit_171 5 rfl (by rw [show Int32.ofInt 1 = nI 1 from by decide +kernel]; exact nI_add _ _) (by decide) rfl ?_
                          refine x_goto C 151 dX5_fit_174 (by decide) ?_
                          refine x_lv [(0, .ref yo), (1, .ref q_2), (2, .ref q_3), (3, .ref ra_9), (4, .ref ra_12), (5, .int (nI (i + 1)))] [1, 2, 3, 4, 5, 0] rfl ?_
                          refine x_ws [(yo, OB 5 [.int (nI 0), .int ri, .ref yt, .ref ys, .ref yf, .ref yc, .int (nI co), .int (nI dn), .ref yd]), (ys, AI cI 2 (sz2 (i + 1) 0)), (yt, AI cI 10 (flF ti 0 10)), (yf, AR cA 2 (gr2 g0 g1)), (g0, AI cI 40 (thF (cpN (fun _ => 0) (clF (fun _ => 0) fr dn co) co) bw (i + 1))), (g1, AI cI 40 bp), (yc, AR cA 2 (gr2 k0 k1)), (k0, AI cI 40 (thF (fun _ => nI 0) cw (i + 1))), (k1, AI cI 40 cp), (yd, AJ cJ 40 fr), (q_2, AJ cJ dn (cpR fr dn)), (q_3, AJ cJ co (clF (fun _ => 0) fr dn co)), (ra_9, AI cI (co + 1) (nuF (clF (fun _ => 0) fr dn co) co)), (ra_12, AI cI (dn + 1) (nuF (cpR fr dn) dn))] (by rw [thF_s, thF_s]; try rfl) ?_
                          exact ih_LA_18 (i + 1) (by first | assumption | omega) (by omega)
                    refine x_lv [(0, .ref yo), (1, .ref q_2), (2, .ref q_3), (3, .ref ra_9), (4, .ref ra_12), (5, .int (nI 0))] [1, 2, 3, 4, 5, 0] rfl ?_
                    refine x_ws [(yo, OB 5 [.int (nI 0), .int ri, .ref yt, .ref ys, .ref yf, .ref yc, .int (nI co), .int (nI dn), .ref yd]), (ys, AI cI 2 (sz2 0 0)), (yt, AI cI 10 (flF ti 0 10)), (yf, AR cA 2 (gr2 g0 g1)), (g0, AI cI 40 (thF (cpN (fun _ => 0) (clF (fun _ => 0) fr dn co) co) bw 0)), (g1, AI cI 40 bp), (yc, AR cA 2 (gr2 k0 k1)), (k0, AI cI 40 (thF (fun _ => nI 0) cw 0)), (k1, AI cI 40 cp), (yd, AJ cJ 40 fr), (q_2, AJ cJ dn (cpR fr dn)), (q_3, AJ cJ co (clF (fun _ => 0) fr dn co)), (ra_9, AI cI (co + 1) (nuF (clF (fun _ => 0) fr dn co) co)), (ra_12, AI cI (dn + 1) (nuF (cpR fr dn) dn))] (by rw [thF_0, thF_0]; try rfl) ?_
                    exact LA_18 (co - 0 + 1) 0 (by first | assumption | omega) (Nat.lt_succ_self _)
                  ·
                    refine x_aload_n C dX5_fit_134 rfl 0 rfl ?_
                    refine x_get C hK in_X5_fit_X5 0 rfl rfl 2 (by decide) (by decide +kernel) rfl rfl dX5_fit_135 ?_
                    refine x_iload C dX5_fit_138 5 rfl ?_
                    refine x_iconst C (nI 0) dX5_fit_140 (by decide +kernel) ?_
                    refine x_iast C hK 2 0 rfl hI (by omega) (by omega) [(yo, OB 5 [.int (nI 0), .int ri, .ref yt, .ref ys, .ref yf, .ref yc, .int (nI co), .int (nI dn), .ref yd]), (ys, AI cI 2 (sz2 0 0)), (yt, AI cI 10 (upd (flF ti (nI 0) i) i (nI 0))), (yf, AR cA 2 (gr2 g0 g1)), (g0, AI cI 40 bw), (g1, AI cI 40 bp), (yc, AR cA 2 (gr2 k0 k1)), (k0, AI cI 40 cw), (k1, AI cI 40 cp), (yd, AJ cJ 40 fr), (q_2, AJ cJ dn (cpR fr dn)), (q_3, AJ cJ co (clF (fun _ => 0) fr dn co)), (ra_9, AI cI (co + 1) (nuF (clF (fun _ => 0) fr dn co) co)), (ra_12, AI cI (dn + 1) (nuF (cpR fr dn) dn))] rfl dX5_fit_141 ?_
                    refine xn_iinc C (i + 1) [(5, .int (nI (i + 1))), (0, .ref yo), (1, .ref q_2), (2, .ref q_3), (3, .ref ra_9), (4, .ref ra_12)] dX5_fit_142 5 rfl (by rw [show Int32.ofInt 1 = nI 1 from by decide +kernel]; exact nI_add _ _) (by decide) rfl ?_
                    refine x_goto C 127 dX5_fit_145 (by decide) ?_
                    refine x_lv [(0, .ref yo), (1, .ref q_2), (2, .ref q_3), (3, .ref ra_9), (4, .ref ra_12), (5, .int (nI (i + 1)))] [1, 2, 3, 4, 5, 0] rfl ?_
                    refine x_ws [(yo, OB 5 [.int (nI 0), .int ri, .ref yt, .ref ys, .ref yf, .ref yc, .int (nI co), .int (nI dn), .ref yd]), (ys, AI cI 2 (sz2 0 0)), (yt, AI cI 10 (flF ti (nI 0) (i + 1))), (yf, AR cA 2 (gr2 g0 g1)), (g0, AI cI 40 bw), (g1, AI cI 40 bp), (yc, AR cA 2 (gr2 k0 k1)), (k0, AI cI 40 cw), (k1, AI cI 40 cp), (yd, AJ cJ 40 fr), (q_2, AJ cJ dn (cpR fr dn)), (q_3, AJ cJ co (clF (fun _ => 0) fr dn co)), (ra_9, AI cI (co + 1) (nuF (clF (fun _ => 0) fr dn co) co)), (ra_12, AI cI (dn + 1) (nuF (cpR fr dn) dn))] (by rw [flF_s]; try rfl) ?_
                    exact ih_LT_15 (i + 1) (by first | assumption | omega) (by omega)
              refine x_lv [(0, .ref yo), (1, .ref q_2), (2, .ref q_3), (3, .ref ra_9), (4, .ref ra_12), (5, .int (nI 0))] [3, 4, 5, 2, 1, 0] rfl ?_
              refine x_ws [(yo, OB 5 [.int (nI 0), .int ri, .ref yt, .ref ys, .ref yf, .ref yc, .int (nI co), .int (nI dn), .ref yd]), (ys, AI cI 2 (sz2 0 0)), (yt, AI cI 10 (flF ti (nI 0) 0)), (yf, AR cA 2 (gr2 g0 g1)), (g0, AI cI 40 bw), (g1, AI cI 40 bp), (yc, AR cA 2 (gr2 k0 k1)), (k0, AI cI 40 cw), (k1, AI cI 40 cp), (yd, AJ cJ 40 fr), (q_2, AJ cJ dn (cpR fr dn)), (q_3, AJ cJ co (clF (fun _ => 0) fr dn co)), (ra_9, AI cI (co + 1) (nuF (clF (fun _ => 0) fr dn co) co)), (ra_12, AI cI (dn + 1) (nuF (cpR fr dn) dn))] (by rw [flF_0]; try rfl) ?_
              exact LT_15 (10 - 0 + 1) 0 (by first | assumption | omega) (Nat.lt_succ_self _)
            ·
              exact False.elim (by omega)
        ·
          refine x_aload_n C dX5_fit_56 rfl 2 rfl ?_
          refine x_iload_n C dX5_fit_57 rfl 3 rfl ?_
          refine x_aload_n C dX5_fit_58 rfl 0 rfl ?_
          refine x_iload_n C dX5_fit_59 rfl 3 rfl ?_
          refine x_calll (x_runV C hK hNW (c_m_column l D tys cI cJ cA hI hJ hR yo (nI 0) ri yt ys yf yc co dn yd fr i (by first | omega | assumption)) (cwV 1 C.2.2.2.2 gX5_fit_X5_column rfl rfl rfl (by decide +kernel) ⟨by decide, by decide⟩) [0, 9] rfl (by decide) 0 5 rfl rfl rfl (st := [.int (nI i), .ref q_3]) rfl rfl (Nat.le_of_ble_eq_true rfl) dX5_fit_60 ⟨by first | decide | omega | exact (show _ ≤ 4 by omega), by first | decide | omega | exact (show _ ≤ 162 by omega)⟩) hA [0, 9] rfl [1, 2, 3, 4, 5, 6, 7, 8, 10, 11] [(ys, AI cI 2 (sz2 nw np)), (yt, AI cI 10 ti), (yf, AR cA 2 (gr2 g0 g1)), (g0, AI cI 40 bw), (g1, AI cI 40 bp), (yc, AR cA 2 (gr2 k0 k1)), (k0, AI cI 40 cw), (k1, AI cI 40 cp), (q_2, AJ cJ dn (cpR fr dn)), (q_3, AJ cJ co (clF (fun _ => 0) fr dn i))] rfl (by decide) (by decide) [10, 0, 1, 2, 3, 4, 5, 6, 7, 11, 8, 9] (by decide) (wf := (fun (u : Unit) => [(yo, OB 5 [.int (nI 0), .int ri, .ref yt, .ref ys, .ref yf, .ref yc, .int (nI co), .int (nI dn), .ref yd]), (ys, AI cI 2 (sz2 nw np)), (yt, AI cI 10 ti), (yf, AR cA 2 (gr2 g0 g1)), (g0, AI cI 40 bw), (g1, AI cI 40 bp), (yc, AR cA 2 (gr2 k0 k1)), (k0, AI cI 40 cw), (k1, AI cI 40 cp), (yd, AJ cJ 40 fr), (q_2, AJ cJ dn (cpR fr dn)), (q_3, AJ cJ co (clF (fun _ => 0) fr dn i))])) (fun _ => rfl) (fun r_34 u h_35 => ?_)
          refine x_widen 2 (dn + co) (by first | decide | omega) (by first | decide | omega) ?_
          subst h_35
          refine x_last C hK 11 1 rfl hJ (by omega) (by omega) [(yo, OB 5 [.int (nI 0), .int ri, .ref yt, .ref ys, .ref yf, .ref yc, .int (nI co), .int (nI dn), .ref yd]), (ys, AI cI 2 (sz2 nw np)), (yt, AI cI 10 ti), (yf, AR cA 2 (gr2 g0 g1)), (g0, AI cI 40 bw), (g1, AI cI 40 bp), (yc, AR cA 2 (gr2 k0 k1)), (k0, AI cI 40 cw), (k1, AI cI 40 cp), (yd, AJ cJ 40 fr), (q_2, AJ cJ dn (cpR fr dn)), (q_3, AJ cJ co (vp_updL (clF (fun _ => 0) fr dn i) i (mkB (fun k => hbit (fr k) (nI i)) dn)))] rfl dX5_fit_63 ?_
          refine xn_iinc C (i + 1) [(3, .int (nI (i + 1))), (0, .ref yo), (1, .ref q_2), (2, .ref q_3)] dX5_fit_64 3 rfl (by rw [show Int32.ofInt 1 = nI 1 from by decide +kernel]; exact nI_add _ _) (by decide) rfl ?_
          refine x_goto C 48 dX5_fit_67 (by decide) ?_
          refine x_lv [(0, .ref yo), (1, .ref q_2), (2, .ref q_3), (3, .int (nI (i + 1)))] [1, 2, 3, 0] rfl ?_
          refine x_ws [(yo, OB 5 [.int (nI 0), .int ri, .ref yt, .ref ys, .ref yf, .ref yc, .int (nI co), .int (nI dn), .ref yd]), (ys, AI cI 2 (sz2 nw np)), (yt, AI cI 10 ti), (yf, AR cA 2 (gr2 g0 g1)), (g0, AI cI 40 bw), (g1, AI cI 40 bp), (yc, AR cA 2 (gr2 k0 k1)), (k0, AI cI 40 cw), (k1, AI cI 40 cp), (yd, AJ cJ 40 fr), (q_2, AJ cJ dn (cpR fr dn)), (q_3, AJ cJ co (clF (fun _ => 0) fr dn (i + 1)))] (by rw [clF_s]; try rfl) ?_
          exact ih_LS_4 (i + 1) (by first | assumption | omega) (by omega)
    refine x_lv [(0, .ref yo), (1, .ref q_2), (2, .ref q_3), (3, .int (nI 0))] [3, 2, 1, 0] rfl ?_
    refine x_ws [(yo, OB 5 [.int (nI 0), .int ri, .ref yt, .ref ys, .ref yf, .ref yc, .int (nI co), .int (nI dn), .ref yd]), (ys, AI cI 2 (sz2 nw np)), (yt, AI cI 10 ti), (yf, AR cA 2 (gr2 g0 g1)), (g0, AI cI 40 bw), (g1, AI cI 40 bp), (yc, AR cA 2 (gr2 k0 k1)), (k0, AI cI 40 cw), (k1, AI cI 40 cp), (yd, AJ cJ 40 fr), (q_2, AJ cJ dn (cpR fr dn)), (q_3, AJ cJ co (clF (fun _ => 0) fr dn 0))] (by rw [clF_0]; try rfl) ?_
    exact LS_4 (co - 0 + 1) 0 (by first | assumption | omega) (Nat.lt_succ_self _)
  ·
    exact absurd h_1 (by omega)
