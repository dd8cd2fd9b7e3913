/-! Drawing, Leading -/
theorem in_X1_init_X1 : ∀ w ∈ wsX10, w ∈ wsX1_init := by decide +kernel
theorem in_X1_cellsOfColumn_X1 : ∀ w ∈ wsX10, w ∈ wsX1_cellsOfColumn := by decide +kernel
theorem in_X1_numberColumns_X1 : ∀ w ∈ wsX10, w ∈ wsX1_numberColumns := by decide +kernel
theorem in_X1_numberRows_X1 : ∀ w ∈ wsX10, w ∈ wsX1_numberRows := by decide +kernel
theorem in_X1_digestFrom_X1 : ∀ w ∈ wsX10, w ∈ wsX1_digestFrom := by decide +kernel
theorem in_X2_init_X2 : ∀ w ∈ wsX20, w ∈ wsX2_init := by decide +kernel
theorem in_X2_leads_X2 : ∀ w ∈ wsX20, w ∈ wsX2_leads := by decide +kernel
theorem in_X2_isFirstOfGroup_X2 : ∀ w ∈ wsX20, w ∈ wsX2_isFirstOfGroup := by decide +kernel
theorem in_X2_groups_X2 : ∀ w ∈ wsX20, w ∈ wsX2_groups := by decide +kernel
theorem in_X2_begin_X0 : ∀ w ∈ wsX00, w ∈ wsX2_begin := by decide +kernel
theorem in_X2_begin_X2 : ∀ w ∈ wsX20, w ∈ wsX2_begin := by decide +kernel
theorem in_X2_follow_X0 : ∀ w ∈ wsX00, w ∈ wsX2_follow := by decide +kernel
theorem in_X2_follow_X2 : ∀ w ∈ wsX20, w ∈ wsX2_follow := by decide +kernel
abbrev rm_dr_init : Room := { frames := 1, cells := 4, slots := 160, locals := 12 }
set_option maxRecDepth 100000 in
set_option maxHeartbeats 4000000 in
theorem c_dr_init (l : Launch) (D : va_G) (tys : List (ClassId × FieldType)) (cI cJ : ClassId) (hI : tys[0]? = some (cI, .int)) (hJ : tys[1]? = some (cJ, .long)) (h : Nat)  : MV l yX1_init wsX1_init rm_dr_init D tys [.ref h] [(h, OB 1 [.null, .null, .null, .null, .int 0, .int 0])] (Nat × Nat × Nat × Nat) (fun (u : Nat × Nat × Nat × Nat) => True) (fun (u : Nat × Nat × Nat × Nat) => [(h, OB 1 [.ref u.1, .ref u.2.1, .ref u.2.2.1, .ref u.2.2.2, .int 0, .int 0]), (u.1, AJ cJ 40 (fun _ => 0)), (u.2.1, AJ cJ 40 (fun _ => 0)), (u.2.2.1, AI cI 40 (fun _ => 0)), (u.2.2.2, AI cI 40 (fun _ => 0))]) 4 160 := by
  intro sz
  refine x_met (cc := cX1_init) (maxL := 1) (ret := none) (by decide +kernel) rfl (by show _ ≤ _; simp [lg_sl, Value.category]) [(0, .ref h)] rfl ?_
  intro p e s m args below meth c Q A H0 C hK hNW hlk hrt hnm hQ hH0 hAA hA
  refine x_aload_n C dX1_init_0 rfl 0 rfl ?_
  refine x_objInit C (by decide +kernel) (by decide +kernel) (by decide +kernel) dX1_init_1 (by decide) (by decide) ?_
  refine x_aload_n C dX1_init_4 rfl 0 rfl ?_
  refine x_bipush C (nI 40) dX1_init_5 (by decide +kernel) ?_
  refine x_new_long C hK hA (by decide +kernel) 1 hJ (by omega) (by first | decide | omega) (by first | decide | omega) dX1_init_7 (fun q_1 => ?_)
  refine x_putF C hK in_X1_init_X1 tyX1 tyX1_ok nmX1 0 rfl rfl 0 (by decide) (by decide +kernel) rfl rfl hnm rfl (tyX1_ok 0 (by decide)) rfl rfl (Nat.le_of_ble_eq_true rfl) [(h, OB 1 [.ref q_1, .null, .null, .null, .int 0, .int 0]), (q_1, AJ cJ 40 (fun _ => 0))] rfl dX1_init_9 ?_
  refine x_aload_n C dX1_init_12 rfl 0 rfl ?_
  refine x_bipush C (nI 40) dX1_init_13 (by decide +kernel) ?_
  refine x_new_long C hK hA (by decide +kernel) 1 hJ (by omega) (by first | decide | omega) (by first | decide | omega) dX1_init_15 (fun q_2 => ?_)
  refine x_putF C hK in_X1_init_X1 tyX1 tyX1_ok nmX1 0 rfl rfl 1 (by decide) (by decide +kernel) rfl rfl hnm rfl (tyX1_ok 1 (by decide)) rfl rfl (Nat.le_of_ble_eq_true rfl) [(h, OB 1 [.ref q_1, .ref q_2, .null, .null, .int 0, .int 0]), (q_1, AJ cJ 40 (fun _ => 0)), (q_2, AJ cJ 40 (fun _ => 0))] rfl dX1_init_17 ?_
  refine x_aload_n C dX1_init_20 rfl 0 rfl ?_
  refine x_bipush C (nI 40) dX1_init_21 (by decide +kernel) ?_
  refine x_new_int C hK hA (by decide +kernel) 0 hI (by omega) (by first | decide | omega) (by first | decide | omega) dX1_init_23 (fun q_3 => ?_)
  refine x_putF C hK in_X1_init_X1 tyX1 tyX1_ok nmX1 0 rfl rfl 2 (by decide) (by decide +kernel) rfl rfl hnm rfl (tyX1_ok 2 (by decide)) rfl rfl (Nat.le_of_ble_eq_true rfl) [(h, OB 1 [.ref q_1, .ref q_2, .ref q_3, .null, .int 0, .int 0]), (q_1, AJ cJ 40 (fun _ => 0)), (q_2, AJ cJ 40 (fun _ => 0)), (q_3, AI cI 40 (fun _ => 0))] rfl dX1_init_25 ?_
  refine x_aload_n C dX1_init_28 rfl 0 rfl ?_
  refine x_bipush C (nI 40) dX1_init_29 (by decide +kernel) ?_
  refine x_new_int C hK hA (by decide +kernel) 0 hI (by omega) (by first | decide | omega) (by first | decide | omega) dX1_init_31 (fun q_4 => ?_)
  refine x_putF C hK in_X1_init_X1 tyX1 tyX1_ok nmX1 0 rfl rfl 3 (by decide) (by decide +kernel) rfl rfl hnm rfl (tyX1_ok 3 (by decide)) rfl rfl (Nat.le_of_ble_eq_true rfl) [(h, OB 1 [.ref q_1, .ref q_2, .ref q_3, .ref q_4, .int 0, .int 0]), (q_1, AJ cJ 40 (fun _ => 0)), (q_2, AJ cJ 40 (fun _ => 0)), (q_3, AI cI 40 (fun _ => 0)), (q_4, AI cI 40 (fun _ => 0))] rfl dX1_init_33 ?_
  refine x_vret C hK hlk hrt hQ hH0 hAA (q_1, q_2, q_3, q_4) ?_ [0, 1, 2, 3, 4] (by decide) rfl (by first | decide | omega) (by first | decide | omega) dX1_init_36
  trivial
abbrev rm_dr_col : Room := { frames := 1, cells := 0, slots := 0, locals := 22 }
set_option maxRecDepth 100000 in
set_option maxHeartbeats 4000000 in
theorem c_dr_col (l : Launch) (D : va_G) (tys : List (ClassId × FieldType)) (cI cJ : ClassId) (hI : tys[0]? = some (cI, .int)) (hJ : tys[1]? = some (cJ, .long)) (h : Nat) (qr : Nat) (qk : Nat) (qs : Nat) (qt : Nat) (co : Nat) (dn : Nat) (fr : Nat → Int64) (fk : Nat → Int64) (fs : Nat → Int32) (ft : Nat → Int32) (cl : Nat) (hco : co ≤ 40) (hdn : dn ≤ 40) : ML l yX1_cellsOfColumn wsX1_cellsOfColumn rm_dr_col D tys [.ref h, .int (nI cl)] [(h, OB 1 [.ref qr, .ref qk, .ref qs, .ref qt, .int (nI co), .int (nI dn)]), (qr, AJ cJ 40 fr), (qk, AJ cJ 40 fk), (qs, AI cI 40 fs), (qt, AI cI 40 ft)] Unit (fun r (_ : Unit) => r = mkB (fun y0 => hbit (fr y0) (nI cl)) dn) (fun (_ : Unit) => [(h, OB 1 [.ref qr, .ref qk, .ref qs, .ref qt, .int (nI co), .int (nI dn)]), (qr, AJ cJ 40 fr), (qk, AJ cJ 40 fk), (qs, AI cI 40 fs), (qt, AI cI 40 ft)]) 0 0 := by
  intro sz
  refine x_met (cc := cX1_cellsOfColumn) (maxL := 5) (ret := (some .long)) (by decide +kernel) rfl (by show _ ≤ _; simp [lg_sl, Value.category]) [(0, .ref h), (1, .int (nI cl))] rfl ?_
  intro p e s m args below meth c Q A H0 C hK hNW hlk hrt hnm hQ hH0 hAA hA
  refine x_lconst C (0 : Int64) dX1_cellsOfColumn_0 rfl ?_
  refine x_lstore_n C [(2, .long (0 : Int64)), (0, .ref h), (1, .int (nI cl))] dX1_cellsOfColumn_1 rfl (by decide) rfl ?_
  refine x_iconst C (nI 0) dX1_cellsOfColumn_2 (by decide +kernel) ?_
  refine x_istore C [(4, .int (nI 0)), (2, .long (0 : Int64)), (0, .ref h), (1, .int (nI cl))] dX1_cellsOfColumn_3 (by decide) rfl ?_
  have K_1 : ∀ (fuel : Nat) (i : Nat), (i ≤ dn) → dn - i < fuel → X_ p l e rm_dr_col s m args below meth c Q D A H0 5 0 0 [(h, OB 1 [.ref qr, .ref qk, .ref qs, .ref qt, .int (nI co), .int (nI dn)]), (qr, AJ cJ 40 fr), (qk, AJ cJ 40 fk), (qs, AI cI 40 fs), (qt, AI cI 40 ft)] [(0, .ref h), (1, .int (nI cl)), (2, .long (mkB (fun y0 => hbit (fr y0) (nI cl)) i)), (4, .int (nI i))] 5 [] := by
    intro fuel
    induction fuel with
    | zero =>
      intros
      exact absurd (by assumption) (Nat.not_lt_zero _)
    | succ fuel ih_K_1 =>
      intro i hi hm_2
      refine x_iload C dX1_cellsOfColumn_5 3 rfl ?_
      refine x_aload_n C dX1_cellsOfColumn_7 rfl 0 rfl ?_
      refine x_get C hK in_X1_cellsOfColumn_X1 0 rfl rfl 5 (by decide) (by decide +kernel) rfl rfl dX1_cellsOfColumn_8 ?_
      refine xn_icmp_ge C 41 (by omega) (by omega) dX1_cellsOfColumn_11 (by decide) (fun h_3 => ?_) (fun h_3 => ?_)
      ·
        have heq_i : dn = i := by omega
        subst heq_i
        refine x_lload_n C dX1_cellsOfColumn_41 rfl 2 rfl ?_
        refine x_lret C hK hlk hrt hQ hH0 hAA () ?_ [0, 1, 2, 3, 4] (by decide) rfl (by first | decide | omega) (by first | decide | omega) dX1_cellsOfColumn_42
        first | rfl | (exact ⟨rfl, rfl⟩) | trivial | assumption | omega
      ·
        refine x_aload_n C dX1_cellsOfColumn_14 rfl 0 rfl ?_
        refine x_get C hK in_X1_cellsOfColumn_X1 0 rfl rfl 0 (by decide) (by decide +kernel) rfl rfl dX1_cellsOfColumn_15 ?_
        refine x_iload C dX1_cellsOfColumn_18 3 rfl ?_
        refine x_lald C hK 1 1 rfl hJ (by omega) (by omega) dX1_cellsOfColumn_20 ?_
        refine x_iload_n C dX1_cellsOfColumn_21 rfl 1 rfl ?_
        refine x_calli (x_runSN C hK hNW (c_hasBit l D tys cI cJ hI hJ (fr i) (nI cl) ) ⟨va_cnB 2 C.2.2.2.2 gX1_cellsOfColumn_X4_hasBit_n40 rfl rfl rfl (hNW.at 27 rfl) (C.2.2.2.2 (.initialized RX4) (by decide +kernel)) (by decide +kernel) ⟨by decide, by decide⟩, C.2.2.2.2 (.static yX4_hasBit) (by decide +kernel), trivial⟩ [] rfl (by decide) (st := []) rfl rfl (Nat.le_of_ble_eq_true rfl) dX1_cellsOfColumn_22 ⟨by first | decide | omega, by first | decide | omega⟩) hA [] rfl [0, 1, 2, 3, 4] [(h, OB 1 [.ref qr, .ref qk, .ref qs, .ref qt, .int (nI co), .int (nI dn)]), (qr, AJ cJ 40 fr), (qk, AJ cJ 40 fk), (qs, AI cI 40 fs), (qt, AI cI 40 ft)] rfl (by decide) (by decide) [0, 1, 2, 3, 4] (by decide) (wf := (fun (u : Unit) => [(h, OB 1 [.ref qr, .ref qk, .ref qs, .ref qt, .int (nI co), .int (nI dn)]), (qr, AJ cJ 40 fr), (qk, AJ cJ 40 fk), (qs, AI cI 40 fs), (qt, AI cI 40 ft)])) (fun _ => rfl) (fun r_4 u h_5 => ?_)
        subst h_5
        refine x_if_eq C 35 dX1_cellsOfColumn_25 (by decide) (fun h_6 => ?_) (fun h_6 => ?_)
        ·
          refine xn_iinc C (i + 1) [(4, .int (nI (i + 1))), (0, .ref h), (1, .int (nI cl)), (2, .long (mkB (fun y0 => hbit (fr y0) (nI cl)) i))] dX1_cellsOfColumn_35 3 rfl (by rw [show Int32.ofInt 1 = nI 1 from by decide +kernel]; exact nI_add _ _) (by decide) rfl ?_
          refine x_goto C 5 dX1_cellsOfColumn_38 (by decide) ?_
          refine x_lv [(0, .ref h), (1, .int (nI cl)), (2, .long (mkB (fun y0 => hbit (fr y0) (nI cl)) (i + 1))), (4, .int (nI (i + 1)))] [1, 2, 3, 0] (by rw [show mkB (fun y0 => hbit (fr y0) (nI cl)) (i + 1) = mkB (fun y0 => hbit (fr y0) (nI cl)) i from by first | exact mkB_y (bI_ne0 (by assumption)) | exact mkB_n (bI_eq0 (by assumption))]; rfl) ?_
          exact ih_K_1 (i + 1) (by first | assumption | omega) (by omega)
        ·
          refine x_lload_n C dX1_cellsOfColumn_28 rfl 2 rfl ?_
          refine x_lconst C (1 : Int64) dX1_cellsOfColumn_29 rfl ?_
          refine x_iload C dX1_cellsOfColumn_30 3 rfl ?_
          refine x_lshl C _ dX1_cellsOfColumn_32 rfl ?_
          refine x_lor C _ dX1_cellsOfColumn_33 rfl ?_
          refine x_lstore_n C [(2, .long ((mkB (fun y0 => hbit (fr y0) (nI cl)) i) ||| ((1 : Int64) <<< ((nI i).toInt64 &&& 63)))), (0, .ref h), (1, .int (nI cl)), (4, .int (nI i))] dX1_cellsOfColumn_34 rfl (by decide) rfl ?_
          refine xn_iinc C (i + 1) [(4, .int (nI (i + 1))), (2, .long ((mkB (fun y0 => hbit (fr y0) (nI cl)) i) ||| ((1 : Int64) <<< ((nI i).toInt64 &&& 63)))), (0, .ref h), (1, .int (nI cl))] dX1_cellsOfColumn_35 3 rfl (by rw [show Int32.ofInt 1 = nI 1 from by decide +kernel]; exact nI_add _ _) (by decide) rfl ?_
          refine x_goto C 5 dX1_cellsOfColumn_38 (by decide) ?_
          refine x_lv [(0, .ref h), (1, .int (nI cl)), (2, .long (mkB (fun y0 => hbit (fr y0) (nI cl)) (i + 1))), (4, .int (nI (i + 1)))] [2, 3, 1, 0] (by rw [show mkB (fun y0 => hbit (fr y0) (nI cl)) (i + 1) = (mkB (fun y0 => hbit (fr y0) (nI cl)) i) ||| ((1 : Int64) <<< ((nI i).toInt64 &&& 63)) from by first | exact mkB_y (bI_ne0 (by assumption)) | exact mkB_n (bI_eq0 (by assumption))]; rfl) ?_
          exact ih_K_1 (i + 1) (by first | assumption | omega) (by omega)
  refine x_lv [(0, .ref h), (1, .int (nI cl)), (2, .long (mkB (fun y0 => hbit (fr y0) (nI cl)) 0)), (4, .int (nI 0))] [2, 3, 1, 0] (by rw [show mkB (fun y0 => hbit (fr y0) (nI cl)) 0 = (0 : Int64) from by rfl]; rfl) ?_
  exact K_1 (dn - 0 + 1) 0 (by first | assumption | omega) (Nat.lt_succ_self _)
abbrev rm_dr_fl : Room := { frames := 0, cells := 0, slots := 0, locals := 0 }
set_option maxRecDepth 100000 in
set_option maxHeartbeats 4000000 in
theorem c_dr_fl (l : Launch) (D : va_G) (tys : List (ClassId × FieldType)) (cI cJ : ClassId) (hI : tys[0]? = some (cI, .int)) (hJ : tys[1]? = some (cJ, .long)) (q : Nat) (t : Nat → Int64) (pl : Nat) (hp : pl < 40) : MI l yX1_firstLike wsX1_firstLike rm_dr_fl D tys [.ref q, .int (nI pl)] [(q, AJ cJ 40 t)] Unit (fun r (_ : Unit) => r = nI (flk t pl)) (fun (_ : Unit) => [(q, AJ cJ 40 t)]) 0 0 := by
  intro sz
  refine x_met (cc := cX1_firstLike) (maxL := 3) (ret := (some .int)) (by decide +kernel) rfl (by show _ ≤ _; simp [lg_sl, Value.category]) [(0, .ref q), (1, .int (nI pl))] rfl ?_
  intro p e s m args below meth c Q A H0 C hK hNW hlk hrt hnm hQ hH0 hAA hA
  refine x_iconst C (nI 0) dX1_firstLike_0 (by decide +kernel) ?_
  refine x_istore_n C [(2, .int (nI 0)), (0, .ref q), (1, .int (nI pl))] dX1_firstLike_1 rfl (by decide) rfl ?_
  have K_1 : ∀ (fuel : Nat) (i : Nat), (i ≤ pl) → (∀ j, j < i → t j ≠ t pl) → pl - i < fuel → X_ p l e rm_dr_fl s m args below meth c Q D A H0 3 0 0 [(q, AJ cJ 40 t)] [(0, .ref q), (1, .int (nI pl)), (2, .int (nI i))] 2 [] := by
    intro fuel
    induction fuel with
    | zero =>
      intros
      exact absurd (by assumption) (Nat.not_lt_zero _)
    | succ fuel ih_K_1 =>
      intro i hi hx hm_2
      refine x_iload_n C dX1_firstLike_2 rfl 2 rfl ?_
      refine x_iload_n C dX1_firstLike_3 rfl 1 rfl ?_
      refine xn_icmp_ge C 23 (by omega) (by omega) dX1_firstLike_4 (by decide) (fun h_3 => ?_) (fun h_3 => ?_)
      ·
        have hfl : flk t pl = i := flk_eq hi hx (by first | (exact Or.inl (by omega)) | (exact Or.inr ((lg_cmp_eq _ _).mp (by assumption))))
        rw [← hfl]
        refine x_iload_n C dX1_firstLike_23 rfl 2 rfl ?_
        refine x_iret C hK hlk hrt hQ hH0 hAA () ?_ [0] (by decide) rfl (by first | decide | omega) (by first | decide | omega) dX1_firstLike_24
        first | rfl | (exact ⟨rfl, rfl⟩) | trivial | assumption | omega
      ·
        refine x_aload_n C dX1_firstLike_7 rfl 0 rfl ?_
        refine x_iload_n C dX1_firstLike_8 rfl 2 rfl ?_
        refine x_lald C hK 0 1 rfl hJ (by omega) (by omega) dX1_firstLike_9 ?_
        refine x_aload_n C dX1_firstLike_10 rfl 0 rfl ?_
        refine x_iload_n C dX1_firstLike_11 rfl 1 rfl ?_
        refine x_lald C hK 0 1 rfl hJ (by omega) (by omega) dX1_firstLike_12 ?_
        refine x_lcmp C dX1_firstLike_13 ?_
        refine x_if_eq C 23 dX1_firstLike_14 (by decide) (fun h_4 => ?_) (fun h_4 => ?_)
        ·
          have hfl : flk t pl = i := flk_eq hi hx (by first | (exact Or.inl (by omega)) | (exact Or.inr ((lg_cmp_eq _ _).mp (by assumption))))
          rw [← hfl]
          refine x_iload_n C dX1_firstLike_23 rfl 2 rfl ?_
          refine x_iret C hK hlk hrt hQ hH0 hAA () ?_ [0] (by decide) rfl (by first | decide | omega) (by first | decide | omega) dX1_firstLike_24
          first | rfl | (exact ⟨rfl, rfl⟩) | trivial | assumption | omega
        ·
          refine xn_iinc C (i + 1) [(2, .int (nI (i + 1))), (0, .ref q), (1, .int (nI pl))] dX1_firstLike_17 2 rfl (by rw [show Int32.ofInt 1 = nI 1 from by decide +kernel]; exact nI_add _ _) (by decide) rfl ?_
          refine x_goto C 2 dX1_firstLike_20 (by decide) ?_
          refine x_lv [(0, .ref q), (1, .int (nI pl)), (2, .int (nI (i + 1)))] [1, 2, 0] rfl ?_
          exact ih_K_1 (i + 1) (by first | assumption | omega) (by intro j h1; by_cases e : j = i; { subst e; exact fun z => absurd ((lg_cmp_eq _ _).mpr z) (by assumption) }; exact hx j (by omega)) (by omega)
  refine x_lv [(0, .ref q), (1, .int (nI pl)), (2, .int (nI 0))] [1, 2, 0] rfl ?_
  exact K_1 (pl - 0 + 1) 0 (by first | assumption | omega) (by intro j h1; omega) (Nat.lt_succ_self _)
abbrev rm_dr_alike : Room := { frames := 1, cells := 0, slots := 0, locals := 22 }
set_option maxRecDepth 100000 in
set_option maxHeartbeats 4000000 in
theorem c_dr_alike (l : Launch) (D : va_G) (tys : List (ClassId × FieldType)) (cI cJ : ClassId) (hI : tys[0]? = some (cI, .int)) (hJ : tys[1]? = some (cJ, .long)) (q : Nat) (t : Nat → Int64) (cn : Nat) (q2 : Nat) (g : Nat → Int32) (hc : cn ≤ 40) : MI l yX1_numberAlike wsX1_numberAlike rm_dr_alike D tys [.ref q, .int (nI cn), .ref q2] [(q, AJ cJ 40 t), (q2, AI cI 40 g)] Unit (fun r (_ : Unit) => r = nI (tkn t cn)) (fun (_ : Unit) => [(q, AJ cJ 40 t), (q2, AI cI 40 (cpN g t cn))]) 0 0 := by
  intro sz
  refine x_met (cc := cX1_numberAlike) (maxL := 6) (ret := (some .int)) (by decide +kernel) rfl (by show _ ≤ _; simp [lg_sl, Value.category]) [(0, .ref q), (1, .int (nI cn)), (2, .ref q2)] rfl ?_
  intro p e s m args below meth c Q A H0 C hK hNW hlk hrt hnm hQ hH0 hAA hA
  refine x_iconst C (nI 0) dX1_numberAlike_0 (by decide +kernel) ?_
  refine x_istore_n C [(3, .int (nI 0)), (0, .ref q), (1, .int (nI cn)), (2, .ref q2)] dX1_numberAlike_1 rfl (by decide) rfl ?_
  refine x_iconst C (nI 0) dX1_numberAlike_2 (by decide +kernel) ?_
  refine x_istore C [(4, .int (nI 0)), (3, .int (nI 0)), (0, .ref q), (1, .int (nI cn)), (2, .ref q2)] dX1_numberAlike_3 (by decide) rfl ?_
  have K_1 : ∀ (fuel : Nat) (i : Nat), (i ≤ cn) → cn - i < fuel → X_ p l e rm_dr_alike s m args below meth c Q D A H0 6 0 0 [(q, AJ cJ 40 t), (q2, AI cI 40 (cpN g t i))] [(0, .ref q), (1, .int (nI cn)), (2, .ref q2), (3, .int (nI (tkn t i))), (4, .int (nI i))] 5 [] := by
    intro fuel
    induction fuel with
    | zero =>
      intros
      exact absurd (by assumption) (Nat.not_lt_zero _)
    | succ fuel ih_K_1 =>
      intro i hi hm_2
      refine x_iload C dX1_numberAlike_5 4 rfl ?_
      refine x_iload_n C dX1_numberAlike_7 rfl 1 rfl ?_
      refine xn_icmp_ge C 51 (by omega) (by omega) dX1_numberAlike_8 (by decide) (fun h_3 => ?_) (fun h_3 => ?_)
      ·
        have heq_i : cn = i := by omega
        subst heq_i
        refine x_iload_n C dX1_numberAlike_51 rfl 3 rfl ?_
        refine x_iret C hK hlk hrt hQ hH0 hAA () ?_ [0, 1] (by decide) rfl (by first | decide | omega) (by first | decide | omega) dX1_numberAlike_52
        first | rfl | (exact ⟨rfl, rfl⟩) | trivial | assumption | omega
      ·
        refine x_aload_n C dX1_numberAlike_11 rfl 0 rfl ?_
        refine x_iload C dX1_numberAlike_12 4 rfl ?_
        refine x_calli (x_runS C hK hNW (c_dr_fl l D tys cI cJ hI hJ q t i (by first | omega | assumption)) (va_cwS 2 C.2.2.2.2 gX1_numberAlike_X1_firstLike rfl rfl rfl (by decide +kernel) ⟨by decide, by decide⟩) [0] rfl (by decide) (st := []) rfl rfl (Nat.le_of_ble_eq_true rfl) dX1_numberAlike_14 ⟨by first | decide | omega, by first | decide | omega⟩) hA [0] rfl [1] [(q2, AI cI 40 (cpN g t i))] rfl (by decide) (by decide) [1, 0] (by decide) (wf := (fun (u : Unit) => [(q, AJ cJ 40 t), (q2, AI cI 40 (cpN g t i))])) (fun _ => rfl) (fun r_4 u h_5 => ?_)
        subst h_5
        refine x_istore C [(5, .int (nI (flk t i))), (0, .ref q), (1, .int (nI cn)), (2, .ref q2), (3, .int (nI (tkn t i))), (4, .int (nI i))] dX1_numberAlike_17 (by decide) rfl ?_
        have hfl := flk_le t i
        refine x_iload C dX1_numberAlike_19 0 rfl ?_
        refine x_iload C dX1_numberAlike_21 5 rfl ?_
        refine xn_icmp_ge C 37 (by omega) (by omega) dX1_numberAlike_23 (by decide) (fun h_6 => ?_) (fun h_6 => ?_)
        ·
          have htk := tkn_s1 (t := t) (i := i) (by omega)
          refine x_aload_n C dX1_numberAlike_37 rfl 3 rfl ?_
          refine x_iload C dX1_numberAlike_38 5 rfl ?_
          refine x_iload_n C dX1_numberAlike_40 rfl 4 rfl ?_
          refine x_iast C hK 1 0 rfl hI (by omega) (by omega) [(q, AJ cJ 40 t), (q2, AI cI 40 (upd (cpN g t i) i (nI (tkn t i))))] rfl dX1_numberAlike_41 ?_
          refine xn_iinc C ((tkn t i) + 1) [(3, .int (nI ((tkn t i) + 1))), (5, .int (nI (flk t i))), (0, .ref q), (1, .int (nI cn)), (2, .ref q2), (4, .int (nI i))] dX1_numberAlike_42 4 rfl (by rw [show Int32.ofInt 1 = nI 1 from by decide +kernel]; exact nI_add _ _) (by decide) rfl ?_
          refine xn_iinc C (i + 1) [(4, .int (nI (i + 1))), (3, .int (nI ((tkn t i) + 1))), (5, .int (nI (flk t i))), (0, .ref q), (1, .int (nI cn)), (2, .ref q2)] dX1_numberAlike_45 5 rfl (by rw [show Int32.ofInt 1 = nI 1 from by decide +kernel]; exact nI_add _ _) (by decide) rfl ?_
          refine x_goto C 5 dX1_numberAlike_48 (by decide) ?_
          refine x_lv [(0, .ref q), (1, .int (nI cn)), (2, .ref q2), (3, .int (nI (tkn t (i + 1)))), (4, .int (nI (i + 1)))] [3, 4, 5, 1, 0] (by rw [show tkn t (i + 1) = (tkn t i) + 1 from by first | rfl | omega]; rfl) ?_
          refine x_ws [(q, AJ cJ 40 t), (q2, AI cI 40 (cpN g t (i + 1)))] (by first | rw [cpN_s1 (by omega)] | rw [cpN_s2 (by omega)]) ?_
          exact ih_K_1 (i + 1) (by first | assumption | omega) (by omega)
        ·
          have htk := tkn_s2 (t := t) (i := i) (by omega)
          refine x_aload_n C dX1_numberAlike_26 rfl 3 rfl ?_
          refine x_iload C dX1_numberAlike_27 5 rfl ?_
          refine x_aload_n C dX1_numberAlike_29 rfl 3 rfl ?_
          refine x_iload C dX1_numberAlike_30 0 rfl ?_
          refine x_iald C hK 1 0 rfl hI (by omega) (by omega) dX1_numberAlike_32 ?_
          refine x_iast C hK 1 0 rfl hI (by omega) (by omega) [(q, AJ cJ 40 t), (q2, AI cI 40 (upd (cpN g t i) i ((cpN g t i) (flk t i))))] rfl dX1_numberAlike_33 ?_
          refine x_goto C 45 dX1_numberAlike_34 (by decide) ?_
          refine xn_iinc C (i + 1) [(4, .int (nI (i + 1))), (5, .int (nI (flk t i))), (0, .ref q), (1, .int (nI cn)), (2, .ref q2), (3, .int (nI (tkn t i)))] dX1_numberAlike_45 5 rfl (by rw [show Int32.ofInt 1 = nI 1 from by decide +kernel]; exact nI_add _ _) (by decide) rfl ?_
          refine x_goto C 5 dX1_numberAlike_48 (by decide) ?_
          refine x_lv [(0, .ref q), (1, .int (nI cn)), (2, .ref q2), (3, .int (nI (tkn t (i + 1)))), (4, .int (nI (i + 1)))] [2, 3, 4, 5, 0] (by rw [show tkn t (i + 1) = tkn t i from by first | rfl | omega]; rfl) ?_
          refine x_ws [(q, AJ cJ 40 t), (q2, AI cI 40 (cpN g t (i + 1)))] (by first | rw [cpN_s1 (by omega)] | rw [cpN_s2 (by omega)]) ?_
          exact ih_K_1 (i + 1) (by first | assumption | omega) (by omega)
  refine x_lv [(0, .ref q), (1, .int (nI cn)), (2, .ref q2), (3, .int (nI (tkn t 0))), (4, .int (nI 0))] [2, 3, 4, 1, 0] (by rw [show tkn t 0 = 0 from by first | rfl | omega]; rfl) ?_
  refine x_ws [(q, AJ cJ 40 t), (q2, AI cI 40 (cpN g t 0))] (by rw [cpN_0]) ?_
  exact K_1 (cn - 0 + 1) 0 (by first | assumption | omega) (Nat.lt_succ_self _)
abbrev rm_dr_cols : Room := { frames := 2, cells := 0, slots := 0, locals := 47 }
set_option maxRecDepth 100000 in
set_option maxHeartbeats 4000000 in
theorem c_dr_cols (l : Launch) (D : va_G) (tys : List (ClassId × FieldType)) (cI cJ : ClassId) (hI : tys[0]? = some (cI, .int)) (hJ : tys[1]? = some (cJ, .long)) (h : Nat) (qr : Nat) (qk : Nat) (qs : Nat) (qt : Nat) (co : Nat) (dn : Nat) (fr : Nat → Int64) (fk : Nat → Int64) (fs : Nat → Int32) (ft : Nat → Int32) (hco : co ≤ 40) (hdn : dn ≤ 40) : MI l yX1_numberColumns wsX1_numberColumns rm_dr_cols D tys [.ref h] [(h, OB 1 [.ref qr, .ref qk, .ref qs, .ref qt, .int (nI co), .int (nI dn)]), (qr, AJ cJ 40 fr), (qk, AJ cJ 40 fk), (qs, AI cI 40 fs), (qt, AI cI 40 ft)] Unit (fun r (_ : Unit) => r = nI (tkn (clF fk fr dn co) co)) (fun (_ : Unit) => [(h, OB 1 [.ref qr, .ref qk, .ref qs, .ref qt, .int (nI co), .int (nI dn)]), (qr, AJ cJ 40 fr), (qk, AJ cJ 40 (clF fk fr dn co)), (qs, AI cI 40 (cpN fs (clF fk fr dn co) co)), (qt, AI cI 40 ft)]) 0 0 := by
  intro sz
  refine x_met (cc := cX1_numberColumns) (maxL := 2) (ret := (some .int)) (by decide +kernel) rfl (by show _ ≤ _; simp [lg_sl, Value.category]) [(0, .ref h)] rfl ?_
  intro p e s m args below meth c Q A H0 C hK hNW hlk hrt hnm hQ hH0 hAA hA
  refine x_iconst C (nI 0) dX1_numberColumns_0 (by decide +kernel) ?_
  refine x_istore_n C [(1, .int (nI 0)), (0, .ref h)] dX1_numberColumns_1 rfl (by decide) rfl ?_
  have K_1 : ∀ (fuel : Nat) (i : Nat), (i ≤ co) → co - i < fuel → X_ p l e rm_dr_cols s m args below meth c Q D A H0 2 0 0 [(h, OB 1 [.ref qr, .ref qk, .ref qs, .ref qt, .int (nI co), .int (nI dn)]), (qr, AJ cJ 40 fr), (qk, AJ cJ 40 (clF fk fr dn i)), (qs, AI cI 40 fs), (qt, AI cI 40 ft)] [(0, .ref h), (1, .int (nI i))] 2 [] := by
    intro fuel
    induction fuel with
    | zero =>
      intros
      exact absurd (by assumption) (Nat.not_lt_zero _)
    | succ fuel ih_K_1 =>
      intro i hi hm_2
      refine x_iload_n C dX1_numberColumns_2 rfl 1 rfl ?_
      refine x_aload_n C dX1_numberColumns_3 rfl 0 rfl ?_
      refine x_get C hK in_X1_numberColumns_X1 0 rfl rfl 4 (by decide) (by decide +kernel) rfl rfl dX1_numberColumns_4 ?_
      refine xn_icmp_ge C 27 (by omega) (by omega) dX1_numberColumns_7 (by decide) (fun h_3 => ?_) (fun h_3 => ?_)
      ·
        have heq_i : co = i := by omega
        subst heq_i
        refine x_aload_n C dX1_numberColumns_27 rfl 0 rfl ?_
        refine x_get C hK in_X1_numberColumns_X1 0 rfl rfl 1 (by decide) (by decide +kernel) rfl rfl dX1_numberColumns_28 ?_
        refine x_aload_n C dX1_numberColumns_31 rfl 0 rfl ?_
        refine x_get C hK in_X1_numberColumns_X1 0 rfl rfl 4 (by decide) (by decide +kernel) rfl rfl dX1_numberColumns_32 ?_
        refine x_aload_n C dX1_numberColumns_35 rfl 0 rfl ?_
        refine x_get C hK in_X1_numberColumns_X1 0 rfl rfl 2 (by decide) (by decide +kernel) rfl rfl dX1_numberColumns_36 ?_
        refine x_calli (x_runS C hK hNW (c_dr_alike l D tys cI cJ hI hJ qk (clF fk fr dn co) co qs fs (by first | omega | assumption)) (va_cwS 3 C.2.2.2.2 gX1_numberColumns_X1_numberAlike rfl rfl rfl (by decide +kernel) ⟨by decide, by decide⟩) [2, 3] rfl (by decide) (st := []) rfl rfl (Nat.le_of_ble_eq_true rfl) dX1_numberColumns_39 ⟨by first | decide | omega, by first | decide | omega⟩) hA [2, 3] rfl [0, 1, 4] [(h, OB 1 [.ref qr, .ref qk, .ref qs, .ref qt, .int (nI co), .int (nI dn)]), (qr, AJ cJ 40 fr), (qt, AI cI 40 ft)] rfl (by decide) (by decide) [0, 1, 3, 4, 2] (by decide) (wf := (fun (u : Unit) => [(h, OB 1 [.ref qr, .ref qk, .ref qs, .ref qt, .int (nI co), .int (nI dn)]), (qr, AJ cJ 40 fr), (qk, AJ cJ 40 (clF fk fr dn co)), (qs, AI cI 40 (cpN fs (clF fk fr dn co) co)), (qt, AI cI 40 ft)])) (fun _ => rfl) (fun r_4 u h_5 => ?_)
        subst h_5
        refine x_iret C hK hlk hrt hQ hH0 hAA () ?_ [0, 1, 2, 3, 4] (by decide) rfl (by first | decide | omega) (by first | decide | omega) dX1_numberColumns_42
        first | rfl | (exact ⟨rfl, rfl⟩) | trivial | assumption | omega
      ·
        refine x_aload_n C dX1_numberColumns_10 rfl 0 rfl ?_
        refine x_get C hK in_X1_numberColumns_X1 0 rfl rfl 1 (by decide) (by decide +kernel) rfl rfl dX1_numberColumns_11 ?_
        refine x_iload_n C dX1_numberColumns_14 rfl 1 rfl ?_
        refine x_aload_n C dX1_numberColumns_15 rfl 0 rfl ?_
        refine x_iload_n C dX1_numberColumns_16 rfl 1 rfl ?_
        refine x_calll (x_runV C hK hNW (c_dr_col l D tys cI cJ hI hJ h qr qk qs qt co dn fr (clF fk fr dn i) fs ft i (by first | omega | assumption) (by first | omega | assumption)) (cwV 1 C.2.2.2.2 gX1_numberColumns_X1_cellsOfColumn rfl rfl rfl (by decide +kernel) ⟨by decide, by decide⟩) [0, 1, 2, 3, 4] rfl (by decide) 0 1 rfl rfl rfl (st := [.int (nI i), .ref qk]) rfl rfl (Nat.le_of_ble_eq_true rfl) dX1_numberColumns_17 ⟨by first | decide | omega, by first | decide | omega⟩) hA [0, 1, 2, 3, 4] rfl [] [] rfl (by decide) (by decide) [0, 1, 2, 3, 4] (by decide) (wf := (fun (u : Unit) => [(h, OB 1 [.ref qr, .ref qk, .ref qs, .ref qt, .int (nI co), .int (nI dn)]), (qr, AJ cJ 40 fr), (qk, AJ cJ 40 (clF fk fr dn i)), (qs, AI cI 40 fs), (qt, AI cI 40 ft)])) (fun _ => rfl) (fun r_6 u h_7 => ?_)
        subst h_7
        refine x_last C hK 2 1 rfl hJ (by omega) (by omega) [(h, OB 1 [.ref qr, .ref qk, .ref qs, .ref qt, .int (nI co), .int (nI dn)]), (qr, AJ cJ 40 fr), (qk, AJ cJ 40 (vp_updL (clF fk fr dn i) i (mkB (fun y0 => hbit (fr y0) (nI i)) dn))), (qs, AI cI 40 fs), (qt, AI cI 40 ft)] rfl dX1_numberColumns_20 ?_
        refine xn_iinc C (i + 1) [(1, .int (nI (i + 1))), (0, .ref h)] dX1_numberColumns_21 1 rfl (by rw [show Int32.ofInt 1 = nI 1 from by decide +kernel]; exact nI_add _ _) (by decide) rfl ?_
        refine x_goto C 2 dX1_numberColumns_24 (by decide) ?_
        refine x_lv [(0, .ref h), (1, .int (nI (i + 1)))] [1, 0] rfl ?_
        refine x_ws [(h, OB 1 [.ref qr, .ref qk, .ref qs, .ref qt, .int (nI co), .int (nI dn)]), (qr, AJ cJ 40 fr), (qk, AJ cJ 40 (clF fk fr dn (i + 1))), (qs, AI cI 40 fs), (qt, AI cI 40 ft)] (by rw [clF_s]) ?_
        exact ih_K_1 (i + 1) (by first | assumption | omega) (by omega)
  refine x_lv [(0, .ref h), (1, .int (nI 0))] [1, 0] rfl ?_
  refine x_ws [(h, OB 1 [.ref qr, .ref qk, .ref qs, .ref qt, .int (nI co), .int (nI dn)]), (qr, AJ cJ 40 fr), (qk, AJ cJ 40 (clF fk fr dn 0)), (qs, AI cI 40 fs), (qt, AI cI 40 ft)] (by rw [clF_0]) ?_
  exact K_1 (co - 0 + 1) 0 (by first | assumption | omega) (Nat.lt_succ_self _)
abbrev rm_dr_rows : Room := { frames := 2, cells := 0, slots := 0, locals := 47 }
set_option maxRecDepth 100000 in
set_option maxHeartbeats 4000000 in
theorem c_dr_rows (l : Launch) (D : va_G) (tys : List (ClassId × FieldType)) (cI cJ : ClassId) (hI : tys[0]? = some (cI, .int)) (hJ : tys[1]? = some (cJ, .long)) (h : Nat) (qr : Nat) (qk : Nat) (qs : Nat) (qt : Nat) (co : Nat) (dn : Nat) (fr : Nat → Int64) (fk : Nat → Int64) (fs : Nat → Int32) (ft : Nat → Int32) (hco : co ≤ 40) (hdn : dn ≤ 40) : MI l yX1_numberRows wsX1_numberRows rm_dr_rows D tys [.ref h] [(h, OB 1 [.ref qr, .ref qk, .ref qs, .ref qt, .int (nI co), .int (nI dn)]), (qr, AJ cJ 40 fr), (qk, AJ cJ 40 fk), (qs, AI cI 40 fs), (qt, AI cI 40 ft)] Unit (fun r (_ : Unit) => r = nI (tkn fr dn)) (fun (_ : Unit) => [(h, OB 1 [.ref qr, .ref qk, .ref qs, .ref qt, .int (nI co), .int (nI dn)]), (qr, AJ cJ 40 fr), (qk, AJ cJ 40 fk), (qs, AI cI 40 fs), (qt, AI cI 40 (cpN ft fr dn))]) 0 0 := by
  intro sz
  refine x_met (cc := cX1_numberRows) (maxL := 1) (ret := (some .int)) (by decide +kernel) rfl (by show _ ≤ _; simp [lg_sl, Value.category]) [(0, .ref h)] rfl ?_
  intro p e s m args below meth c Q A H0 C hK hNW hlk hrt hnm hQ hH0 hAA hA
  refine x_aload_n C dX1_numberRows_0 rfl 0 rfl ?_
  refine x_get C hK in_X1_numberRows_X1 0 rfl rfl 0 (by decide) (by decide +kernel) rfl rfl dX1_numberRows_1 ?_
  refine x_aload_n C dX1_numberRows_4 rfl 0 rfl ?_
  refine x_get C hK in_X1_numberRows_X1 0 rfl rfl 5 (by decide) (by decide +kernel) rfl rfl dX1_numberRows_5 ?_
  refine x_aload_n C dX1_numberRows_8 rfl 0 rfl ?_
  refine x_get C hK in_X1_numberRows_X1 0 rfl rfl 3 (by decide) (by decide +kernel) rfl rfl dX1_numberRows_9 ?_
  refine x_calli (x_runS C hK hNW (c_dr_alike l D tys cI cJ hI hJ qr fr dn qt ft (by first | omega | assumption)) (va_cwS 3 C.2.2.2.2 gX1_numberRows_X1_numberAlike rfl rfl rfl (by decide +kernel) ⟨by decide, by decide⟩) [1, 4] rfl (by decide) (st := []) rfl rfl (Nat.le_of_ble_eq_true rfl) dX1_numberRows_12 ⟨by first | decide | omega, by first | decide | omega⟩) hA [1, 4] rfl [0, 2, 3] [(h, OB 1 [.ref qr, .ref qk, .ref qs, .ref qt, .int (nI co), .int (nI dn)]), (qk, AJ cJ 40 fk), (qs, AI cI 40 fs)] rfl (by decide) (by decide) [0, 3, 1, 2, 4] (by decide) (wf := (fun (u : Unit) => [(h, OB 1 [.ref qr, .ref qk, .ref qs, .ref qt, .int (nI co), .int (nI dn)]), (qr, AJ cJ 40 fr), (qk, AJ cJ 40 fk), (qs, AI cI 40 fs), (qt, AI cI 40 (cpN ft fr dn))])) (fun _ => rfl) (fun r_1 u h_2 => ?_)
  subst h_2
  refine x_iret C hK hlk hrt hQ hH0 hAA () ?_ [0, 1, 2, 3, 4] (by decide) rfl (by first | decide | omega) (by first | decide | omega) dX1_numberRows_15
  first | rfl | (exact ⟨rfl, rfl⟩) | trivial | assumption | omega
abbrev rm_dr_dig : Room := { frames := 1, cells := 0, slots := 0, locals := 23 }
set_option maxRecDepth 100000 in
set_option maxHeartbeats 4000000 in
theorem c_dr_dig (l : Launch) (D : va_G) (tys : List (ClassId × FieldType)) (cI cJ : ClassId) (hI : tys[0]? = some (cI, .int)) (hJ : tys[1]? = some (cJ, .long)) (h : Nat) (qr : Nat) (qk : Nat) (qs : Nat) (qt : Nat) (co : Nat) (dn : Nat) (fr : Nat → Int64) (fk : Nat → Int64) (fs : Nat → Int32) (ft : Nat → Int32) (d : Int64) (hco : co ≤ 40) (hdn : dn ≤ 40) : ML l yX1_digestFrom wsX1_digestFrom rm_dr_dig D tys [.ref h, .long d] [(h, OB 1 [.ref qr, .ref qk, .ref qs, .ref qt, .int (nI co), .int (nI dn)]), (qr, AJ cJ 40 fr), (qk, AJ cJ 40 fk), (qs, AI cI 40 fs), (qt, AI cI 40 ft)] Unit (fun r (_ : Unit) => r = dgD fr (dgw (dgw d (nI co).toInt64) (nI dn).toInt64) dn) (fun (_ : Unit) => [(h, OB 1 [.ref qr, .ref qk, .ref qs, .ref qt, .int (nI co), .int (nI dn)]), (qr, AJ cJ 40 fr), (qk, AJ cJ 40 fk), (qs, AI cI 40 fs), (qt, AI cI 40 ft)]) 0 0 := by
  intro sz
  refine x_met (cc := cX1_digestFrom) (maxL := 6) (ret := (some .long)) (by decide +kernel) rfl (by show _ ≤ _; simp [lg_sl, Value.category]) [(0, .ref h), (1, .long d)] rfl ?_
  intro p e s m args below meth c Q A H0 C hK hNW hlk hrt hnm hQ hH0 hAA hA
  refine x_lload_n C dX1_digestFrom_0 rfl 1 rfl ?_
  refine x_aload_n C dX1_digestFrom_1 rfl 0 rfl ?_
  refine x_get C hK in_X1_digestFrom_X1 0 rfl rfl 4 (by decide) (by decide +kernel) rfl rfl dX1_digestFrom_2 ?_
  refine x_i2l C _ dX1_digestFrom_5 rfl ?_
  refine x_calll (x_runSN C hK hNW (c_digestWith l D tys cI cJ hI hJ d ((nI co).toInt64) ) ⟨va_cnB 2 C.2.2.2.2 gX1_digestFrom_X4_digestWith_n48 rfl rfl rfl (hNW.at 18 rfl) (C.2.2.2.2 (.initialized RX4) (by decide +kernel)) (by decide +kernel) ⟨by decide, by decide⟩, C.2.2.2.2 (.static yX4_digestWith) (by decide +kernel), trivial⟩ [] rfl (by decide) (st := []) rfl rfl (Nat.le_of_ble_eq_true rfl) dX1_digestFrom_6 ⟨by first | decide | omega, by first | decide | omega⟩) hA [] rfl [0, 1, 2, 3, 4] [(h, OB 1 [.ref qr, .ref qk, .ref qs, .ref qt, .int (nI co), .int (nI dn)]), (qr, AJ cJ 40 fr), (qk, AJ cJ 40 fk), (qs, AI cI 40 fs), (qt, AI cI 40 ft)] rfl (by decide) (by decide) [0, 1, 2, 3, 4] (by decide) (wf := (fun (u : Unit) => [(h, OB 1 [.ref qr, .ref qk, .ref qs, .ref qt, .int (nI co), .int (nI dn)]), (qr, AJ cJ 40 fr), (qk, AJ cJ 40 fk), (qs, AI cI 40 fs), (qt, AI cI 40 ft)])) (fun _ => rfl) (fun r_1 u h_2 => ?_)
  subst h_2
  refine x_lstore_n C [(3, .long (dgw d ((nI co).toInt64))), (0, .ref h), (1, .long d)] dX1_digestFrom_9 rfl (by decide) rfl ?_
  refine x_lload_n C dX1_digestFrom_10 rfl 0 rfl ?_
  refine x_aload_n C dX1_digestFrom_11 rfl 1 rfl ?_
  refine x_get C hK in_X1_digestFrom_X1 0 rfl rfl 5 (by decide) (by decide +kernel) rfl rfl dX1_digestFrom_12 ?_
  refine x_i2l C _ dX1_digestFrom_15 rfl ?_
  refine x_calll (x_runSN C hK hNW (c_digestWith l D tys cI cJ hI hJ (dgw d ((nI co).toInt64)) ((nI dn).toInt64) ) ⟨va_cnB 2 C.2.2.2.2 gX1_digestFrom_X4_digestWith_n48 rfl rfl rfl (hNW.at 18 rfl) (C.2.2.2.2 (.initialized RX4) (by decide +kernel)) (by decide +kernel) ⟨by decide, by decide⟩, C.2.2.2.2 (.static yX4_digestWith) (by decide +kernel), trivial⟩ [] rfl (by decide) (st := []) rfl rfl (Nat.le_of_ble_eq_true rfl) dX1_digestFrom_16 ⟨by first | decide | omega, by first | decide | omega⟩) hA [] rfl [0, 1, 2, 3, 4] [(h, OB 1 [.ref qr, .ref qk, .ref qs, .ref qt, .int (nI co), .int (nI dn)]), (qr, AJ cJ 40 fr), (qk, AJ cJ 40 fk), (qs, AI cI 40 fs), (qt, AI cI 40 ft)] rfl (by decide) (by decide) [0, 1, 2, 3, 4] (by decide) (wf := (fun (u : Unit) => [(h, OB 1 [.ref qr, .ref qk, .ref qs, .ref qt, .int (nI co), .int (nI dn)]), (qr, AJ cJ 40 fr), (qk, AJ cJ 40 fk), (qs, AI cI 40 fs), (qt, AI cI 40 ft)])) (fun _ => rfl) (fun r_3 u h_4 => ?_)
  subst h_4
  refine x_lstore_n C [(3, .long (dgw (dgw d ((nI co).toInt64)) ((nI dn).toInt64))), (0, .ref h), (1, .long d)] dX1_digestFrom_19 rfl (by decide) rfl ?_
  refine x_iconst C (nI 0) dX1_digestFrom_20 (by decide +kernel) ?_
  refine x_istore C [(5, .int (nI 0)), (3, .long (dgw (dgw d ((nI co).toInt64)) ((nI dn).toInt64))), (0, .ref h), (1, .long d)] dX1_digestFrom_21 (by decide) rfl ?_
  have K_5 : ∀ (fuel : Nat) (i : Nat), (i ≤ dn) → dn - i < fuel → X_ p l e rm_dr_dig s m args below meth c Q D A H0 6 0 0 [(h, OB 1 [.ref qr, .ref qk, .ref qs, .ref qt, .int (nI co), .int (nI dn)]), (qr, AJ cJ 40 fr), (qk, AJ cJ 40 fk), (qs, AI cI 40 fs), (qt, AI cI 40 ft)] [(0, .ref h), (3, .long (dgD fr (dgw (dgw d (nI co).toInt64) (nI dn).toInt64) i)), (5, .int (nI i))] 23 [] := by
    intro fuel
    induction fuel with
    | zero =>
      intros
      exact absurd (by assumption) (Nat.not_lt_zero _)
    | succ fuel ih_K_5 =>
      intro i hi hm_6
      refine x_iload C dX1_digestFrom_23 2 rfl ?_
      refine x_aload_n C dX1_digestFrom_25 rfl 0 rfl ?_
      refine x_get C hK in_X1_digestFrom_X1 0 rfl rfl 5 (by decide) (by decide +kernel) rfl rfl dX1_digestFrom_26 ?_
      refine xn_icmp_ge C 50 (by omega) (by omega) dX1_digestFrom_29 (by decide) (fun h_7 => ?_) (fun h_7 => ?_)
      ·
        have heq_i : dn = i := by omega
        subst heq_i
        refine x_lload_n C dX1_digestFrom_50 rfl 1 rfl ?_
        refine x_lret C hK hlk hrt hQ hH0 hAA () ?_ [0, 1, 2, 3, 4] (by decide) rfl (by first | decide | omega) (by first | decide | omega) dX1_digestFrom_51
        first | rfl | (exact ⟨rfl, rfl⟩) | trivial | assumption | omega
      ·
        refine x_lload_n C dX1_digestFrom_32 rfl 1 rfl ?_
        refine x_aload_n C dX1_digestFrom_33 rfl 0 rfl ?_
        refine x_get C hK in_X1_digestFrom_X1 0 rfl rfl 0 (by decide) (by decide +kernel) rfl rfl dX1_digestFrom_34 ?_
        refine x_iload C dX1_digestFrom_37 2 rfl ?_
        refine x_lald C hK 1 1 rfl hJ (by omega) (by omega) dX1_digestFrom_39 ?_
        refine x_calll (x_runSN C hK hNW (c_digestWith l D tys cI cJ hI hJ (dgD fr (dgw (dgw d (nI co).toInt64) (nI dn).toInt64) i) (fr i) ) ⟨va_cnB 2 C.2.2.2.2 gX1_digestFrom_X4_digestWith_n48 rfl rfl rfl (hNW.at 18 rfl) (C.2.2.2.2 (.initialized RX4) (by decide +kernel)) (by decide +kernel) ⟨by decide, by decide⟩, C.2.2.2.2 (.static yX4_digestWith) (by decide +kernel), trivial⟩ [] rfl (by decide) (st := []) rfl rfl (Nat.le_of_ble_eq_true rfl) dX1_digestFrom_40 ⟨by first | decide | omega, by first | decide | omega⟩) hA [] rfl [0, 1, 2, 3, 4] [(h, OB 1 [.ref qr, .ref qk, .ref qs, .ref qt, .int (nI co), .int (nI dn)]), (qr, AJ cJ 40 fr), (qk, AJ cJ 40 fk), (qs, AI cI 40 fs), (qt, AI cI 40 ft)] rfl (by decide) (by decide) [0, 1, 2, 3, 4] (by decide) (wf := (fun (u : Unit) => [(h, OB 1 [.ref qr, .ref qk, .ref qs, .ref qt, .int (nI co), .int (nI dn)]), (qr, AJ cJ 40 fr), (qk, AJ cJ 40 fk), (qs, AI cI 40 fs), (qt, AI cI 40 ft)])) (fun _ => rfl) (fun r_8 u h_9 => ?_)
        subst h_9
        refine x_lstore_n C [(3, .long (dgw (dgD fr (dgw (dgw d (nI co).toInt64) (nI dn).toInt64) i) (fr i))), (0, .ref h), (5, .int (nI i))] dX1_digestFrom_43 rfl (by decide) rfl ?_
        refine xn_iinc C (i + 1) [(5, .int (nI (i + 1))), (3, .long (dgw (dgD fr (dgw (dgw d (nI co).toInt64) (nI dn).toInt64) i) (fr i))), (0, .ref h)] dX1_digestFrom_44 2 rfl (by rw [show Int32.ofInt 1 = nI 1 from by decide +kernel]; exact nI_add _ _) (by decide) rfl ?_
        refine x_goto C 23 dX1_digestFrom_47 (by decide) ?_
        refine x_lv [(0, .ref h), (3, .long (dgD fr (dgw (dgw d (nI co).toInt64) (nI dn).toInt64) (i + 1))), (5, .int (nI (i + 1)))] [2, 1, 0] (by rw [show dgD fr (dgw (dgw d (nI co).toInt64) (nI dn).toInt64) (i + 1) = dgw (dgD fr (dgw (dgw d (nI co).toInt64) (nI dn).toInt64) i) (fr i) from by rfl]; rfl) ?_
        exact ih_K_5 (i + 1) (by first | assumption | omega) (by omega)
  refine x_lv [(0, .ref h), (3, .long (dgD fr (dgw (dgw d (nI co).toInt64) (nI dn).toInt64) 0)), (5, .int (nI 0))] [2, 1, 0] (by rw [show dgD fr (dgw (dgw d (nI co).toInt64) (nI dn).toInt64) 0 = dgw (dgw d ((nI co).toInt64)) ((nI dn).toInt64) from by rfl]; rfl) ?_
  exact K_5 (dn - 0 + 1) 0 (by first | assumption | omega) (Nat.lt_succ_self _)
abbrev rm_ld_init : Room := { frames := 1, cells := 2, slots := 160, locals := 12 }
set_option maxRecDepth 100000 in
set_option maxHeartbeats 4000000 in
theorem c_ld_init (l : Launch) (D : va_G) (tys : List (ClassId × FieldType)) (cI cJ : ClassId) (hI : tys[0]? = some (cI, .int)) (hJ : tys[1]? = some (cJ, .long)) (h : Nat)  : MV l yX2_init wsX2_init rm_ld_init D tys [.ref h] [(h, OB 2 [.null, .null, .int 0, .int 0])] (Nat × Nat) (fun (u : Nat × Nat) => True) (fun (u : Nat × Nat) => [(h, OB 2 [.ref u.1, .ref u.2, .int 0, .int 0]), (u.1, AJ cJ 80 (fun _ => 0)), (u.2, AJ cJ 80 (fun _ => 0))]) 2 160 := by
  intro sz
  refine x_met (cc := cX2_init) (maxL := 1) (ret := none) (by decide +kernel) rfl (by show _ ≤ _; simp [lg_sl, Value.category]) [(0, .ref h)] rfl ?_
  intro p e s m args below meth c Q A H0 C hK hNW hlk hrt hnm hQ hH0 hAA hA
  refine x_aload_n C dX2_init_0 rfl 0 rfl ?_
  refine x_objInit C (by decide +kernel) (by decide +kernel) (by decide +kernel) dX2_init_1 (by decide) (by decide) ?_
  refine x_aload_n C dX2_init_4 rfl 0 rfl ?_
  refine x_bipush C (nI 80) dX2_init_5 (by decide +kernel) ?_
  refine x_new_long C hK hA (by decide +kernel) 1 hJ (by omega) (by first | decide | omega) (by first | decide | omega) dX2_init_7 (fun q_1 => ?_)
  refine x_putF C hK in_X2_init_X2 tyX2 tyX2_ok nmX2 0 rfl rfl 0 (by decide) (by decide +kernel) rfl rfl hnm rfl (tyX2_ok 0 (by decide)) rfl rfl (Nat.le_of_ble_eq_true rfl) [(h, OB 2 [.ref q_1, .null, .int 0, .int 0]), (q_1, AJ cJ 80 (fun _ => 0))] rfl dX2_init_9 ?_
  refine x_aload_n C dX2_init_12 rfl 0 rfl ?_
  refine x_bipush C (nI 80) dX2_init_13 (by decide +kernel) ?_
  refine x_new_long C hK hA (by decide +kernel) 1 hJ (by omega) (by first | decide | omega) (by first | decide | omega) dX2_init_15 (fun q_2 => ?_)
  refine x_putF C hK in_X2_init_X2 tyX2 tyX2_ok nmX2 0 rfl rfl 1 (by decide) (by decide +kernel) rfl rfl hnm rfl (tyX2_ok 1 (by decide)) rfl rfl (Nat.le_of_ble_eq_true rfl) [(h, OB 2 [.ref q_1, .ref q_2, .int 0, .int 0]), (q_1, AJ cJ 80 (fun _ => 0)), (q_2, AJ cJ 80 (fun _ => 0))] rfl dX2_init_17 ?_
  refine x_vret C hK hlk hrt hQ hH0 hAA (q_1, q_2) ?_ [0, 1, 2] (by decide) rfl (by first | decide | omega) (by first | decide | omega) dX2_init_20
  trivial
abbrev rm_ld_leads : Room := { frames := 1, cells := 0, slots := 0, locals := 22 }
set_option maxRecDepth 100000 in
set_option maxHeartbeats 4000000 in
theorem c_ld_leads (l : Launch) (D : va_G) (tys : List (ClassId × FieldType)) (cI cJ : ClassId) (hI : tys[0]? = some (cI, .int)) (hJ : tys[1]? = some (cJ, .long)) (h : Nat) (qe : Nat) (qp : Nat) (en : Nat) (th : Nat) (fe : Nat → Int64) (fp : Nat → Int64) (a : Nat) (b : Nat) (he : en ≤ th) (ht : th ≤ 80) (ha : a < th) (hb : b < th) : MI l yX2_leads wsX2_leads rm_ld_leads D tys [.ref h, .int (nI a), .int (nI b)] [(h, OB 2 [.ref qe, .ref qp, .int (nI en), .int (nI th)]), (qe, AJ cJ 80 fe), (qp, AJ cJ 80 fp)] Unit (fun r (_ : Unit) => r = bI (ldT en fe fp a b)) (fun (_ : Unit) => [(h, OB 2 [.ref qe, .ref qp, .int (nI en), .int (nI th)]), (qe, AJ cJ 80 fe), (qp, AJ cJ 80 fp)]) 0 0 := by
  intro sz
  refine x_met (cc := cX2_leads) (maxL := 3) (ret := (some .boolean)) (by decide +kernel) rfl (by show _ ≤ _; simp [lg_sl, Value.category]) [(0, .ref h), (1, .int (nI a)), (2, .int (nI b))] rfl ?_
  intro p e s m args below meth c Q A H0 C hK hNW hlk hrt hnm hQ hH0 hAA hA
  refine x_iload_n C dX2_leads_0 rfl 2 rfl ?_
  refine x_aload_n C dX2_leads_1 rfl 0 rfl ?_
  refine x_get C hK in_X2_leads_X2 0 rfl rfl 2 (by decide) (by decide +kernel) rfl rfl dX2_leads_2 ?_
  refine xn_icmp_ge C 21 (by omega) (by omega) dX2_leads_5 (by decide) (fun h_1 => ?_) (fun h_1 => ?_)
  ·
    refine x_aload_n C dX2_leads_21 rfl 0 rfl ?_
    refine x_get C hK in_X2_leads_X2 0 rfl rfl 1 (by decide) (by decide +kernel) rfl rfl dX2_leads_22 ?_
    refine x_iload_n C dX2_leads_25 rfl 1 rfl ?_
    refine x_lald C hK 2 1 rfl hJ (by omega) (by omega) dX2_leads_26 ?_
    refine x_iload_n C dX2_leads_27 rfl 2 rfl ?_
    refine x_aload_n C dX2_leads_28 rfl 0 rfl ?_
    refine x_get C hK in_X2_leads_X2 0 rfl rfl 2 (by decide) (by decide +kernel) rfl rfl dX2_leads_29 ?_
    refine xn_isub C (by omega) dX2_leads_32 ?_
    refine x_calli (x_runSN C hK hNW (c_hasBit l D tys cI cJ hI hJ (fp a) (nI (b - en)) ) ⟨va_cnB 2 C.2.2.2.2 gX2_leads_X4_hasBit_n46 rfl rfl rfl (hNW.at 13 rfl) (C.2.2.2.2 (.initialized RX4) (by decide +kernel)) (by decide +kernel) ⟨by decide, by decide⟩, C.2.2.2.2 (.static yX4_hasBit) (by decide +kernel), trivial⟩ [] rfl (by decide) (st := []) rfl rfl (Nat.le_of_ble_eq_true rfl) dX2_leads_33 ⟨by first | decide | omega, by first | decide | omega⟩) hA [] rfl [0, 1, 2] [(h, OB 2 [.ref qe, .ref qp, .int (nI en), .int (nI th)]), (qe, AJ cJ 80 fe), (qp, AJ cJ 80 fp)] rfl (by decide) (by decide) [0, 1, 2] (by decide) (wf := (fun (u : Unit) => [(h, OB 2 [.ref qe, .ref qp, .int (nI en), .int (nI th)]), (qe, AJ cJ 80 fe), (qp, AJ cJ 80 fp)])) (fun _ => rfl) (fun r_2 u h_3 => ?_)
    subst h_3
    refine x_zret C hK hlk hrt hQ hH0 hAA () (by exact bI_01 _) ?_ [0, 1, 2] (by decide) rfl (by first | decide | omega) (by first | decide | omega) dX2_leads_36
    unfold ldT; first | (rw [if_pos (by assumption)]; done) | (rw [if_neg (by omega)]; done)
  ·
    refine x_aload_n C dX2_leads_8 rfl 0 rfl ?_
    refine x_get C hK in_X2_leads_X2 0 rfl rfl 0 (by decide) (by decide +kernel) rfl rfl dX2_leads_9 ?_
    refine x_iload_n C dX2_leads_12 rfl 1 rfl ?_
    refine x_lald C hK 1 1 rfl hJ (by omega) (by omega) dX2_leads_13 ?_
    refine x_iload_n C dX2_leads_14 rfl 2 rfl ?_
    refine x_calli (x_runSN C hK hNW (c_hasBit l D tys cI cJ hI hJ (fe a) (nI b) ) ⟨va_cnB 2 C.2.2.2.2 gX2_leads_X4_hasBit_n46 rfl rfl rfl (hNW.at 13 rfl) (C.2.2.2.2 (.initialized RX4) (by decide +kernel)) (by decide +kernel) ⟨by decide, by decide⟩, C.2.2.2.2 (.static yX4_hasBit) (by decide +kernel), trivial⟩ [] rfl (by decide) (st := []) rfl rfl (Nat.le_of_ble_eq_true rfl) dX2_leads_15 ⟨by first | decide | omega, by first | decide | omega⟩) hA [] rfl [0, 1, 2] [(h, OB 2 [.ref qe, .ref qp, .int (nI en), .int (nI th)]), (qe, AJ cJ 80 fe), (qp, AJ cJ 80 fp)] rfl (by decide) (by decide) [0, 1, 2] (by decide) (wf := (fun (u : Unit) => [(h, OB 2 [.ref qe, .ref qp, .int (nI en), .int (nI th)]), (qe, AJ cJ 80 fe), (qp, AJ cJ 80 fp)])) (fun _ => rfl) (fun r_4 u h_5 => ?_)
    subst h_5
    refine x_goto C 36 dX2_leads_18 (by decide) ?_
    refine x_zret C hK hlk hrt hQ hH0 hAA () (by exact bI_01 _) ?_ [0, 1, 2] (by decide) rfl (by first | decide | omega) (by first | decide | omega) dX2_leads_36
    unfold ldT; first | (rw [if_pos (by assumption)]; done) | (rw [if_neg (by omega)]; done)
abbrev rm_ld_ifg : Room := { frames := 2, cells := 0, slots := 0, locals := 44 }
set_option maxRecDepth 100000 in
set_option maxHeartbeats 4000000 in
theorem c_ld_ifg (l : Launch) (D : va_G) (tys : List (ClassId × FieldType)) (cI cJ : ClassId) (hI : tys[0]? = some (cI, .int)) (hJ : tys[1]? = some (cJ, .long)) (h : Nat) (qe : Nat) (qp : Nat) (en : Nat) (th : Nat) (fe : Nat → Int64) (fp : Nat → Int64) (a : Nat) (he : en ≤ th) (ht : th ≤ 80) (ha : a < th) : MI l yX2_isFirstOfGroup wsX2_isFirstOfGroup rm_ld_ifg D tys [.ref h, .int (nI a)] [(h, OB 2 [.ref qe, .ref qp, .int (nI en), .int (nI th)]), (qe, AJ cJ 80 fe), (qp, AJ cJ 80 fp)] Unit (fun r (_ : Unit) => r = bI (cB (ifg (ldT en fe fp) a))) (fun (_ : Unit) => [(h, OB 2 [.ref qe, .ref qp, .int (nI en), .int (nI th)]), (qe, AJ cJ 80 fe), (qp, AJ cJ 80 fp)]) 0 0 := by
  intro sz
  refine x_met (cc := cX2_isFirstOfGroup) (maxL := 3) (ret := (some .boolean)) (by decide +kernel) rfl (by show _ ≤ _; simp [lg_sl, Value.category]) [(0, .ref h), (1, .int (nI a))] rfl ?_
  intro p e s m args below meth c Q A H0 C hK hNW hlk hrt hnm hQ hH0 hAA hA
  refine x_iconst C (nI 0) dX2_isFirstOfGroup_0 (by decide +kernel) ?_
  refine x_istore_n C [(2, .int (nI 0)), (0, .ref h), (1, .int (nI a))] dX2_isFirstOfGroup_1 rfl (by decide) rfl ?_
  have K_1 : ∀ (fuel : Nat) (i : Nat), (i ≤ a) → (∀ j, j < i → ¬ (ldT en fe fp a j = true ∧ ldT en fe fp j a = true)) → a - i < fuel → X_ p l e rm_ld_ifg s m args below meth c Q D A H0 3 0 0 [(h, OB 2 [.ref qe, .ref qp, .int (nI en), .int (nI th)]), (qe, AJ cJ 80 fe), (qp, AJ cJ 80 fp)] [(0, .ref h), (1, .int (nI a)), (2, .int (nI i))] 2 [] := by
    intro fuel
    induction fuel with
    | zero =>
      intros
      exact absurd (by assumption) (Nat.not_lt_zero _)
    | succ fuel ih_K_1 =>
      intro i hi hx hm_2
      refine x_iload_n C dX2_isFirstOfGroup_2 rfl 2 rfl ?_
      refine x_iload_n C dX2_isFirstOfGroup_3 rfl 1 rfl ?_
      refine xn_icmp_ge C 33 (by omega) (by omega) dX2_isFirstOfGroup_4 (by decide) (fun h_3 => ?_) (fun h_3 => ?_)
      ·
        refine x_iconst C (nI 1) dX2_isFirstOfGroup_33 (by decide +kernel) ?_
        refine x_zret C hK hlk hrt hQ hH0 hAA () (by first | (left; rfl) | (right; rfl) | assumption | (simp; done)) ?_ [0, 1, 2] (by decide) rfl (by first | decide | omega) (by first | decide | omega) dX2_isFirstOfGroup_34
        rw [cB_t (P := ifg (ldT en fe fp) a) (fun j h1 => hx j (by omega))]; rfl
      ·
        refine x_aload_n C dX2_isFirstOfGroup_7 rfl 0 rfl ?_
        refine x_iload_n C dX2_isFirstOfGroup_8 rfl 1 rfl ?_
        refine x_iload_n C dX2_isFirstOfGroup_9 rfl 2 rfl ?_
        refine x_calli (x_runV C hK hNW (c_ld_leads l D tys cI cJ hI hJ h qe qp en th fe fp a i (by first | omega | assumption) (by first | omega | assumption) (by first | omega | assumption) (by first | omega | assumption)) (cwV 2 C.2.2.2.2 gX2_isFirstOfGroup_X2_leads rfl rfl rfl (by decide +kernel) ⟨by decide, by decide⟩) [0, 1, 2] rfl (by decide) 0 2 rfl rfl rfl (st := []) rfl rfl (Nat.le_of_ble_eq_true rfl) dX2_isFirstOfGroup_10 ⟨by first | decide | omega, by first | decide | omega⟩) hA [0, 1, 2] rfl [] [] rfl (by decide) (by decide) [0, 1, 2] (by decide) (wf := (fun (u : Unit) => [(h, OB 2 [.ref qe, .ref qp, .int (nI en), .int (nI th)]), (qe, AJ cJ 80 fe), (qp, AJ cJ 80 fp)])) (fun _ => rfl) (fun r_4 u h_5 => ?_)
        subst h_5
        refine x_if_eq C 27 dX2_isFirstOfGroup_13 (by decide) (fun h_6 => ?_) (fun h_6 => ?_)
        ·
          refine xn_iinc C (i + 1) [(2, .int (nI (i + 1))), (0, .ref h), (1, .int (nI a))] dX2_isFirstOfGroup_27 2 rfl (by rw [show Int32.ofInt 1 = nI 1 from by decide +kernel]; exact nI_add _ _) (by decide) rfl ?_
          refine x_goto C 2 dX2_isFirstOfGroup_30 (by decide) ?_
          refine x_lv [(0, .ref h), (1, .int (nI a)), (2, .int (nI (i + 1)))] [1, 2, 0] rfl ?_
          exact ih_K_1 (i + 1) (by first | assumption | omega) (by intro j h1; by_cases e : j = i; { subst e; intro z; first | exact absurd (z.1.symm.trans (bI_eq0 (by assumption))) (by decide) | exact absurd (z.2.symm.trans (bI_eq0 (by assumption))) (by decide) }; exact hx j (by omega)) (by omega)
        ·
          refine x_aload_n C dX2_isFirstOfGroup_16 rfl 0 rfl ?_
          refine x_iload_n C dX2_isFirstOfGroup_17 rfl 2 rfl ?_
          refine x_iload_n C dX2_isFirstOfGroup_18 rfl 1 rfl ?_
          refine x_calli (x_runV C hK hNW (c_ld_leads l D tys cI cJ hI hJ h qe qp en th fe fp i a (by first | omega | assumption) (by first | omega | assumption) (by first | omega | assumption) (by first | omega | assumption)) (cwV 2 C.2.2.2.2 gX2_isFirstOfGroup_X2_leads rfl rfl rfl (by decide +kernel) ⟨by decide, by decide⟩) [0, 1, 2] rfl (by decide) 0 2 rfl rfl rfl (st := []) rfl rfl (Nat.le_of_ble_eq_true rfl) dX2_isFirstOfGroup_19 ⟨by first | decide | omega, by first | decide | omega⟩) hA [0, 1, 2] rfl [] [] rfl (by decide) (by decide) [0, 1, 2] (by decide) (wf := (fun (u : Unit) => [(h, OB 2 [.ref qe, .ref qp, .int (nI en), .int (nI th)]), (qe, AJ cJ 80 fe), (qp, AJ cJ 80 fp)])) (fun _ => rfl) (fun r_7 u h_8 => ?_)
          subst h_8
          refine x_if_eq C 27 dX2_isFirstOfGroup_22 (by decide) (fun h_9 => ?_) (fun h_9 => ?_)
          ·
            refine xn_iinc C (i + 1) [(2, .int (nI (i + 1))), (0, .ref h), (1, .int (nI a))] dX2_isFirstOfGroup_27 2 rfl (by rw [show Int32.ofInt 1 = nI 1 from by decide +kernel]; exact nI_add _ _) (by decide) rfl ?_
            refine x_goto C 2 dX2_isFirstOfGroup_30 (by decide) ?_
            refine x_lv [(0, .ref h), (1, .int (nI a)), (2, .int (nI (i + 1)))] [1, 2, 0] rfl ?_
            exact ih_K_1 (i + 1) (by first | assumption | omega) (by intro j h1; by_cases e : j = i; { subst e; intro z; first | exact absurd (z.1.symm.trans (bI_eq0 (by assumption))) (by decide) | exact absurd (z.2.symm.trans (bI_eq0 (by assumption))) (by decide) }; exact hx j (by omega)) (by omega)
          ·
            refine x_iconst C (nI 0) dX2_isFirstOfGroup_25 (by decide +kernel) ?_
            refine x_zret C hK hlk hrt hQ hH0 hAA () (by first | (left; rfl) | (right; rfl) | assumption | (simp; done)) ?_ [0, 1, 2] (by decide) rfl (by first | decide | omega) (by first | decide | omega) dX2_isFirstOfGroup_26
            rw [cB_f (P := ifg (ldT en fe fp) a) (fun q => q i (by omega) ⟨bI_ne0 (by assumption), bI_ne0 (by assumption)⟩)]; rfl
  refine x_lv [(0, .ref h), (1, .int (nI a)), (2, .int (nI 0))] [1, 2, 0] rfl ?_
  exact K_1 (a - 0 + 1) 0 (by first | assumption | omega) (by intro j h1; omega) (Nat.lt_succ_self _)
abbrev rm_ld_groups : Room := { frames := 3, cells := 0, slots := 0, locals := 66 }
set_option maxRecDepth 100000 in
set_option maxHeartbeats 4000000 in
theorem c_ld_groups (l : Launch) (D : va_G) (tys : List (ClassId × FieldType)) (cI cJ : ClassId) (hI : tys[0]? = some (cI, .int)) (hJ : tys[1]? = some (cJ, .long)) (h : Nat) (qe : Nat) (qp : Nat) (en : Nat) (th : Nat) (fe : Nat → Int64) (fp : Nat → Int64) (he : en ≤ th) (ht : th ≤ 80) : MI l yX2_groups wsX2_groups rm_ld_groups D tys [.ref h] [(h, OB 2 [.ref qe, .ref qp, .int (nI en), .int (nI th)]), (qe, AJ cJ 80 fe), (qp, AJ cJ 80 fp)] Unit (fun r (_ : Unit) => r = nI (cnB (fun a => cB (ifg (ldT en fe fp) a)) th)) (fun (_ : Unit) => [(h, OB 2 [.ref qe, .ref qp, .int (nI en), .int (nI th)]), (qe, AJ cJ 80 fe), (qp, AJ cJ 80 fp)]) 0 0 := by
  intro sz
  refine x_met (cc := cX2_groups) (maxL := 3) (ret := (some .int)) (by decide +kernel) rfl (by show _ ≤ _; simp [lg_sl, Value.category]) [(0, .ref h)] rfl ?_
  intro p e s m args below meth c Q A H0 C hK hNW hlk hrt hnm hQ hH0 hAA hA
  refine x_iconst C (nI 0) dX2_groups_0 (by decide +kernel) ?_
  refine x_istore_n C [(1, .int (nI 0)), (0, .ref h)] dX2_groups_1 rfl (by decide) rfl ?_
  refine x_iconst C (nI 0) dX2_groups_2 (by decide +kernel) ?_
  refine x_istore_n C [(2, .int (nI 0)), (1, .int (nI 0)), (0, .ref h)] dX2_groups_3 rfl (by decide) rfl ?_
  have K_1 : ∀ (fuel : Nat) (i : Nat), (i ≤ th) → th - i < fuel → X_ p l e rm_ld_groups s m args below meth c Q D A H0 3 0 0 [(h, OB 2 [.ref qe, .ref qp, .int (nI en), .int (nI th)]), (qe, AJ cJ 80 fe), (qp, AJ cJ 80 fp)] [(0, .ref h), (1, .int (nI (cnB (fun a => cB (ifg (ldT en fe fp) a)) i))), (2, .int (nI i))] 4 [] := by
    intro fuel
    induction fuel with
    | zero =>
      intros
      exact absurd (by assumption) (Nat.not_lt_zero _)
    | succ fuel ih_K_1 =>
      intro i hi hm_2
      refine x_iload_n C dX2_groups_4 rfl 2 rfl ?_
      refine x_aload_n C dX2_groups_5 rfl 0 rfl ?_
      refine x_get C hK in_X2_groups_X2 0 rfl rfl 3 (by decide) (by decide +kernel) rfl rfl dX2_groups_6 ?_
      refine xn_icmp_ge C 29 (by omega) (by omega) dX2_groups_9 (by decide) (fun h_3 => ?_) (fun h_3 => ?_)
      ·
        have heq_i : th = i := by omega
        subst heq_i
        refine x_iload_n C dX2_groups_29 rfl 1 rfl ?_
        refine x_iret C hK hlk hrt hQ hH0 hAA () ?_ [0, 1, 2] (by decide) rfl (by first | decide | omega) (by first | decide | omega) dX2_groups_30
        first | rfl | (exact ⟨rfl, rfl⟩) | trivial | assumption | omega
      ·
        refine x_aload_n C dX2_groups_12 rfl 0 rfl ?_
        refine x_iload_n C dX2_groups_13 rfl 2 rfl ?_
        refine x_calli (x_runV C hK hNW (c_ld_ifg l D tys cI cJ hI hJ h qe qp en th fe fp i (by first | omega | assumption) (by first | omega | assumption) (by first | omega | assumption)) (cwV 1 C.2.2.2.2 gX2_groups_X2_isFirstOfGroup rfl rfl rfl (by decide +kernel) ⟨by decide, by decide⟩) [0, 1, 2] rfl (by decide) 0 2 rfl rfl rfl (st := []) rfl rfl (Nat.le_of_ble_eq_true rfl) dX2_groups_14 ⟨by first | decide | omega, by first | decide | omega⟩) hA [0, 1, 2] rfl [] [] rfl (by decide) (by decide) [0, 1, 2] (by decide) (wf := (fun (u : Unit) => [(h, OB 2 [.ref qe, .ref qp, .int (nI en), .int (nI th)]), (qe, AJ cJ 80 fe), (qp, AJ cJ 80 fp)])) (fun _ => rfl) (fun r_4 u h_5 => ?_)
        subst h_5
        refine x_if_eq C 23 dX2_groups_17 (by decide) (fun h_6 => ?_) (fun h_6 => ?_)
        ·
          have he2 := cnB_n (p := fun a => cB (ifg (ldT en fe fp) a)) (bI_eq0 h_6)
          refine xn_iinc C (i + 1) [(2, .int (nI (i + 1))), (0, .ref h), (1, .int (nI (cnB (fun a => cB (ifg (ldT en fe fp) a)) i)))] dX2_groups_23 2 rfl (by rw [show Int32.ofInt 1 = nI 1 from by decide +kernel]; exact nI_add _ _) (by decide) rfl ?_
          refine x_goto C 4 dX2_groups_26 (by decide) ?_
          refine x_lv [(0, .ref h), (1, .int (nI (cnB (fun a => cB (ifg (ldT en fe fp) a)) (i + 1)))), (2, .int (nI (i + 1)))] [1, 2, 0] (by rw [show cnB (fun a => cB (ifg (ldT en fe fp) a)) (i + 1) = cnB (fun a => cB (ifg (ldT en fe fp) a)) i from by first | rfl | omega]; rfl) ?_
          exact ih_K_1 (i + 1) (by first | assumption | omega) (by omega)
        ·
          have he2 := cnB_y (p := fun a => cB (ifg (ldT en fe fp) a)) (bI_ne0 h_6)
          refine xn_iinc C ((cnB (fun a => cB (ifg (ldT en fe fp) a)) i) + 1) [(1, .int (nI ((cnB (fun a => cB (ifg (ldT en fe fp) a)) i) + 1))), (0, .ref h), (2, .int (nI i))] dX2_groups_20 1 rfl (by rw [show Int32.ofInt 1 = nI 1 from by decide +kernel]; exact nI_add _ _) (by decide) rfl ?_
          refine xn_iinc C (i + 1) [(2, .int (nI (i + 1))), (1, .int (nI ((cnB (fun a => cB (ifg (ldT en fe fp) a)) i) + 1))), (0, .ref h)] dX2_groups_23 2 rfl (by rw [show Int32.ofInt 1 = nI 1 from by decide +kernel]; exact nI_add _ _) (by decide) rfl ?_
          refine x_goto C 4 dX2_groups_26 (by decide) ?_
          refine x_lv [(0, .ref h), (1, .int (nI (cnB (fun a => cB (ifg (ldT en fe fp) a)) (i + 1)))), (2, .int (nI (i + 1)))] [2, 1, 0] (by rw [show cnB (fun a => cB (ifg (ldT en fe fp) a)) (i + 1) = (cnB (fun a => cB (ifg (ldT en fe fp) a)) i) + 1 from by first | rfl | omega]; rfl) ?_
          exact ih_K_1 (i + 1) (by first | assumption | omega) (by omega)
  refine x_lv [(0, .ref h), (1, .int (nI (cnB (fun a => cB (ifg (ldT en fe fp) a)) 0))), (2, .int (nI 0))] [2, 1, 0] (by rw [show cnB (fun a => cB (ifg (ldT en fe fp) a)) 0 = 0 from by first | rfl | omega]; rfl) ?_
  exact K_1 (th - 0 + 1) 0 (by first | assumption | omega) (Nat.lt_succ_self _)
abbrev rm_ld_begin : Room := { frames := 3, cells := 0, slots := 0, locals := 68 }
set_option maxRecDepth 100000 in
set_option maxHeartbeats 4000000 in
theorem c_ld_begin (l : Launch) (D : va_G) (tys : List (ClassId × FieldType)) (cI cJ : ClassId) (hI : tys[0]? = some (cI, .int)) (hJ : tys[1]? = some (cJ, .long)) (h : Nat) (qe : Nat) (qp : Nat) (fe : Nat → Int64) (fp : Nat → Int64) (g : Nat) (ge : Nat) (gf : Nat) (cn : Nat) (cp : Nat) (ce : Nat → Int64) (cf : Nat → Int32) (en0 : Int32) (th0 : Int32) (hcn : cn ≤ 40) (hcp : cp ≤ 40) : MV l yX2_begin wsX2_begin rm_ld_begin D tys [.ref h, .ref g] [(h, OB 2 [.ref qe, .ref qp, .int en0, .int th0]), (qe, AJ cJ 80 fe), (qp, AJ cJ 80 fp), (g, OB 0 [.ref ge, .ref gf, .int (nI cn), .int (nI cp)]), (ge, AJ cJ 40 ce), (gf, AI cI 41 cf)] Unit (fun (_ : Unit) => True) (fun (_ : Unit) => [(h, OB 2 [.ref qe, .ref qp, .int (nI cn), .int (nI (cn + cp))]), (qe, AJ cJ 80 (bgE2 (bgE fe cn) ce cn cp)), (qp, AJ cJ 80 (bgP2 (bgP fp ce cp cn) cn cp)), (g, OB 0 [.ref ge, .ref gf, .int (nI cn), .int (nI cp)]), (ge, AJ cJ 40 ce), (gf, AI cI 41 cf)]) 0 0 := by
  intro sz
  refine x_met (cc := cX2_begin) (maxL := 3) (ret := none) (by decide +kernel) rfl (by show _ ≤ _; simp [lg_sl, Value.category]) [(0, .ref h), (1, .ref g)] rfl ?_
  intro p e s m args below meth c Q A H0 C hK hNW hlk hrt hnm hQ hH0 hAA hA
  refine x_aload_n C dX2_begin_0 rfl 0 rfl ?_
  refine x_aload_n C dX2_begin_1 rfl 1 rfl ?_
  refine x_getN C hK hNW in_X2_begin_X0 3 rfl rfl 2 (by decide) 39 rfl rfl rfl dX2_begin_2 ?_
  refine x_put C hK in_X2_begin_X2 tyX2 tyX2_ok nmX2 0 rfl rfl 2 (by decide) (by decide +kernel) rfl rfl (tyX2_ok 2 (by decide)) rfl rfl (Nat.le_of_ble_eq_true rfl) [(h, OB 2 [.ref qe, .ref qp, .int (nI cn), .int th0]), (qe, AJ cJ 80 fe), (qp, AJ cJ 80 fp), (g, OB 0 [.ref ge, .ref gf, .int (nI cn), .int (nI cp)]), (ge, AJ cJ 40 ce), (gf, AI cI 41 cf)] rfl dX2_begin_5 ?_
  refine x_aload_n C dX2_begin_8 rfl 0 rfl ?_
  refine x_aload_n C dX2_begin_9 rfl 1 rfl ?_
  refine x_getN C hK hNW in_X2_begin_X0 3 rfl rfl 2 (by decide) 39 rfl rfl rfl dX2_begin_10 ?_
  refine x_aload_n C dX2_begin_13 rfl 1 rfl ?_
  refine x_getN C hK hNW in_X2_begin_X0 3 rfl rfl 3 (by decide) 41 rfl rfl rfl dX2_begin_14 ?_
  refine xn_iadd C dX2_begin_17 ?_
  refine x_put C hK in_X2_begin_X2 tyX2 tyX2_ok nmX2 0 rfl rfl 3 (by decide) (by decide +kernel) rfl rfl (tyX2_ok 3 (by decide)) rfl rfl (Nat.le_of_ble_eq_true rfl) [(h, OB 2 [.ref qe, .ref qp, .int (nI cn), .int (nI (cn + cp))]), (qe, AJ cJ 80 fe), (qp, AJ cJ 80 fp), (g, OB 0 [.ref ge, .ref gf, .int (nI cn), .int (nI cp)]), (ge, AJ cJ 40 ce), (gf, AI cI 41 cf)] rfl dX2_begin_18 ?_
  refine x_iconst C (nI 0) dX2_begin_21 (by decide +kernel) ?_
  refine x_istore_n C [(2, .int (nI 0)), (0, .ref h), (1, .ref g)] dX2_begin_22 rfl (by decide) rfl ?_
  have L1_1 : ∀ (fuel : Nat) (i : Nat), (i ≤ cn) → cn - i < fuel → X_ p l e rm_ld_begin s m args below meth c Q D A H0 3 0 0 [(h, OB 2 [.ref qe, .ref qp, .int (nI cn), .int (nI (cn + cp))]), (qe, AJ cJ 80 (bgE fe i)), (qp, AJ cJ 80 (bgP fp ce cp i)), (g, OB 0 [.ref ge, .ref gf, .int (nI cn), .int (nI cp)]), (ge, AJ cJ 40 ce), (gf, AI cI 41 cf)] [(0, .ref h), (1, .ref g), (2, .int (nI i))] 23 [] := by
    intro fuel
    induction fuel with
    | zero =>
      intros
      exact absurd (by assumption) (Nat.not_lt_zero _)
    | succ fuel ih_L1_1 =>
      intro i hi hm_2
      refine x_iload_n C dX2_begin_23 rfl 2 rfl ?_
      refine x_aload_n C dX2_begin_24 rfl 0 rfl ?_
      refine x_get C hK in_X2_begin_X2 0 rfl rfl 2 (by decide) (by decide +kernel) rfl rfl dX2_begin_25 ?_
      refine xn_icmp_ge C 55 (by omega) (by omega) dX2_begin_28 (by decide) (fun h_3 => ?_) (fun h_3 => ?_)
      ·
        have heq_i : cn = i := by omega
        subst heq_i
        refine x_iconst C (nI 0) dX2_begin_55 (by decide +kernel) ?_
        refine x_istore_n C [(2, .int (nI 0)), (0, .ref h), (1, .ref g)] dX2_begin_56 rfl (by decide) rfl ?_
        have L2_4 : ∀ (fuel : Nat) (j : Nat), (j ≤ cp) → cp - j < fuel → X_ p l e rm_ld_begin s m args below meth c Q D A H0 3 0 0 [(h, OB 2 [.ref qe, .ref qp, .int (nI cn), .int (nI (cn + cp))]), (qe, AJ cJ 80 (bgE2 (bgE fe cn) ce cn j)), (qp, AJ cJ 80 (bgP2 (bgP fp ce cp cn) cn j)), (g, OB 0 [.ref ge, .ref gf, .int (nI cn), .int (nI cp)]), (ge, AJ cJ 40 ce), (gf, AI cI 41 cf)] [(0, .ref h), (1, .ref g), (2, .int (nI j))] 57 [] := by
          intro fuel
          induction fuel with
          | zero =>
            intros
            exact absurd (by assumption) (Nat.not_lt_zero _)
          | succ fuel ih_L2_4 =>
            intro j hj hm_5
            refine x_iload_n C dX2_begin_57 rfl 2 rfl ?_
            refine x_aload_n C dX2_begin_58 rfl 1 rfl ?_
            refine x_getN C hK hNW in_X2_begin_X0 3 rfl rfl 3 (by decide) 41 rfl rfl rfl dX2_begin_59 ?_
            refine xn_icmp_ge C 99 (by omega) (by omega) dX2_begin_62 (by decide) (fun h_6 => ?_) (fun h_6 => ?_)
            ·
              have heq_j : cp = j := by omega
              subst heq_j
              refine x_vret C hK hlk hrt hQ hH0 hAA () ?_ [0, 1, 2, 3, 4, 5] (by decide) rfl (by first | decide | omega) (by first | decide | omega) dX2_begin_99
              first | rfl | (exact ⟨rfl, rfl⟩) | trivial | assumption | omega
            ·
              refine x_aload_n C dX2_begin_65 rfl 0 rfl ?_
              refine x_get C hK in_X2_begin_X2 0 rfl rfl 0 (by decide) (by decide +kernel) rfl rfl dX2_begin_66 ?_
              refine x_aload_n C dX2_begin_69 rfl 0 rfl ?_
              refine x_get C hK in_X2_begin_X2 0 rfl rfl 2 (by decide) (by decide +kernel) rfl rfl dX2_begin_70 ?_
              refine x_iload_n C dX2_begin_73 rfl 2 rfl ?_
              refine xn_iadd C dX2_begin_74 ?_
              refine x_aload_n C dX2_begin_75 rfl 1 rfl ?_
              refine x_iload_n C dX2_begin_76 rfl 2 rfl ?_
              refine x_calll (x_runVN C hK hNW (c_cl_endsUnder l D tys cI cJ hI hJ g ge gf cn cp ce cf j (by first | omega | assumption) (by first | omega | assumption) (by first | omega | assumption)) ⟨va_cnB 1 C.2.2.2.2 gX2_begin_X0_endsUnder_n43 rfl rfl rfl (hNW.at 11 rfl) (C.2.2.2.2 (.initialized RX0) (by decide +kernel)) (by decide +kernel) ⟨by decide, by decide⟩, C.2.2.2.2 (.instanceMethod yX0_endsUnder) (by decide +kernel), C.2.2.2.2 (.selects RX0 yX0_endsUnder yX0_endsUnder) (by decide +kernel)⟩ [3, 4, 5] rfl (by decide) 3 0 rfl rfl rfl (st := [.int (nI (cn + j)), .ref qe]) rfl rfl (Nat.le_of_ble_eq_true rfl) dX2_begin_77 ⟨by first | decide | omega, by first | decide | omega⟩) hA [3, 4, 5] rfl [0, 1, 2] [(h, OB 2 [.ref qe, .ref qp, .int (nI cn), .int (nI (cn + cp))]), (qe, AJ cJ 80 (bgE2 (bgE fe cn) ce cn j)), (qp, AJ cJ 80 (bgP2 (bgP fp ce cp cn) cn j))] rfl (by decide) (by decide) [0, 1, 2, 3, 4, 5] (by decide) (wf := (fun (u : Unit) => [(h, OB 2 [.ref qe, .ref qp, .int (nI cn), .int (nI (cn + cp))]), (qe, AJ cJ 80 (bgE2 (bgE fe cn) ce cn j)), (qp, AJ cJ 80 (bgP2 (bgP fp ce cp cn) cn j)), (g, OB 0 [.ref ge, .ref gf, .int (nI cn), .int (nI cp)]), (ge, AJ cJ 40 ce), (gf, AI cI 41 cf)])) (fun _ => rfl) (fun r_7 u h_8 => ?_)
              subst h_8
              refine x_last C hK 1 1 rfl hJ (by omega) (by omega) [(h, OB 2 [.ref qe, .ref qp, .int (nI cn), .int (nI (cn + cp))]), (qe, AJ cJ 80 (vp_updL (bgE2 (bgE fe cn) ce cn j) (cn + j) (allof (nI cn) &&& (ce j ^^^ (-1))))), (qp, AJ cJ 80 (bgP2 (bgP fp ce cp cn) cn j)), (g, OB 0 [.ref ge, .ref gf, .int (nI cn), .int (nI cp)]), (ge, AJ cJ 40 ce), (gf, AI cI 41 cf)] rfl dX2_begin_80 ?_
              refine x_aload_n C dX2_begin_81 rfl 0 rfl ?_
              refine x_get C hK in_X2_begin_X2 0 rfl rfl 1 (by decide) (by decide +kernel) rfl rfl dX2_begin_82 ?_
              refine x_aload_n C dX2_begin_85 rfl 0 rfl ?_
              refine x_get C hK in_X2_begin_X2 0 rfl rfl 2 (by decide) (by decide +kernel) rfl rfl dX2_begin_86 ?_
              refine x_iload_n C dX2_begin_89 rfl 2 rfl ?_
              refine xn_iadd C dX2_begin_90 ?_
              refine x_lconst C (0 : Int64) dX2_begin_91 rfl ?_
              refine x_last C hK 2 1 rfl hJ (by omega) (by omega) [(h, OB 2 [.ref qe, .ref qp, .int (nI cn), .int (nI (cn + cp))]), (qe, AJ cJ 80 (vp_updL (bgE2 (bgE fe cn) ce cn j) (cn + j) (allof (nI cn) &&& (ce j ^^^ (-1))))), (qp, AJ cJ 80 (vp_updL (bgP2 (bgP fp ce cp cn) cn j) (cn + j) (0 : Int64))), (g, OB 0 [.ref ge, .ref gf, .int (nI cn), .int (nI cp)]), (ge, AJ cJ 40 ce), (gf, AI cI 41 cf)] rfl dX2_begin_92 ?_
              refine xn_iinc C (j + 1) [(2, .int (nI (j + 1))), (0, .ref h), (1, .ref g)] dX2_begin_93 2 rfl (by rw [show Int32.ofInt 1 = nI 1 from by decide +kernel]; exact nI_add _ _) (by decide) rfl ?_
              refine x_goto C 57 dX2_begin_96 (by decide) ?_
              refine x_lv [(0, .ref h), (1, .ref g), (2, .int (nI (j + 1)))] [1, 2, 0] rfl ?_
              refine x_ws [(h, OB 2 [.ref qe, .ref qp, .int (nI cn), .int (nI (cn + cp))]), (qe, AJ cJ 80 (bgE2 (bgE fe cn) ce cn (j + 1))), (qp, AJ cJ 80 (bgP2 (bgP fp ce cp cn) cn (j + 1))), (g, OB 0 [.ref ge, .ref gf, .int (nI cn), .int (nI cp)]), (ge, AJ cJ 40 ce), (gf, AI cI 41 cf)] (by rw [bgE2_s, bgP2_s]) ?_
              exact ih_L2_4 (j + 1) (by first | assumption | omega) (by omega)
        refine x_lv [(0, .ref h), (1, .ref g), (2, .int (nI 0))] [1, 2, 0] rfl ?_
        refine x_ws [(h, OB 2 [.ref qe, .ref qp, .int (nI cn), .int (nI (cn + cp))]), (qe, AJ cJ 80 (bgE2 (bgE fe cn) ce cn 0)), (qp, AJ cJ 80 (bgP2 (bgP fp ce cp cn) cn 0)), (g, OB 0 [.ref ge, .ref gf, .int (nI cn), .int (nI cp)]), (ge, AJ cJ 40 ce), (gf, AI cI 41 cf)] (by rw [bgE2_0, bgP2_0]) ?_
        exact L2_4 (cp - 0 + 1) 0 (by first | assumption | omega) (Nat.lt_succ_self _)
      ·
        refine x_aload_n C dX2_begin_31 rfl 0 rfl ?_
        refine x_get C hK in_X2_begin_X2 0 rfl rfl 0 (by decide) (by decide +kernel) rfl rfl dX2_begin_32 ?_
        refine x_iload_n C dX2_begin_35 rfl 2 rfl ?_
        refine x_lconst C (0 : Int64) dX2_begin_36 rfl ?_
        refine x_last C hK 1 1 rfl hJ (by omega) (by omega) [(h, OB 2 [.ref qe, .ref qp, .int (nI cn), .int (nI (cn + cp))]), (qe, AJ cJ 80 (vp_updL (bgE fe i) i (0 : Int64))), (qp, AJ cJ 80 (bgP fp ce cp i)), (g, OB 0 [.ref ge, .ref gf, .int (nI cn), .int (nI cp)]), (ge, AJ cJ 40 ce), (gf, AI cI 41 cf)] rfl dX2_begin_37 ?_
        refine x_aload_n C dX2_begin_38 rfl 0 rfl ?_
        refine x_get C hK in_X2_begin_X2 0 rfl rfl 1 (by decide) (by decide +kernel) rfl rfl dX2_begin_39 ?_
        refine x_iload_n C dX2_begin_42 rfl 2 rfl ?_
        refine x_aload_n C dX2_begin_43 rfl 1 rfl ?_
        refine x_iload_n C dX2_begin_44 rfl 2 rfl ?_
        refine x_calll (x_runVN C hK hNW (c_cl_picksUnder l D tys cI cJ hI hJ g ge gf cn cp ce cf i (by first | omega | assumption) (by first | omega | assumption)) ⟨va_cnB 1 C.2.2.2.2 gX2_begin_X0_picksUnder_n39 rfl rfl rfl (hNW.at 10 rfl) (C.2.2.2.2 (.initialized RX0) (by decide +kernel)) (by decide +kernel) ⟨by decide, by decide⟩, C.2.2.2.2 (.instanceMethod yX0_picksUnder) (by decide +kernel), C.2.2.2.2 (.selects RX0 yX0_picksUnder yX0_picksUnder) (by decide +kernel)⟩ [3, 4, 5] rfl (by decide) 3 0 rfl rfl rfl (st := [.int (nI i), .ref qp]) rfl rfl (Nat.le_of_ble_eq_true rfl) dX2_begin_45 ⟨by first | decide | omega, by first | decide | omega⟩) hA [3, 4, 5] rfl [0, 1, 2] [(h, OB 2 [.ref qe, .ref qp, .int (nI cn), .int (nI (cn + cp))]), (qe, AJ cJ 80 (vp_updL (bgE fe i) i (0 : Int64))), (qp, AJ cJ 80 (bgP fp ce cp i))] rfl (by decide) (by decide) [0, 1, 2, 3, 4, 5] (by decide) (wf := (fun (u : Unit) => [(h, OB 2 [.ref qe, .ref qp, .int (nI cn), .int (nI (cn + cp))]), (qe, AJ cJ 80 (vp_updL (bgE fe i) i (0 : Int64))), (qp, AJ cJ 80 (bgP fp ce cp i)), (g, OB 0 [.ref ge, .ref gf, .int (nI cn), .int (nI cp)]), (ge, AJ cJ 40 ce), (gf, AI cI 41 cf)])) (fun _ => rfl) (fun r_9 u h_10 => ?_)
        subst h_10
        refine x_last C hK 2 1 rfl hJ (by omega) (by omega) [(h, OB 2 [.ref qe, .ref qp, .int (nI cn), .int (nI (cn + cp))]), (qe, AJ cJ 80 (vp_updL (bgE fe i) i (0 : Int64))), (qp, AJ cJ 80 (vp_updL (bgP fp ce cp i) i (mkB (fun y0 => hbit (ce y0) (nI i)) cp))), (g, OB 0 [.ref ge, .ref gf, .int (nI cn), .int (nI cp)]), (ge, AJ cJ 40 ce), (gf, AI cI 41 cf)] rfl dX2_begin_48 ?_
        refine xn_iinc C (i + 1) [(2, .int (nI (i + 1))), (0, .ref h), (1, .ref g)] dX2_begin_49 2 rfl (by rw [show Int32.ofInt 1 = nI 1 from by decide +kernel]; exact nI_add _ _) (by decide) rfl ?_
        refine x_goto C 23 dX2_begin_52 (by decide) ?_
        refine x_lv [(0, .ref h), (1, .ref g), (2, .int (nI (i + 1)))] [1, 2, 0] rfl ?_
        refine x_ws [(h, OB 2 [.ref qe, .ref qp, .int (nI cn), .int (nI (cn + cp))]), (qe, AJ cJ 80 (bgE fe (i + 1))), (qp, AJ cJ 80 (bgP fp ce cp (i + 1))), (g, OB 0 [.ref ge, .ref gf, .int (nI cn), .int (nI cp)]), (ge, AJ cJ 40 ce), (gf, AI cI 41 cf)] (by rw [bgE_s, bgP_s]) ?_
        exact ih_L1_1 (i + 1) (by first | assumption | omega) (by omega)
  refine x_lv [(0, .ref h), (1, .ref g), (2, .int (nI 0))] [1, 2, 0] rfl ?_
  refine x_ws [(h, OB 2 [.ref qe, .ref qp, .int (nI cn), .int (nI (cn + cp))]), (qe, AJ cJ 80 (bgE fe 0)), (qp, AJ cJ 80 (bgP fp ce cp 0)), (g, OB 0 [.ref ge, .ref gf, .int (nI cn), .int (nI cp)]), (ge, AJ cJ 40 ce), (gf, AI cI 41 cf)] (by rw [bgE_0, bgP_0]) ?_
  exact L1_1 (cn - 0 + 1) 0 (by first | assumption | omega) (Nat.lt_succ_self _)
abbrev rm_ld_follow : Room := { frames := 4, cells := 0, slots := 0, locals := 90 }
set_option maxRecDepth 100000 in
set_option maxHeartbeats 4000000 in
theorem c_ld_follow (l : Launch) (D : va_G) (tys : List (ClassId × FieldType)) (cI cJ : ClassId) (hI : tys[0]? = some (cI, .int)) (hJ : tys[1]? = some (cJ, .long)) (h : Nat) (qe : Nat) (qp : Nat) (fe : Nat → Int64) (fp : Nat → Int64) (g : Nat) (ge : Nat) (gf : Nat) (cn : Nat) (cp : Nat) (ce : Nat → Int64) (cf : Nat → Int32) (en0 : Int32) (th0 : Int32) (hcn : cn ≤ 40) (hcp : cp ≤ 40) : MV l yX2_follow wsX2_follow rm_ld_follow D tys [.ref h, .ref g] [(h, OB 2 [.ref qe, .ref qp, .int en0, .int th0]), (qe, AJ cJ 80 fe), (qp, AJ cJ 80 fp), (g, OB 0 [.ref ge, .ref gf, .int (nI cn), .int (nI cp)]), (ge, AJ cJ 40 ce), (gf, AI cI 41 cf)] Unit (fun (_ : Unit) => True) (fun (_ : Unit) => [(h, OB 2 [.ref qe, .ref qp, .int (nI cn), .int (nI (cn + cp))]), (qe, AJ cJ 80 ((foO cn (cn + cp) (bgE2 (bgE fe cn) ce cn cp) (bgP2 (bgP fp ce cp cn) cn cp) (cn + cp)).1)), (qp, AJ cJ 80 ((foO cn (cn + cp) (bgE2 (bgE fe cn) ce cn cp) (bgP2 (bgP fp ce cp cn) cn cp) (cn + cp)).2)), (g, OB 0 [.ref ge, .ref gf, .int (nI cn), .int (nI cp)]), (ge, AJ cJ 40 ce), (gf, AI cI 41 cf)]) 0 0 := by
  intro sz
  refine x_met (cc := cX2_follow) (maxL := 4) (ret := none) (by decide +kernel) rfl (by show _ ≤ _; simp [lg_sl, Value.category]) [(0, .ref h), (1, .ref g)] rfl ?_
  intro p e s m args below meth c Q A H0 C hK hNW hlk hrt hnm hQ hH0 hAA hA
  refine x_aload_n C dX2_follow_0 rfl 0 rfl ?_
  refine x_aload_n C dX2_follow_1 rfl 1 rfl ?_
  refine x_callv (x_runV C hK hNW (c_ld_begin l D tys cI cJ hI hJ h qe qp fe fp g ge gf cn cp ce cf en0 th0 (by first | omega | assumption) (by first | omega | assumption)) (cwV 1 C.2.2.2.2 gX2_follow_X2_begin rfl rfl rfl (by decide +kernel) ⟨by decide, by decide⟩) [0, 1, 2, 3, 4, 5] rfl (by decide) 0 2 rfl rfl rfl (st := []) rfl rfl (Nat.le_of_ble_eq_true rfl) dX2_follow_2 ⟨by first | decide | omega, by first | decide | omega⟩) hA [0, 1, 2, 3, 4, 5] rfl [] [] rfl (by decide) (by decide) [0, 1, 2, 3, 4, 5] (by decide) (wf := (fun (u : Unit) => [(h, OB 2 [.ref qe, .ref qp, .int (nI cn), .int (nI (cn + cp))]), (qe, AJ cJ 80 (bgE2 (bgE fe cn) ce cn cp)), (qp, AJ cJ 80 (bgP2 (bgP fp ce cp cn) cn cp)), (g, OB 0 [.ref ge, .ref gf, .int (nI cn), .int (nI cp)]), (ge, AJ cJ 40 ce), (gf, AI cI 41 cf)])) (fun _ => rfl) (fun u h_2 => ?_)
  refine x_iconst C (nI 0) dX2_follow_5 (by decide +kernel) ?_
  refine x_istore_n C [(2, .int (nI 0)), (0, .ref h), (1, .ref g)] dX2_follow_6 rfl (by decide) rfl ?_
  have LV_3 : ∀ (fuel : Nat) (v : Nat), (v ≤ cn + cp) → cn + cp - v < fuel → X_ p l e rm_ld_follow s m args below meth c Q D A H0 4 0 0 [(h, OB 2 [.ref qe, .ref qp, .int (nI cn), .int (nI (cn + cp))]), (qe, AJ cJ 80 ((foO cn (cn + cp) (bgE2 (bgE fe cn) ce cn cp) (bgP2 (bgP fp ce cp cn) cn cp) v).1)), (qp, AJ cJ 80 ((foO cn (cn + cp) (bgE2 (bgE fe cn) ce cn cp) (bgP2 (bgP fp ce cp cn) cn cp) v).2)), (g, OB 0 [.ref ge, .ref gf, .int (nI cn), .int (nI cp)]), (ge, AJ cJ 40 ce), (gf, AI cI 41 cf)] [(0, .ref h), (1, .ref g), (2, .int (nI v))] 7 [] := by
    intro fuel
    induction fuel with
    | zero =>
      intros
      exact absurd (by assumption) (Nat.not_lt_zero _)
    | succ fuel ih_LV_3 =>
      intro v hv hm_4
      refine x_iload_n C dX2_follow_7 rfl 2 rfl ?_
      refine x_aload_n C dX2_follow_8 rfl 0 rfl ?_
      refine x_get C hK in_X2_follow_X2 0 rfl rfl 3 (by decide) (by decide +kernel) rfl rfl dX2_follow_9 ?_
      refine xn_icmp_ge C 76 (by omega) (by omega) dX2_follow_12 (by decide) (fun h_5 => ?_) (fun h_5 => ?_)
      ·
        have heq_v : cn + cp = v := by omega
        subst heq_v
        refine x_vret C hK hlk hrt hQ hH0 hAA () ?_ [0, 1, 2, 3, 4, 5] (by decide) rfl (by first | decide | omega) (by first | decide | omega) dX2_follow_76
        first | rfl | (exact ⟨rfl, rfl⟩) | trivial | assumption | omega
      ·
        refine x_iconst C (nI 0) dX2_follow_15 (by decide +kernel) ?_
        refine x_istore_n C [(3, .int (nI 0)), (0, .ref h), (1, .ref g), (2, .int (nI v))] dX2_follow_16 rfl (by decide) rfl ?_
        have LW_6 : ∀ (fuel : Nat) (w : Nat), (w ≤ cn + cp) → cn + cp - w < fuel → X_ p l e rm_ld_follow s m args below meth c Q D A H0 4 0 0 [(h, OB 2 [.ref qe, .ref qp, .int (nI cn), .int (nI (cn + cp))]), (qe, AJ cJ 80 ((foI cn v (foO cn (cn + cp) (bgE2 (bgE fe cn) ce cn cp) (bgP2 (bgP fp ce cp cn) cn cp) v).1 (foO cn (cn + cp) (bgE2 (bgE fe cn) ce cn cp) (bgP2 (bgP fp ce cp cn) cn cp) v).2 w).1)), (qp, AJ cJ 80 ((foI cn v (foO cn (cn + cp) (bgE2 (bgE fe cn) ce cn cp) (bgP2 (bgP fp ce cp cn) cn cp) v).1 (foO cn (cn + cp) (bgE2 (bgE fe cn) ce cn cp) (bgP2 (bgP fp ce cp cn) cn cp) v).2 w).2)), (g, OB 0 [.ref ge, .ref gf, .int (nI cn), .int (nI cp)]), (ge, AJ cJ 40 ce), (gf, AI cI 41 cf)] [(0, .ref h), (1, .ref g), (2, .int (nI v)), (3, .int (nI w))] 17 [] := by
          intro fuel
          induction fuel with
          | zero =>
            intros
            exact absurd (by assumption) (Nat.not_lt_zero _)
          | succ fuel ih_LW_6 =>
            intro w hw hm_7
            refine x_iload_n C dX2_follow_17 rfl 3 rfl ?_
            refine x_aload_n C dX2_follow_18 rfl 0 rfl ?_
            refine x_get C hK in_X2_follow_X2 0 rfl rfl 3 (by decide) (by decide +kernel) rfl rfl dX2_follow_19 ?_
            refine xn_icmp_ge C 70 (by omega) (by omega) dX2_follow_22 (by decide) (fun h_8 => ?_) (fun h_8 => ?_)
            ·
              have heq_w : cn + cp = w := by omega
              subst heq_w
              refine xn_iinc C (v + 1) [(2, .int (nI (v + 1))), (0, .ref h), (1, .ref g), (3, .int (nI (cn + cp)))] dX2_follow_70 2 rfl (by rw [show Int32.ofInt 1 = nI 1 from by decide +kernel]; exact nI_add _ _) (by decide) rfl ?_
              refine x_goto C 7 dX2_follow_73 (by decide) ?_
              refine x_lv [(0, .ref h), (1, .ref g), (2, .int (nI (v + 1)))] [1, 2, 0] rfl ?_
              refine x_ws [(h, OB 2 [.ref qe, .ref qp, .int (nI cn), .int (nI (cn + cp))]), (qe, AJ cJ 80 ((foO cn (cn + cp) (bgE2 (bgE fe cn) ce cn cp) (bgP2 (bgP fp ce cp cn) cn cp) (v + 1)).1)), (qp, AJ cJ 80 ((foO cn (cn + cp) (bgE2 (bgE fe cn) ce cn cp) (bgP2 (bgP fp ce cp cn) cn cp) (v + 1)).2)), (g, OB 0 [.ref ge, .ref gf, .int (nI cn), .int (nI cp)]), (ge, AJ cJ 40 ce), (gf, AI cI 41 cf)] (by rfl) ?_
              exact ih_LV_3 (v + 1) (by first | assumption | omega) (by omega)
            ·
              refine x_aload_n C dX2_follow_25 rfl 0 rfl ?_
              refine x_iload_n C dX2_follow_26 rfl 3 rfl ?_
              refine x_iload_n C dX2_follow_27 rfl 2 rfl ?_
              refine x_calli (x_runV C hK hNW (c_ld_leads l D tys cI cJ hI hJ h qe qp cn (cn + cp) ((foI cn v (foO cn (cn + cp) (bgE2 (bgE fe cn) ce cn cp) (bgP2 (bgP fp ce cp cn) cn cp) v).1 (foO cn (cn + cp) (bgE2 (bgE fe cn) ce cn cp) (bgP2 (bgP fp ce cp cn) cn cp) v).2 w).1) ((foI cn v (foO cn (cn + cp) (bgE2 (bgE fe cn) ce cn cp) (bgP2 (bgP fp ce cp cn) cn cp) v).1 (foO cn (cn + cp) (bgE2 (bgE fe cn) ce cn cp) (bgP2 (bgP fp ce cp cn) cn cp) v).2 w).2) w v (by first | omega | assumption) (by first | omega | assumption) (by first | omega | assumption) (by first | omega | assumption)) (cwV 2 C.2.2.2.2 gX2_follow_X2_leads rfl rfl rfl (by decide +kernel) ⟨by decide, by decide⟩) [0, 1, 2] rfl (by decide) 0 2 rfl rfl rfl (st := []) rfl rfl (Nat.le_of_ble_eq_true rfl) dX2_follow_28 ⟨by first | decide | omega, by first | decide | omega⟩) hA [0, 1, 2] rfl [3, 4, 5] [(g, OB 0 [.ref ge, .ref gf, .int (nI cn), .int (nI cp)]), (ge, AJ cJ 40 ce), (gf, AI cI 41 cf)] rfl (by decide) (by decide) [3, 4, 5, 0, 1, 2] (by decide) (wf := (fun (u : Unit) => [(h, OB 2 [.ref qe, .ref qp, .int (nI cn), .int (nI (cn + cp))]), (qe, AJ cJ 80 ((foI cn v (foO cn (cn + cp) (bgE2 (bgE fe cn) ce cn cp) (bgP2 (bgP fp ce cp cn) cn cp) v).1 (foO cn (cn + cp) (bgE2 (bgE fe cn) ce cn cp) (bgP2 (bgP fp ce cp cn) cn cp) v).2 w).1)), (qp, AJ cJ 80 ((foI cn v (foO cn (cn + cp) (bgE2 (bgE fe cn) ce cn cp) (bgP2 (bgP fp ce cp cn) cn cp) v).1 (foO cn (cn + cp) (bgE2 (bgE fe cn) ce cn cp) (bgP2 (bgP fp ce cp cn) cn cp) v).2 w).2)), (g, OB 0 [.ref ge, .ref gf, .int (nI cn), .int (nI cp)]), (ge, AJ cJ 40 ce), (gf, AI cI 41 cf)])) (fun _ => rfl) (fun r_9 u h_10 => ?_)
              subst h_10
              refine x_if_eq C 64 dX2_follow_31 (by decide) (fun h_11 => ?_) (fun h_11 => ?_)
              ·
                refine xn_iinc C (w + 1) [(3, .int (nI (w + 1))), (0, .ref h), (1, .ref g), (2, .int (nI v))] dX2_follow_64 3 rfl (by rw [show Int32.ofInt 1 = nI 1 from by decide +kernel]; exact nI_add _ _) (by decide) rfl ?_
                refine x_goto C 17 dX2_follow_67 (by decide) ?_
                refine x_lv [(0, .ref h), (1, .ref g), (2, .int (nI v)), (3, .int (nI (w + 1)))] [1, 2, 3, 0] rfl ?_
                refine x_ws [(h, OB 2 [.ref qe, .ref qp, .int (nI cn), .int (nI (cn + cp))]), (qe, AJ cJ 80 ((foI cn v (foO cn (cn + cp) (bgE2 (bgE fe cn) ce cn cp) (bgP2 (bgP fp ce cp cn) cn cp) v).1 (foO cn (cn + cp) (bgE2 (bgE fe cn) ce cn cp) (bgP2 (bgP fp ce cp cn) cn cp) v).2 (w + 1)).1)), (qp, AJ cJ 80 ((foI cn v (foO cn (cn + cp) (bgE2 (bgE fe cn) ce cn cp) (bgP2 (bgP fp ce cp cn) cn cp) v).1 (foO cn (cn + cp) (bgE2 (bgE fe cn) ce cn cp) (bgP2 (bgP fp ce cp cn) cn cp) v).2 (w + 1)).2)), (g, OB 0 [.ref ge, .ref gf, .int (nI cn), .int (nI cp)]), (ge, AJ cJ 40 ce), (gf, AI cI 41 cf)] (by first | (rw [foI_y (bI_ne0 (by assumption))]; done) | (rw [foI_n (bI_eq0 (by assumption))]; done)) ?_
                exact ih_LW_6 (w + 1) (by first | assumption | omega) (by omega)
              ·
                refine x_aload_n C dX2_follow_34 rfl 0 rfl ?_
                refine x_get C hK in_X2_follow_X2 0 rfl rfl 0 (by decide) (by decide +kernel) rfl rfl dX2_follow_35 ?_
                refine x_iload_n C dX2_follow_38 rfl 3 rfl ?_
                refine x_dup2 C dX2_follow_39 rfl rfl ?_
                refine x_lald C hK 1 1 rfl hJ (by omega) (by omega) dX2_follow_40 ?_
                refine x_aload_n C dX2_follow_41 rfl 0 rfl ?_
                refine x_get C hK in_X2_follow_X2 0 rfl rfl 0 (by decide) (by decide +kernel) rfl rfl dX2_follow_42 ?_
                refine x_iload_n C dX2_follow_45 rfl 2 rfl ?_
                refine x_lald C hK 1 1 rfl hJ (by omega) (by omega) dX2_follow_46 ?_
                refine x_lor C _ dX2_follow_47 rfl ?_
                refine x_last C hK 1 1 rfl hJ (by omega) (by omega) [(h, OB 2 [.ref qe, .ref qp, .int (nI cn), .int (nI (cn + cp))]), (qe, AJ cJ 80 (vp_updL ((foI cn v (foO cn (cn + cp) (bgE2 (bgE fe cn) ce cn cp) (bgP2 (bgP fp ce cp cn) cn cp) v).1 (foO cn (cn + cp) (bgE2 (bgE fe cn) ce cn cp) (bgP2 (bgP fp ce cp cn) cn cp) v).2 w).1) w ((((foI cn v (foO cn (cn + cp) (bgE2 (bgE fe cn) ce cn cp) (bgP2 (bgP fp ce cp cn) cn cp) v).1 (foO cn (cn + cp) (bgE2 (bgE fe cn) ce cn cp) (bgP2 (bgP fp ce cp cn) cn cp) v).2 w).1) w) ||| (((foI cn v (foO cn (cn + cp) (bgE2 (bgE fe cn) ce cn cp) (bgP2 (bgP fp ce cp cn) cn cp) v).1 (foO cn (cn + cp) (bgE2 (bgE fe cn) ce cn cp) (bgP2 (bgP fp ce cp cn) cn cp) v).2 w).1) v)))), (qp, AJ cJ 80 ((foI cn v (foO cn (cn + cp) (bgE2 (bgE fe cn) ce cn cp) (bgP2 (bgP fp ce cp cn) cn cp) v).1 (foO cn (cn + cp) (bgE2 (bgE fe cn) ce cn cp) (bgP2 (bgP fp ce cp cn) cn cp) v).2 w).2)), (g, OB 0 [.ref ge, .ref gf, .int (nI cn), .int (nI cp)]), (ge, AJ cJ 40 ce), (gf, AI cI 41 cf)] rfl dX2_follow_48 ?_
                refine x_aload_n C dX2_follow_49 rfl 0 rfl ?_
                refine x_get C hK in_X2_follow_X2 0 rfl rfl 1 (by decide) (by decide +kernel) rfl rfl dX2_follow_50 ?_
                refine x_iload_n C dX2_follow_53 rfl 3 rfl ?_
                refine x_dup2 C dX2_follow_54 rfl rfl ?_
                refine x_lald C hK 2 1 rfl hJ (by omega) (by omega) dX2_follow_55 ?_
                refine x_aload_n C dX2_follow_56 rfl 0 rfl ?_
                refine x_get C hK in_X2_follow_X2 0 rfl rfl 1 (by decide) (by decide +kernel) rfl rfl dX2_follow_57 ?_
                refine x_iload_n C dX2_follow_60 rfl 2 rfl ?_
                refine x_lald C hK 2 1 rfl hJ (by omega) (by omega) dX2_follow_61 ?_
                refine x_lor C _ dX2_follow_62 rfl ?_
                refine x_last C hK 2 1 rfl hJ (by omega) (by omega) [(h, OB 2 [.ref qe, .ref qp, .int (nI cn), .int (nI (cn + cp))]), (qe, AJ cJ 80 (vp_updL ((foI cn v (foO cn (cn + cp) (bgE2 (bgE fe cn) ce cn cp) (bgP2 (bgP fp ce cp cn) cn cp) v).1 (foO cn (cn + cp) (bgE2 (bgE fe cn) ce cn cp) (bgP2 (bgP fp ce cp cn) cn cp) v).2 w).1) w ((((foI cn v (foO cn (cn + cp) (bgE2 (bgE fe cn) ce cn cp) (bgP2 (bgP fp ce cp cn) cn cp) v).1 (foO cn (cn + cp) (bgE2 (bgE fe cn) ce cn cp) (bgP2 (bgP fp ce cp cn) cn cp) v).2 w).1) w) ||| (((foI cn v (foO cn (cn + cp) (bgE2 (bgE fe cn) ce cn cp) (bgP2 (bgP fp ce cp cn) cn cp) v).1 (foO cn (cn + cp) (bgE2 (bgE fe cn) ce cn cp) (bgP2 (bgP fp ce cp cn) cn cp) v).2 w).1) v)))), (qp, AJ cJ 80 (vp_updL ((foI cn v (foO cn (cn + cp) (bgE2 (bgE fe cn) ce cn cp) (bgP2 (bgP fp ce cp cn) cn cp) v).1 (foO cn (cn + cp) (bgE2 (bgE fe cn) ce cn cp) (bgP2 (bgP fp ce cp cn) cn cp) v).2 w).2) w ((((foI cn v (foO cn (cn + cp) (bgE2 (bgE fe cn) ce cn cp) (bgP2 (bgP fp ce cp cn) cn cp) v).1 (foO cn (cn + cp) (bgE2 (bgE fe cn) ce cn cp) (bgP2 (bgP fp ce cp cn) cn cp) v).2 w).2) w) ||| (((foI cn v (foO cn (cn + cp) (bgE2 (bgE fe cn) ce cn cp) (bgP2 (bgP fp ce cp cn) cn cp) v).1 (foO cn (cn + cp) (bgE2 (bgE fe cn) ce cn cp) (bgP2 (bgP fp ce cp cn) cn cp) v).2 w).2) v)))), (g, OB 0 [.ref ge, .ref gf, .int (nI cn), .int (nI cp)]), (ge, AJ cJ 40 ce), (gf, AI cI 41 cf)] rfl dX2_follow_63 ?_
                refine xn_iinc C (w + 1) [(3, .int (nI (w + 1))), (0, .ref h), (1, .ref g), (2, .int (nI v))] dX2_follow_64 3 rfl (by rw [show Int32.ofInt 1 = nI 1 from by decide +kernel]; exact nI_add _ _) (by decide) rfl ?_
                refine x_goto C 17 dX2_follow_67 (by decide) ?_
                refine x_lv [(0, .ref h), (1, .ref g), (2, .int (nI v)), (3, .int (nI (w + 1)))] [1, 2, 3, 0] rfl ?_
                refine x_ws [(h, OB 2 [.ref qe, .ref qp, .int (nI cn), .int (nI (cn + cp))]), (qe, AJ cJ 80 ((foI cn v (foO cn (cn + cp) (bgE2 (bgE fe cn) ce cn cp) (bgP2 (bgP fp ce cp cn) cn cp) v).1 (foO cn (cn + cp) (bgE2 (bgE fe cn) ce cn cp) (bgP2 (bgP fp ce cp cn) cn cp) v).2 (w + 1)).1)), (qp, AJ cJ 80 ((foI cn v (foO cn (cn + cp) (bgE2 (bgE fe cn) ce cn cp) (bgP2 (bgP fp ce cp cn) cn cp) v).1 (foO cn (cn + cp) (bgE2 (bgE fe cn) ce cn cp) (bgP2 (bgP fp ce cp cn) cn cp) v).2 (w + 1)).2)), (g, OB 0 [.ref ge, .ref gf, .int (nI cn), .int (nI cp)]), (ge, AJ cJ 40 ce), (gf, AI cI 41 cf)] (by first | (rw [foI_y (bI_ne0 (by assumption))]; done) | (rw [foI_n (bI_eq0 (by assumption))]; done)) ?_
                exact ih_LW_6 (w + 1) (by first | assumption | omega) (by omega)
        refine x_lv [(0, .ref h), (1, .ref g), (2, .int (nI v)), (3, .int (nI 0))] [1, 2, 3, 0] rfl ?_
        refine x_ws [(h, OB 2 [.ref qe, .ref qp, .int (nI cn), .int (nI (cn + cp))]), (qe, AJ cJ 80 ((foI cn v (foO cn (cn + cp) (bgE2 (bgE fe cn) ce cn cp) (bgP2 (bgP fp ce cp cn) cn cp) v).1 (foO cn (cn + cp) (bgE2 (bgE fe cn) ce cn cp) (bgP2 (bgP fp ce cp cn) cn cp) v).2 0).1)), (qp, AJ cJ 80 ((foI cn v (foO cn (cn + cp) (bgE2 (bgE fe cn) ce cn cp) (bgP2 (bgP fp ce cp cn) cn cp) v).1 (foO cn (cn + cp) (bgE2 (bgE fe cn) ce cn cp) (bgP2 (bgP fp ce cp cn) cn cp) v).2 0).2)), (g, OB 0 [.ref ge, .ref gf, .int (nI cn), .int (nI cp)]), (ge, AJ cJ 40 ce), (gf, AI cI 41 cf)] (by rfl) ?_
        exact LW_6 (cn + cp - 0 + 1) 0 (by first | assumption | omega) (Nat.lt_succ_self _)
  refine x_lv [(0, .ref h), (1, .ref g), (2, .int (nI 0))] [1, 2, 0] rfl ?_
  refine x_ws [(h, OB 2 [.ref qe, .ref qp, .int (nI cn), .int (nI (cn + cp))]), (qe, AJ cJ 80 ((foO cn (cn + cp) (bgE2 (bgE fe cn) ce cn cp) (bgP2 (bgP fp ce cp cn) cn cp) 0).1)), (qp, AJ cJ 80 ((foO cn (cn + cp) (bgE2 (bgE fe cn) ce cn cp) (bgP2 (bgP fp ce cp cn) cn cp) 0).2)), (g, OB 0 [.ref ge, .ref gf, .int (nI cn), .int (nI cp)]), (ge, AJ cJ 40 ce), (gf, AI cI 41 cf)] (by rfl) ?_
  exact LV_3 (cn + cp - 0 + 1) 0 (by first | assumption | omega) (Nat.lt_succ_self _)
