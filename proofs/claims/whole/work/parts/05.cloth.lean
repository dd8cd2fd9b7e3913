/-! the JDK methods, Cloth -/
theorem in_X0_init_X0 : ∀ w ∈ wsX00, w ∈ wsX0_init := by decide +kernel
theorem in_X0_isUp_X0 : ∀ w ∈ wsX00, w ∈ wsX0_isUp := by decide +kernel
theorem in_X0_placesWithEndUp_X0 : ∀ w ∈ wsX00, w ∈ wsX0_placesWithEndUp := by decide +kernel
theorem in_X0_picksUnder_X0 : ∀ w ∈ wsX00, w ∈ wsX0_picksUnder := by decide +kernel
theorem in_X0_endsUnder_X0 : ∀ w ∈ wsX00, w ∈ wsX0_endsUnder := by decide +kernel
theorem in_X0_countFloats_X0 : ∀ w ∈ wsX00, w ∈ wsX0_countFloats := by decide +kernel
abbrev rm_fill : Room := { frames := 0, cells := 0, slots := 0, locals := 0 }
set_option maxRecDepth 100000 in
set_option maxHeartbeats 4000000 in
theorem c_fill (l : Launch) (D : va_G) (tys : List (ClassId × FieldType)) (cI cJ : ClassId) (hI : tys[0]? = some (cI, .int)) (hJ : tys[1]? = some (cJ, .long)) (a : Nat) (n : Nat) (f : Nat → Int32) (v : Int32) (hn : n < 2 ^ 30) : MV l yJ7_fill_53178 wsJ7_fill_53178 rm_fill D tys [.ref a, .int v] [(a, AI cI n f)] Unit (fun (_ : Unit) => True) (fun (_ : Unit) => [(a, AI cI n (flF f v n))]) 0 0 := by
  intro sz
  refine x_met (cc := cJ7_fill_53178) (maxL := 4) (ret := none) (by decide +kernel) rfl (by show _ ≤ _; simp [lg_sl, Value.category]) [(0, .ref a), (1, .int v)] rfl ?_
  intro p e s m args below meth c Q A H0 C hK hNW hlk hrt hnm hQ hH0 hAA hA
  refine x_iconst C (nI 0) dJ7_fill_53178_0 (by decide +kernel) ?_
  refine x_istore_n C [(2, .int (nI 0)), (0, .ref a), (1, .int v)] dJ7_fill_53178_1 rfl (by decide) rfl ?_
  refine x_aload_n C dJ7_fill_53178_2 rfl 1 rfl ?_
  refine x_alen C hK 0 0 rfl hI dJ7_fill_53178_3 ?_
  refine x_istore_n C [(3, .int (nI n)), (2, .int (nI 0)), (0, .ref a), (1, .int v)] dJ7_fill_53178_4 rfl (by decide) rfl ?_
  have K_1 : ∀ (fuel : Nat) (i : Nat), (i ≤ n) → n - i < fuel → X_ p l e rm_fill s m args below meth c Q D A H0 4 0 0 [(a, AI cI n (flF f v i))] [(0, .ref a), (1, .int v), (2, .int (nI i)), (3, .int (nI n))] 5 [] := by
    intro fuel
    induction fuel with
    | zero =>
      intros
      exact absurd (by assumption) (Nat.not_lt_zero _)
    | succ fuel ih_K_1 =>
      intro i hi hm_2
      refine x_iload_n C dJ7_fill_53178_5 rfl 2 rfl ?_
      refine x_iload_n C dJ7_fill_53178_6 rfl 3 rfl ?_
      refine xn_icmp_ge C 20 (by omega) (by omega) dJ7_fill_53178_7 (by decide) (fun h_3 => ?_) (fun h_3 => ?_)
      ·
        have heq_i : n = i := by omega
        subst heq_i
        refine x_vret C hK hlk hrt hQ hH0 hAA () ?_ [0] (by decide) rfl (by first | decide | omega) (by first | decide | omega) dJ7_fill_53178_20
        first | rfl | (exact ⟨rfl, rfl⟩) | trivial | assumption | omega
      ·
        refine x_aload_n C dJ7_fill_53178_10 rfl 0 rfl ?_
        refine x_iload_n C dJ7_fill_53178_11 rfl 2 rfl ?_
        refine x_iload_n C dJ7_fill_53178_12 rfl 1 rfl ?_
        refine x_iast C hK 0 0 rfl hI (by omega) (by omega) [(a, AI cI n (upd (flF f v i) i v))] rfl dJ7_fill_53178_13 ?_
        refine xn_iinc C (i + 1) [(2, .int (nI (i + 1))), (0, .ref a), (1, .int v), (3, .int (nI n))] dJ7_fill_53178_14 2 rfl (by rw [show Int32.ofInt 1 = nI 1 from by decide +kernel]; exact nI_add _ _) (by decide) rfl ?_
        refine x_goto C 5 dJ7_fill_53178_17 (by decide) ?_
        refine x_lv [(0, .ref a), (1, .int v), (2, .int (nI (i + 1))), (3, .int (nI n))] [1, 2, 0, 3] rfl ?_
        refine x_ws [(a, AI cI n (flF f v (i + 1)))] (by rw [flF_s]) ?_
        exact ih_K_1 (i + 1) (by first | assumption | omega) (by omega)
  refine x_lv [(0, .ref a), (1, .int v), (2, .int (nI 0)), (3, .int (nI n))] [2, 3, 1, 0] rfl ?_
  refine x_ws [(a, AI cI n (flF f v 0))] (by rw [flF_0]) ?_
  exact K_1 (n - 0 + 1) 0 (by first | assumption | omega) (Nat.lt_succ_self _)
abbrev rm_bit32 : Room := { frames := 0, cells := 0, slots := 0, locals := 0 }
set_option maxRecDepth 100000 in
set_option maxHeartbeats 4000000 in
theorem c_bit32 (l : Launch) (D : va_G) (tys : List (ClassId × FieldType)) (cI cJ : ClassId) (hI : tys[0]? = some (cI, .int)) (hJ : tys[1]? = some (cJ, .long)) (x : Int32)  : MI l yJ6_bitCount_0f7a4 wsJ6_bitCount_0f7a4 rm_bit32 D tys [.int x] [] Unit (fun r (_ : Unit) => r = bc32 x) (fun (_ : Unit) => []) 0 0 := by
  intro sz
  refine x_met (cc := cJ6_bitCount_0f7a4) (maxL := 1) (ret := (some .int)) (by decide +kernel) rfl (by show _ ≤ _; simp [lg_sl, Value.category]) [(0, .int x)] rfl ?_
  intro p e s m args below meth c Q A H0 C hK hNW hlk hrt hnm hQ hH0 hAA hA
  refine x_iload_n C dJ6_bitCount_0f7a4_0 rfl 0 rfl ?_
  refine x_iload_n C dJ6_bitCount_0f7a4_1 rfl 0 rfl ?_
  refine x_iconst C (nI 1) dJ6_bitCount_0f7a4_2 (by decide +kernel) ?_
  refine x_iushr C _ dJ6_bitCount_0f7a4_3 rfl ?_
  refine x_ldcw C (1431655765) (by decide +kernel) dJ6_bitCount_0f7a4_4 ?_
  refine x_iand C _ dJ6_bitCount_0f7a4_7 rfl ?_
  refine x_isub C _ dJ6_bitCount_0f7a4_8 rfl ?_
  refine x_topi (bcA x) (by rfl) ?_
  refine x_istore_n C [(0, .int (bcA x))] dJ6_bitCount_0f7a4_9 rfl (by decide) rfl ?_
  refine x_iload_n C dJ6_bitCount_0f7a4_10 rfl 0 rfl ?_
  refine x_ldcw C (858993459) (by decide +kernel) dJ6_bitCount_0f7a4_11 ?_
  refine x_iand C _ dJ6_bitCount_0f7a4_14 rfl ?_
  refine x_iload_n C dJ6_bitCount_0f7a4_15 rfl 0 rfl ?_
  refine x_iconst C (nI 2) dJ6_bitCount_0f7a4_16 (by decide +kernel) ?_
  refine x_iushr C _ dJ6_bitCount_0f7a4_17 rfl ?_
  refine x_ldcw C (858993459) (by decide +kernel) dJ6_bitCount_0f7a4_18 ?_
  refine x_iand C _ dJ6_bitCount_0f7a4_21 rfl ?_
  refine x_iadd C _ dJ6_bitCount_0f7a4_22 rfl ?_
  refine x_topi (bcB (bcA x)) (by rfl) ?_
  refine x_istore_n C [(0, .int (bcB (bcA x)))] dJ6_bitCount_0f7a4_23 rfl (by decide) rfl ?_
  refine x_iload_n C dJ6_bitCount_0f7a4_24 rfl 0 rfl ?_
  refine x_iload_n C dJ6_bitCount_0f7a4_25 rfl 0 rfl ?_
  refine x_iconst C (nI 4) dJ6_bitCount_0f7a4_26 (by decide +kernel) ?_
  refine x_iushr C _ dJ6_bitCount_0f7a4_27 rfl ?_
  refine x_iadd C _ dJ6_bitCount_0f7a4_28 rfl ?_
  refine x_ldcw C (252645135) (by decide +kernel) dJ6_bitCount_0f7a4_29 ?_
  refine x_iand C _ dJ6_bitCount_0f7a4_32 rfl ?_
  refine x_topi (bcC (bcB (bcA x))) (by rfl) ?_
  refine x_istore_n C [(0, .int (bcC (bcB (bcA x))))] dJ6_bitCount_0f7a4_33 rfl (by decide) rfl ?_
  refine x_iload_n C dJ6_bitCount_0f7a4_34 rfl 0 rfl ?_
  refine x_iload_n C dJ6_bitCount_0f7a4_35 rfl 0 rfl ?_
  refine x_bipush C (nI 8) dJ6_bitCount_0f7a4_36 (by decide +kernel) ?_
  refine x_iushr C _ dJ6_bitCount_0f7a4_38 rfl ?_
  refine x_iadd C _ dJ6_bitCount_0f7a4_39 rfl ?_
  refine x_istore_n C [(0, .int ((bcC (bcB (bcA x))) + (((bcC (bcB (bcA x))).toUInt32 >>> ((nI 8).toUInt32 &&& Int32.toUInt32 31)).toInt32)))] dJ6_bitCount_0f7a4_40 rfl (by decide) rfl ?_
  refine x_iload_n C dJ6_bitCount_0f7a4_41 rfl 0 rfl ?_
  refine x_iload_n C dJ6_bitCount_0f7a4_42 rfl 0 rfl ?_
  refine x_bipush C (nI 16) dJ6_bitCount_0f7a4_43 (by decide +kernel) ?_
  refine x_iushr C _ dJ6_bitCount_0f7a4_45 rfl ?_
  refine x_iadd C _ dJ6_bitCount_0f7a4_46 rfl ?_
  refine x_istore_n C [(0, .int (((bcC (bcB (bcA x))) + (((bcC (bcB (bcA x))).toUInt32 >>> ((nI 8).toUInt32 &&& Int32.toUInt32 31)).toInt32)) + ((((bcC (bcB (bcA x))) + (((bcC (bcB (bcA x))).toUInt32 >>> ((nI 8).toUInt32 &&& Int32.toUInt32 31)).toInt32)).toUInt32 >>> ((nI 16).toUInt32 &&& Int32.toUInt32 31)).toInt32)))] dJ6_bitCount_0f7a4_47 rfl (by decide) rfl ?_
  refine x_iload_n C dJ6_bitCount_0f7a4_48 rfl 0 rfl ?_
  refine x_bipush C (nI 63) dJ6_bitCount_0f7a4_49 (by decide +kernel) ?_
  refine x_iand C _ dJ6_bitCount_0f7a4_51 rfl ?_
  refine x_iret C hK hlk hrt hQ hH0 hAA () ?_ [] (by decide) rfl (by first | decide | omega) (by first | decide | omega) dJ6_bitCount_0f7a4_52
  first | rfl | (exact ⟨rfl, rfl⟩) | trivial | assumption | omega
abbrev rm_bit64 : Room := { frames := 0, cells := 0, slots := 0, locals := 0 }
set_option maxRecDepth 100000 in
set_option maxHeartbeats 4000000 in
theorem c_bit64 (l : Launch) (D : va_G) (tys : List (ClassId × FieldType)) (cI cJ : ClassId) (hI : tys[0]? = some (cI, .int)) (hJ : tys[1]? = some (cJ, .long)) (x : Int64)  : MI l yJ13_bitCount_95d88 wsJ13_bitCount_95d88 rm_bit64 D tys [.long x] [] Unit (fun r (_ : Unit) => r = bc64 x) (fun (_ : Unit) => []) 0 0 := by
  intro sz
  refine x_met (cc := cJ13_bitCount_95d88) (maxL := 2) (ret := (some .int)) (by decide +kernel) rfl (by show _ ≤ _; simp [lg_sl, Value.category]) [(0, .long x)] rfl ?_
  intro p e s m args below meth c Q A H0 C hK hNW hlk hrt hnm hQ hH0 hAA hA
  refine x_lload_n C dJ13_bitCount_95d88_0 rfl 0 rfl ?_
  refine x_lload_n C dJ13_bitCount_95d88_1 rfl 0 rfl ?_
  refine x_iconst C (nI 1) dJ13_bitCount_95d88_2 (by decide +kernel) ?_
  refine x_lushr C _ dJ13_bitCount_95d88_3 rfl ?_
  refine x_ldc2 C (6148914691236517205) (by decide +kernel) dJ13_bitCount_95d88_4 ?_
  refine x_land C _ dJ13_bitCount_95d88_7 rfl ?_
  refine x_lsub C _ dJ13_bitCount_95d88_8 rfl ?_
  refine x_topl (blA x) (by rfl) ?_
  refine x_lstore_n C [(0, .long (blA x))] dJ13_bitCount_95d88_9 rfl (by decide) rfl ?_
  refine x_lload_n C dJ13_bitCount_95d88_10 rfl 0 rfl ?_
  refine x_ldc2 C (3689348814741910323) (by decide +kernel) dJ13_bitCount_95d88_11 ?_
  refine x_land C _ dJ13_bitCount_95d88_14 rfl ?_
  refine x_lload_n C dJ13_bitCount_95d88_15 rfl 0 rfl ?_
  refine x_iconst C (nI 2) dJ13_bitCount_95d88_16 (by decide +kernel) ?_
  refine x_lushr C _ dJ13_bitCount_95d88_17 rfl ?_
  refine x_ldc2 C (3689348814741910323) (by decide +kernel) dJ13_bitCount_95d88_18 ?_
  refine x_land C _ dJ13_bitCount_95d88_21 rfl ?_
  refine x_ladd C _ dJ13_bitCount_95d88_22 rfl ?_
  refine x_topl (blB (blA x)) (by rfl) ?_
  refine x_lstore_n C [(0, .long (blB (blA x)))] dJ13_bitCount_95d88_23 rfl (by decide) rfl ?_
  refine x_lload_n C dJ13_bitCount_95d88_24 rfl 0 rfl ?_
  refine x_lload_n C dJ13_bitCount_95d88_25 rfl 0 rfl ?_
  refine x_iconst C (nI 4) dJ13_bitCount_95d88_26 (by decide +kernel) ?_
  refine x_lushr C _ dJ13_bitCount_95d88_27 rfl ?_
  refine x_ladd C _ dJ13_bitCount_95d88_28 rfl ?_
  refine x_ldc2 C (1085102592571150095) (by decide +kernel) dJ13_bitCount_95d88_29 ?_
  refine x_land C _ dJ13_bitCount_95d88_32 rfl ?_
  refine x_topl (blC (blB (blA x))) (by rfl) ?_
  refine x_lstore_n C [(0, .long (blC (blB (blA x))))] dJ13_bitCount_95d88_33 rfl (by decide) rfl ?_
  refine x_lload_n C dJ13_bitCount_95d88_34 rfl 0 rfl ?_
  refine x_lload_n C dJ13_bitCount_95d88_35 rfl 0 rfl ?_
  refine x_bipush C (nI 8) dJ13_bitCount_95d88_36 (by decide +kernel) ?_
  refine x_lushr C _ dJ13_bitCount_95d88_38 rfl ?_
  refine x_ladd C _ dJ13_bitCount_95d88_39 rfl ?_
  refine x_topl (blD (blC (blB (blA x)))) (by rfl) ?_
  refine x_lstore_n C [(0, .long (blD (blC (blB (blA x)))))] dJ13_bitCount_95d88_40 rfl (by decide) rfl ?_
  refine x_lload_n C dJ13_bitCount_95d88_41 rfl 0 rfl ?_
  refine x_lload_n C dJ13_bitCount_95d88_42 rfl 0 rfl ?_
  refine x_bipush C (nI 16) dJ13_bitCount_95d88_43 (by decide +kernel) ?_
  refine x_lushr C _ dJ13_bitCount_95d88_45 rfl ?_
  refine x_ladd C _ dJ13_bitCount_95d88_46 rfl ?_
  refine x_topl (blE (blD (blC (blB (blA x))))) (by rfl) ?_
  refine x_lstore_n C [(0, .long (blE (blD (blC (blB (blA x))))))] dJ13_bitCount_95d88_47 rfl (by decide) rfl ?_
  refine x_lload_n C dJ13_bitCount_95d88_48 rfl 0 rfl ?_
  refine x_lload_n C dJ13_bitCount_95d88_49 rfl 0 rfl ?_
  refine x_bipush C (nI 32) dJ13_bitCount_95d88_50 (by decide +kernel) ?_
  refine x_lushr C _ dJ13_bitCount_95d88_52 rfl ?_
  refine x_ladd C _ dJ13_bitCount_95d88_53 rfl ?_
  refine x_lstore_n C [(0, .long ((blE (blD (blC (blB (blA x))))) + (((blE (blD (blC (blB (blA x))))).toUInt64 >>> ((nI 32).toInt64.toUInt64 &&& Int64.toUInt64 63)).toInt64)))] dJ13_bitCount_95d88_54 rfl (by decide) rfl ?_
  refine x_lload_n C dJ13_bitCount_95d88_55 rfl 0 rfl ?_
  refine x_l2i C _ dJ13_bitCount_95d88_56 rfl ?_
  refine x_bipush C (nI 127) dJ13_bitCount_95d88_57 (by decide +kernel) ?_
  refine x_iand C _ dJ13_bitCount_95d88_59 rfl ?_
  refine x_iret C hK hlk hrt hQ hH0 hAA () ?_ [] (by decide) rfl (by first | decide | omega) (by first | decide | omega) dJ13_bitCount_95d88_60
  first | rfl | (exact ⟨rfl, rfl⟩) | trivial | assumption | omega
abbrev rm_cl_init : Room := { frames := 1, cells := 2, slots := 81, locals := 12 }
set_option maxRecDepth 100000 in
set_option maxHeartbeats 4000000 in
theorem c_cl_init (l : Launch) (D : va_G) (tys : List (ClassId × FieldType)) (cI cJ : ClassId) (hI : tys[0]? = some (cI, .int)) (hJ : tys[1]? = some (cJ, .long)) (h : Nat)  : MV l yX0_init wsX0_init rm_cl_init D tys [.ref h] [(h, OB 0 [.null, .null, .int 0, .int 0])] (Nat × Nat) (fun (u : Nat × Nat) => True) (fun (u : Nat × Nat) => [(h, OB 0 [.ref u.1, .ref u.2, .int 0, .int 0]), (u.1, AJ cJ 40 (fun _ => 0)), (u.2, AI cI 41 (fun _ => 0))]) 2 81 := by
  intro sz
  refine x_met (cc := cX0_init) (maxL := 1) (ret := none) (by decide +kernel) rfl (by show _ ≤ _; simp [lg_sl, Value.category]) [(0, .ref h)] rfl ?_
  intro p e s m args below meth c Q A H0 C hK hNW hlk hrt hnm hQ hH0 hAA hA
  refine x_aload_n C dX0_init_0 rfl 0 rfl ?_
  refine x_objInit C (by decide +kernel) (by decide +kernel) (by decide +kernel) dX0_init_1 (by decide) (by decide) ?_
  refine x_aload_n C dX0_init_4 rfl 0 rfl ?_
  refine x_bipush C (nI 40) dX0_init_5 (by decide +kernel) ?_
  refine x_new_long C hK hA (by decide +kernel) 1 hJ (by omega) (by first | decide | omega) (by first | decide | omega) dX0_init_7 (fun q_1 => ?_)
  refine x_putF C hK in_X0_init_X0 tyX0 tyX0_ok nmX0 0 rfl rfl 0 (by decide) (by decide +kernel) rfl rfl hnm rfl (tyX0_ok 0 (by decide)) rfl rfl (Nat.le_of_ble_eq_true rfl) [(h, OB 0 [.ref q_1, .null, .int 0, .int 0]), (q_1, AJ cJ 40 (fun _ => 0))] rfl dX0_init_9 ?_
  refine x_aload_n C dX0_init_12 rfl 0 rfl ?_
  refine x_bipush C (nI 41) dX0_init_13 (by decide +kernel) ?_
  refine x_new_int C hK hA (by decide +kernel) 0 hI (by omega) (by first | decide | omega) (by first | decide | omega) dX0_init_15 (fun q_2 => ?_)
  refine x_putF C hK in_X0_init_X0 tyX0 tyX0_ok nmX0 0 rfl rfl 1 (by decide) (by decide +kernel) rfl rfl hnm rfl (tyX0_ok 1 (by decide)) rfl rfl (Nat.le_of_ble_eq_true rfl) [(h, OB 0 [.ref q_1, .ref q_2, .int 0, .int 0]), (q_1, AJ cJ 40 (fun _ => 0)), (q_2, AI cI 41 (fun _ => 0))] rfl dX0_init_17 ?_
  refine x_vret C hK hlk hrt hQ hH0 hAA (q_1, q_2) ?_ [0, 1, 2] (by decide) rfl (by first | decide | omega) (by first | decide | omega) dX0_init_20
  trivial
abbrev rm_cl_isUp : Room := { frames := 1, cells := 0, slots := 0, locals := 22 }
set_option maxRecDepth 100000 in
set_option maxHeartbeats 4000000 in
theorem c_cl_isUp (l : Launch) (D : va_G) (tys : List (ClassId × FieldType)) (cI cJ : ClassId) (hI : tys[0]? = some (cI, .int)) (hJ : tys[1]? = some (cJ, .long)) (h : Nat) (qe : Nat) (qf : Nat) (en : Nat) (pn : Nat) (fe : Nat → Int64) (ff : Nat → Int32) (pk : Nat) (e0 : Nat) (he : en ≤ 40) (hp : pn ≤ 40) (hk : pk < 40) : MI l yX0_isUp wsX0_isUp rm_cl_isUp D tys [.ref h, .int (nI pk), .int (nI e0)] [(h, OB 0 [.ref qe, .ref qf, .int (nI en), .int (nI pn)]), (qe, AJ cJ 40 fe), (qf, AI cI 41 ff)] Unit (fun r (_ : Unit) => r = bI (hbit (fe pk) (nI e0))) (fun (_ : Unit) => [(h, OB 0 [.ref qe, .ref qf, .int (nI en), .int (nI pn)]), (qe, AJ cJ 40 fe), (qf, AI cI 41 ff)]) 0 0 := by
  intro sz
  refine x_met (cc := cX0_isUp) (maxL := 3) (ret := (some .boolean)) (by decide +kernel) rfl (by show _ ≤ _; simp [lg_sl, Value.category]) [(0, .ref h), (1, .int (nI pk)), (2, .int (nI e0))] rfl ?_
  intro p e s m args below meth c Q A H0 C hK hNW hlk hrt hnm hQ hH0 hAA hA
  refine x_aload_n C dX0_isUp_0 rfl 0 rfl ?_
  refine x_get C hK in_X0_isUp_X0 0 rfl rfl 0 (by decide) (by decide +kernel) rfl rfl dX0_isUp_1 ?_
  refine x_iload_n C dX0_isUp_4 rfl 1 rfl ?_
  refine x_lald C hK 1 1 rfl hJ (by omega) (by omega) dX0_isUp_5 ?_
  refine x_iload_n C dX0_isUp_6 rfl 2 rfl ?_
  refine x_calli (x_runSN C hK hNW (c_hasBit l D tys cI cJ hI hJ (fe pk) (nI e0) ) ⟨va_cnB 2 C.2.2.2.2 gX0_isUp_X4_hasBit_n36 rfl rfl rfl (hNW.at 6 rfl) (C.2.2.2.2 (.initialized RX4) (by decide +kernel)) (by decide +kernel) ⟨by decide, by decide⟩, C.2.2.2.2 (.static yX4_hasBit) (by decide +kernel), trivial⟩ [] rfl (by decide) (st := []) rfl rfl (Nat.le_of_ble_eq_true rfl) dX0_isUp_7 ⟨by first | decide | omega, by first | decide | omega⟩) hA [] rfl [0, 1, 2] [(h, OB 0 [.ref qe, .ref qf, .int (nI en), .int (nI pn)]), (qe, AJ cJ 40 fe), (qf, AI cI 41 ff)] rfl (by decide) (by decide) [0, 1, 2] (by decide) (wf := (fun (u : Unit) => [(h, OB 0 [.ref qe, .ref qf, .int (nI en), .int (nI pn)]), (qe, AJ cJ 40 fe), (qf, AI cI 41 ff)])) (fun _ => rfl) (fun r_1 u h_2 => ?_)
  subst h_2
  refine x_zret C hK hlk hrt hQ hH0 hAA () (by exact bI_01 _) ?_ [0, 1, 2] (by decide) rfl (by first | decide | omega) (by first | decide | omega) dX0_isUp_10
  first | rfl | (exact ⟨rfl, rfl⟩) | trivial | assumption | omega
abbrev rm_cl_places : Room := { frames := 1, cells := 0, slots := 0, locals := 21 }
set_option maxRecDepth 100000 in
set_option maxHeartbeats 4000000 in
theorem c_cl_places (l : Launch) (D : va_G) (tys : List (ClassId × FieldType)) (cI cJ : ClassId) (hI : tys[0]? = some (cI, .int)) (hJ : tys[1]? = some (cJ, .long)) (h : Nat) (qe : Nat) (qf : Nat) (en : Nat) (pn : Nat) (fe : Nat → Int64) (ff : Nat → Int32) (he : en ≤ 40) (hp : pn ≤ 40) : MI l yX0_placesWithEndUp wsX0_placesWithEndUp rm_cl_places D tys [.ref h] [(h, OB 0 [.ref qe, .ref qf, .int (nI en), .int (nI pn)]), (qe, AJ cJ 40 fe), (qf, AI cI 41 ff)] Unit (fun r (_ : Unit) => r = plS fe pn) (fun (_ : Unit) => [(h, OB 0 [.ref qe, .ref qf, .int (nI en), .int (nI pn)]), (qe, AJ cJ 40 fe), (qf, AI cI 41 ff)]) 0 0 := by
  intro sz
  refine x_met (cc := cX0_placesWithEndUp) (maxL := 3) (ret := (some .int)) (by decide +kernel) rfl (by show _ ≤ _; simp [lg_sl, Value.category]) [(0, .ref h)] rfl ?_
  intro p e s m args below meth c Q A H0 C hK hNW hlk hrt hnm hQ hH0 hAA hA
  refine x_iconst C (nI 0) dX0_placesWithEndUp_0 (by decide +kernel) ?_
  refine x_istore_n C [(1, .int (nI 0)), (0, .ref h)] dX0_placesWithEndUp_1 rfl (by decide) rfl ?_
  refine x_iconst C (nI 0) dX0_placesWithEndUp_2 (by decide +kernel) ?_
  refine x_istore_n C [(2, .int (nI 0)), (1, .int (nI 0)), (0, .ref h)] dX0_placesWithEndUp_3 rfl (by decide) rfl ?_
  have K_1 : ∀ (fuel : Nat) (i : Nat), (i ≤ pn) → pn - i < fuel → X_ p l e rm_cl_places s m args below meth c Q D A H0 3 0 0 [(h, OB 0 [.ref qe, .ref qf, .int (nI en), .int (nI pn)]), (qe, AJ cJ 40 fe), (qf, AI cI 41 ff)] [(0, .ref h), (1, .int (plS fe i)), (2, .int (nI i))] 4 [] := by
    intro fuel
    induction fuel with
    | zero =>
      intros
      exact absurd (by assumption) (Nat.not_lt_zero _)
    | succ fuel ih_K_1 =>
      intro i hi hm_2
      refine x_iload_n C dX0_placesWithEndUp_4 rfl 2 rfl ?_
      refine x_aload_n C dX0_placesWithEndUp_5 rfl 0 rfl ?_
      refine x_get C hK in_X0_placesWithEndUp_X0 0 rfl rfl 3 (by decide) (by decide +kernel) rfl rfl dX0_placesWithEndUp_6 ?_
      refine xn_icmp_ge C 30 (by omega) (by omega) dX0_placesWithEndUp_9 (by decide) (fun h_3 => ?_) (fun h_3 => ?_)
      ·
        have heq_i : pn = i := by omega
        subst heq_i
        refine x_iload_n C dX0_placesWithEndUp_30 rfl 1 rfl ?_
        refine x_iret C hK hlk hrt hQ hH0 hAA () ?_ [0, 1, 2] (by decide) rfl (by first | decide | omega) (by first | decide | omega) dX0_placesWithEndUp_31
        first | rfl | (exact ⟨rfl, rfl⟩) | trivial | assumption | omega
      ·
        refine x_iload_n C dX0_placesWithEndUp_12 rfl 1 rfl ?_
        refine x_aload_n C dX0_placesWithEndUp_13 rfl 0 rfl ?_
        refine x_get C hK in_X0_placesWithEndUp_X0 0 rfl rfl 0 (by decide) (by decide +kernel) rfl rfl dX0_placesWithEndUp_14 ?_
        refine x_iload_n C dX0_placesWithEndUp_17 rfl 2 rfl ?_
        refine x_lald C hK 1 1 rfl hJ (by omega) (by omega) dX0_placesWithEndUp_18 ?_
        refine x_calli (x_runS C hK hNW (c_bit64 l D tys cI cJ hI hJ (fe i) ) (va_cwS 1 C.2.2.2.2 gX0_placesWithEndUp_J13_bitCount_95d88 rfl rfl rfl (by decide +kernel) ⟨by decide, by decide⟩) [] rfl (by decide) (st := [.int (plS fe i)]) rfl rfl (Nat.le_of_ble_eq_true rfl) dX0_placesWithEndUp_19 ⟨by first | decide | omega, by first | decide | omega⟩) hA [] rfl [0, 1, 2] [(h, OB 0 [.ref qe, .ref qf, .int (nI en), .int (nI pn)]), (qe, AJ cJ 40 fe), (qf, AI cI 41 ff)] rfl (by decide) (by decide) [0, 1, 2] (by decide) (wf := (fun (u : Unit) => [(h, OB 0 [.ref qe, .ref qf, .int (nI en), .int (nI pn)]), (qe, AJ cJ 40 fe), (qf, AI cI 41 ff)])) (fun _ => rfl) (fun r_4 u h_5 => ?_)
        subst h_5
        refine x_iadd C _ dX0_placesWithEndUp_22 rfl ?_
        refine x_istore_n C [(1, .int ((plS fe i) + (bc64 (fe i)))), (0, .ref h), (2, .int (nI i))] dX0_placesWithEndUp_23 rfl (by decide) rfl ?_
        refine xn_iinc C (i + 1) [(2, .int (nI (i + 1))), (1, .int ((plS fe i) + (bc64 (fe i)))), (0, .ref h)] dX0_placesWithEndUp_24 2 rfl (by rw [show Int32.ofInt 1 = nI 1 from by decide +kernel]; exact nI_add _ _) (by decide) rfl ?_
        refine x_goto C 4 dX0_placesWithEndUp_27 (by decide) ?_
        refine x_lv [(0, .ref h), (1, .int (plS fe (i + 1))), (2, .int (nI (i + 1)))] [2, 1, 0] (by rw [show plS fe (i + 1) = (plS fe i) + (bc64 (fe i)) from by rfl]; rfl) ?_
        exact ih_K_1 (i + 1) (by first | assumption | omega) (by omega)
  refine x_lv [(0, .ref h), (1, .int (plS fe 0)), (2, .int (nI 0))] [2, 1, 0] (by rw [show plS fe 0 = nI 0 from by rfl]; rfl) ?_
  exact K_1 (pn - 0 + 1) 0 (by first | assumption | omega) (Nat.lt_succ_self _)
abbrev rm_cl_picksUnder : Room := { frames := 2, cells := 0, slots := 0, locals := 44 }
set_option maxRecDepth 100000 in
set_option maxHeartbeats 4000000 in
theorem c_cl_picksUnder (l : Launch) (D : va_G) (tys : List (ClassId × FieldType)) (cI cJ : ClassId) (hI : tys[0]? = some (cI, .int)) (hJ : tys[1]? = some (cJ, .long)) (h : Nat) (qe : Nat) (qf : Nat) (en : Nat) (pn : Nat) (fe : Nat → Int64) (ff : Nat → Int32) (e0 : Nat) (he : en ≤ 40) (hp : pn ≤ 40) : ML l yX0_picksUnder wsX0_picksUnder rm_cl_picksUnder D tys [.ref h, .int (nI e0)] [(h, OB 0 [.ref qe, .ref qf, .int (nI en), .int (nI pn)]), (qe, AJ cJ 40 fe), (qf, AI cI 41 ff)] Unit (fun r (_ : Unit) => r = mkB (fun y0 => hbit (fe y0) (nI e0)) pn) (fun (_ : Unit) => [(h, OB 0 [.ref qe, .ref qf, .int (nI en), .int (nI pn)]), (qe, AJ cJ 40 fe), (qf, AI cI 41 ff)]) 0 0 := by
  intro sz
  refine x_met (cc := cX0_picksUnder) (maxL := 5) (ret := (some .long)) (by decide +kernel) rfl (by show _ ≤ _; simp [lg_sl, Value.category]) [(0, .ref h), (1, .int (nI e0))] rfl ?_
  intro p e s m args below meth c Q A H0 C hK hNW hlk hrt hnm hQ hH0 hAA hA
  refine x_lconst C (0 : Int64) dX0_picksUnder_0 rfl ?_
  refine x_lstore_n C [(2, .long (0 : Int64)), (0, .ref h), (1, .int (nI e0))] dX0_picksUnder_1 rfl (by decide) rfl ?_
  refine x_iconst C (nI 0) dX0_picksUnder_2 (by decide +kernel) ?_
  refine x_istore C [(4, .int (nI 0)), (2, .long (0 : Int64)), (0, .ref h), (1, .int (nI e0))] dX0_picksUnder_3 (by decide) rfl ?_
  have K_1 : ∀ (fuel : Nat) (i : Nat), (i ≤ pn) → pn - i < fuel → X_ p l e rm_cl_picksUnder s m args below meth c Q D A H0 5 0 0 [(h, OB 0 [.ref qe, .ref qf, .int (nI en), .int (nI pn)]), (qe, AJ cJ 40 fe), (qf, AI cI 41 ff)] [(0, .ref h), (1, .int (nI e0)), (2, .long (mkB (fun y0 => hbit (fe y0) (nI e0)) i)), (4, .int (nI i))] 5 [] := by
    intro fuel
    induction fuel with
    | zero =>
      intros
      exact absurd (by assumption) (Nat.not_lt_zero _)
    | succ fuel ih_K_1 =>
      intro i hi hm_2
      refine x_iload C dX0_picksUnder_5 3 rfl ?_
      refine x_aload_n C dX0_picksUnder_7 rfl 0 rfl ?_
      refine x_get C hK in_X0_picksUnder_X0 0 rfl rfl 3 (by decide) (by decide +kernel) rfl rfl dX0_picksUnder_8 ?_
      refine xn_icmp_ge C 37 (by omega) (by omega) dX0_picksUnder_11 (by decide) (fun h_3 => ?_) (fun h_3 => ?_)
      ·
        have heq_i : pn = i := by omega
        subst heq_i
        refine x_lload_n C dX0_picksUnder_37 rfl 2 rfl ?_
        refine x_lret C hK hlk hrt hQ hH0 hAA () ?_ [0, 1, 2] (by decide) rfl (by first | decide | omega) (by first | decide | omega) dX0_picksUnder_38
        first | rfl | (exact ⟨rfl, rfl⟩) | trivial | assumption | omega
      ·
        refine x_aload_n C dX0_picksUnder_14 rfl 0 rfl ?_
        refine x_iload C dX0_picksUnder_15 3 rfl ?_
        refine x_iload_n C dX0_picksUnder_17 rfl 1 rfl ?_
        refine x_calli (x_runV C hK hNW (c_cl_isUp l D tys cI cJ hI hJ h qe qf en pn fe ff i e0 (by first | omega | assumption) (by first | omega | assumption) (by first | omega | assumption)) (cwV 2 C.2.2.2.2 gX0_picksUnder_X0_isUp rfl rfl rfl (by decide +kernel) ⟨by decide, by decide⟩) [0, 1, 2] rfl (by decide) 0 0 rfl rfl rfl (st := []) rfl rfl (Nat.le_of_ble_eq_true rfl) dX0_picksUnder_18 ⟨by first | decide | omega, by first | decide | omega⟩) hA [0, 1, 2] rfl [] [] rfl (by decide) (by decide) [0, 1, 2] (by decide) (wf := (fun (u : Unit) => [(h, OB 0 [.ref qe, .ref qf, .int (nI en), .int (nI pn)]), (qe, AJ cJ 40 fe), (qf, AI cI 41 ff)])) (fun _ => rfl) (fun r_4 u h_5 => ?_)
        subst h_5
        refine x_if_eq C 31 dX0_picksUnder_21 (by decide) (fun h_6 => ?_) (fun h_6 => ?_)
        ·
          refine xn_iinc C (i + 1) [(4, .int (nI (i + 1))), (0, .ref h), (1, .int (nI e0)), (2, .long (mkB (fun y0 => hbit (fe y0) (nI e0)) i))] dX0_picksUnder_31 3 rfl (by rw [show Int32.ofInt 1 = nI 1 from by decide +kernel]; exact nI_add _ _) (by decide) rfl ?_
          refine x_goto C 5 dX0_picksUnder_34 (by decide) ?_
          refine x_lv [(0, .ref h), (1, .int (nI e0)), (2, .long (mkB (fun y0 => hbit (fe y0) (nI e0)) (i + 1))), (4, .int (nI (i + 1)))] [1, 2, 3, 0] (by rw [show mkB (fun y0 => hbit (fe y0) (nI e0)) (i + 1) = mkB (fun y0 => hbit (fe y0) (nI e0)) i from by first | exact mkB_y (bI_ne0 (by assumption)) | exact mkB_n (bI_eq0 (by assumption))]; rfl) ?_
          exact ih_K_1 (i + 1) (by first | assumption | omega) (by omega)
        ·
          refine x_lload_n C dX0_picksUnder_24 rfl 2 rfl ?_
          refine x_lconst C (1 : Int64) dX0_picksUnder_25 rfl ?_
          refine x_iload C dX0_picksUnder_26 3 rfl ?_
          refine x_lshl C _ dX0_picksUnder_28 rfl ?_
          refine x_lor C _ dX0_picksUnder_29 rfl ?_
          refine x_lstore_n C [(2, .long ((mkB (fun y0 => hbit (fe y0) (nI e0)) i) ||| ((1 : Int64) <<< ((nI i).toInt64 &&& 63)))), (0, .ref h), (1, .int (nI e0)), (4, .int (nI i))] dX0_picksUnder_30 rfl (by decide) rfl ?_
          refine xn_iinc C (i + 1) [(4, .int (nI (i + 1))), (2, .long ((mkB (fun y0 => hbit (fe y0) (nI e0)) i) ||| ((1 : Int64) <<< ((nI i).toInt64 &&& 63)))), (0, .ref h), (1, .int (nI e0))] dX0_picksUnder_31 3 rfl (by rw [show Int32.ofInt 1 = nI 1 from by decide +kernel]; exact nI_add _ _) (by decide) rfl ?_
          refine x_goto C 5 dX0_picksUnder_34 (by decide) ?_
          refine x_lv [(0, .ref h), (1, .int (nI e0)), (2, .long (mkB (fun y0 => hbit (fe y0) (nI e0)) (i + 1))), (4, .int (nI (i + 1)))] [2, 3, 1, 0] (by rw [show mkB (fun y0 => hbit (fe y0) (nI e0)) (i + 1) = (mkB (fun y0 => hbit (fe y0) (nI e0)) i) ||| ((1 : Int64) <<< ((nI i).toInt64 &&& 63)) from by first | exact mkB_y (bI_ne0 (by assumption)) | exact mkB_n (bI_eq0 (by assumption))]; rfl) ?_
          exact ih_K_1 (i + 1) (by first | assumption | omega) (by omega)
  refine x_lv [(0, .ref h), (1, .int (nI e0)), (2, .long (mkB (fun y0 => hbit (fe y0) (nI e0)) 0)), (4, .int (nI 0))] [2, 3, 1, 0] (by rw [show mkB (fun y0 => hbit (fe y0) (nI e0)) 0 = (0 : Int64) from by rfl]; rfl) ?_
  exact K_1 (pn - 0 + 1) 0 (by first | assumption | omega) (Nat.lt_succ_self _)
abbrev rm_cl_endsUnder : Room := { frames := 1, cells := 0, slots := 0, locals := 20 }
set_option maxRecDepth 100000 in
set_option maxHeartbeats 4000000 in
theorem c_cl_endsUnder (l : Launch) (D : va_G) (tys : List (ClassId × FieldType)) (cI cJ : ClassId) (hI : tys[0]? = some (cI, .int)) (hJ : tys[1]? = some (cJ, .long)) (h : Nat) (qe : Nat) (qf : Nat) (en : Nat) (pn : Nat) (fe : Nat → Int64) (ff : Nat → Int32) (pk : Nat) (he : en ≤ 40) (hp : pn ≤ 40) (hk : pk < 40) : ML l yX0_endsUnder wsX0_endsUnder rm_cl_endsUnder D tys [.ref h, .int (nI pk)] [(h, OB 0 [.ref qe, .ref qf, .int (nI en), .int (nI pn)]), (qe, AJ cJ 40 fe), (qf, AI cI 41 ff)] Unit (fun r (_ : Unit) => r = allof (nI en) &&& (fe pk ^^^ (-1))) (fun (_ : Unit) => [(h, OB 0 [.ref qe, .ref qf, .int (nI en), .int (nI pn)]), (qe, AJ cJ 40 fe), (qf, AI cI 41 ff)]) 0 0 := by
  intro sz
  refine x_met (cc := cX0_endsUnder) (maxL := 2) (ret := (some .long)) (by decide +kernel) rfl (by show _ ≤ _; simp [lg_sl, Value.category]) [(0, .ref h), (1, .int (nI pk))] rfl ?_
  intro p e s m args below meth c Q A H0 C hK hNW hlk hrt hnm hQ hH0 hAA hA
  refine x_aload_n C dX0_endsUnder_0 rfl 0 rfl ?_
  refine x_get C hK in_X0_endsUnder_X0 0 rfl rfl 2 (by decide) (by decide +kernel) rfl rfl dX0_endsUnder_1 ?_
  refine x_calll (x_runSN C hK hNW (c_allOf l D tys cI cJ hI hJ (nI en) ) ⟨va_cnB 1 C.2.2.2.2 gX0_endsUnder_X4_allOf_n46 rfl rfl rfl (hNW.at 12 rfl) (C.2.2.2.2 (.initialized RX4) (by decide +kernel)) (by decide +kernel) ⟨by decide, by decide⟩, C.2.2.2.2 (.static yX4_allOf) (by decide +kernel), trivial⟩ [] rfl (by decide) (st := []) rfl rfl (Nat.le_of_ble_eq_true rfl) dX0_endsUnder_4 ⟨by first | decide | omega, by first | decide | omega⟩) hA [] rfl [0, 1, 2] [(h, OB 0 [.ref qe, .ref qf, .int (nI en), .int (nI pn)]), (qe, AJ cJ 40 fe), (qf, AI cI 41 ff)] rfl (by decide) (by decide) [0, 1, 2] (by decide) (wf := (fun (u : Unit) => [(h, OB 0 [.ref qe, .ref qf, .int (nI en), .int (nI pn)]), (qe, AJ cJ 40 fe), (qf, AI cI 41 ff)])) (fun _ => rfl) (fun r_1 u h_2 => ?_)
  subst h_2
  refine x_aload_n C dX0_endsUnder_7 rfl 0 rfl ?_
  refine x_get C hK in_X0_endsUnder_X0 0 rfl rfl 0 (by decide) (by decide +kernel) rfl rfl dX0_endsUnder_8 ?_
  refine x_iload_n C dX0_endsUnder_11 rfl 1 rfl ?_
  refine x_lald C hK 1 1 rfl hJ (by omega) (by omega) dX0_endsUnder_12 ?_
  refine x_ldc2 C (-1) (by decide +kernel) dX0_endsUnder_13 ?_
  refine x_lxor C _ dX0_endsUnder_16 rfl ?_
  refine x_land C _ dX0_endsUnder_17 rfl ?_
  refine x_lret C hK hlk hrt hQ hH0 hAA () ?_ [0, 1, 2] (by decide) rfl (by first | decide | omega) (by first | decide | omega) dX0_endsUnder_18
  first | rfl | (exact ⟨rfl, rfl⟩) | trivial | assumption | omega
abbrev rm_cl_cf11 : Room := { frames := 2, cells := 0, slots := 0, locals := 44 }
set_option maxRecDepth 100000 in
set_option maxHeartbeats 4000000 in
theorem c_cl_cf11 (l : Launch) (D : va_G) (tys : List (ClassId × FieldType)) (cI cJ : ClassId) (hI : tys[0]? = some (cI, .int)) (hJ : tys[1]? = some (cJ, .long)) (h : Nat) (qe : Nat) (qf : Nat) (en : Nat) (pn : Nat) (fe : Nat → Int64) (ff : Nat → Int32) (he : en ≤ 40) (hp : pn ≤ 40) : MV l yX0_countFloats wsX0_countFloats rm_cl_cf11 D tys [.ref h, .int (nI 1), .int (nI 1)] [(h, OB 0 [.ref qe, .ref qf, .int (nI en), .int (nI pn)]), (qe, AJ cJ 40 fe), (qf, AI cI 41 ff)] Unit (fun (_ : Unit) => True) (fun (_ : Unit) => [(h, OB 0 [.ref qe, .ref qf, .int (nI en), .int (nI pn)]), (qe, AJ cJ 40 fe), (qf, AI cI 41 (cfT (fun x0 y0 => hbit (fe y0) (nI x0) == true) pn (flF ff 0 41) en))]) 0 0 := by
  intro sz
  refine x_met (cc := cX0_countFloats) (maxL := 10) (ret := none) (by decide +kernel) rfl (by show _ ≤ _; simp [lg_sl, Value.category]) [(0, .ref h), (1, .int (nI 1)), (2, .int (nI 1))] rfl ?_
  intro p e s m args below meth c Q A H0 C hK hNW hlk hrt hnm hQ hH0 hAA hA
  refine x_aload_n C dX0_countFloats_0 rfl 0 rfl ?_
  refine x_get C hK in_X0_countFloats_X0 0 rfl rfl 1 (by decide) (by decide +kernel) rfl rfl dX0_countFloats_1 ?_
  refine x_iconst C (nI 0) dX0_countFloats_4 (by decide +kernel) ?_
  refine x_callv (x_runS C hK hNW (c_fill l D tys cI cJ hI hJ qf 41 ff (nI 0) (by first | omega | assumption)) (va_cwS 2 C.2.2.2.2 gX0_countFloats_J7_fill_53178 rfl rfl rfl (by decide +kernel) ⟨by decide, by decide⟩) [2] rfl (by decide) (st := []) rfl rfl (Nat.le_of_ble_eq_true rfl) dX0_countFloats_5 ⟨by first | decide | omega, by first | decide | omega⟩) hA [2] rfl [0, 1] [(h, OB 0 [.ref qe, .ref qf, .int (nI en), .int (nI pn)]), (qe, AJ cJ 40 fe)] rfl (by decide) (by decide) [0, 1, 2] (by decide) (wf := (fun (u : Unit) => [(h, OB 0 [.ref qe, .ref qf, .int (nI en), .int (nI pn)]), (qe, AJ cJ 40 fe), (qf, AI cI 41 (flF ff (nI 0) 41))])) (fun _ => rfl) (fun u h_2 => ?_)
  refine x_iload_n C dX0_countFloats_8 rfl 1 rfl ?_
  refine x_iload_n C dX0_countFloats_9 rfl 2 rfl ?_
  refine xn_icmp_ne C 17 (by omega) (by omega) dX0_countFloats_10 (by decide) (fun h_3 => ?_) (fun h_3 => ?_)
  ·
    exact absurd h_3 (by first | decide | omega)
  ·
    refine x_iconst C (nI 1) dX0_countFloats_13 (by decide +kernel) ?_
    refine x_goto C 18 dX0_countFloats_14 (by decide) ?_
    refine x_istore_n C [(3, .int (nI 1)), (0, .ref h), (1, .int (nI 1)), (2, .int (nI 1))] dX0_countFloats_18 rfl (by decide) rfl ?_
    refine x_iload_n C dX0_countFloats_19 rfl 2 rfl ?_
    refine xn_if_eq C 30 (by omega) dX0_countFloats_20 (by decide) (fun h_4 => ?_) (fun h_4 => ?_)
    ·
      exact absurd h_4 (by first | decide | omega)
    ·
      refine x_aload_n C dX0_countFloats_23 rfl 1 rfl ?_
      refine x_get C hK in_X0_countFloats_X0 0 rfl rfl 2 (by decide) (by decide +kernel) rfl rfl dX0_countFloats_24 ?_
      refine x_goto C 34 dX0_countFloats_27 (by decide) ?_
      refine x_istore C [(4, .int (nI en)), (3, .int (nI 1)), (0, .ref h), (1, .int (nI 1)), (2, .int (nI 1))] dX0_countFloats_34 (by decide) rfl ?_
      refine x_iload_n C dX0_countFloats_36 rfl 3 rfl ?_
      refine xn_if_eq C 47 (by omega) dX0_countFloats_37 (by decide) (fun h_5 => ?_) (fun h_5 => ?_)
      ·
        exact absurd h_5 (by first | decide | omega)
      ·
        refine x_aload_n C dX0_countFloats_40 rfl 2 rfl ?_
        refine x_get C hK in_X0_countFloats_X0 0 rfl rfl 3 (by decide) (by decide +kernel) rfl rfl dX0_countFloats_41 ?_
        refine x_goto C 51 dX0_countFloats_44 (by decide) ?_
        refine x_istore C [(5, .int (nI pn)), (4, .int (nI en)), (3, .int (nI 1)), (0, .ref h), (1, .int (nI 1)), (2, .int (nI 1))] dX0_countFloats_51 (by decide) rfl ?_
        refine x_iconst C (nI 0) dX0_countFloats_53 (by decide +kernel) ?_
        refine x_istore C [(6, .int (nI 0)), (5, .int (nI pn)), (4, .int (nI en)), (3, .int (nI 1)), (0, .ref h), (1, .int (nI 1)), (2, .int (nI 1))] dX0_countFloats_54 (by decide) rfl ?_
        have LT_6 : ∀ (fuel : Nat) (t : Nat), (t ≤ en) → en - t < fuel → X_ p l e rm_cl_cf11 s m args below meth c Q D A H0 10 0 0 [(h, OB 0 [.ref qe, .ref qf, .int (nI en), .int (nI pn)]), (qe, AJ cJ 40 fe), (qf, AI cI 41 (cfT (fun x0 y0 => hbit (fe y0) (nI x0) == true) pn (flF ff 0 41) t))] [(0, .ref h), (1, .int (nI 1)), (3, .int (nI 1)), (4, .int (nI en)), (5, .int (nI pn)), (6, .int (nI t))] 56 [] := by
          intro fuel
          induction fuel with
          | zero =>
            intros
            exact absurd (by assumption) (Nat.not_lt_zero _)
          | succ fuel ih_LT_6 =>
            intro t ht hm_7
            refine x_iload C dX0_countFloats_56 5 rfl ?_
            refine x_iload C dX0_countFloats_58 3 rfl ?_
            refine xn_icmp_ge C 145 (by omega) (by omega) dX0_countFloats_60 (by decide) (fun h_8 => ?_) (fun h_8 => ?_)
            ·
              have heq_t : en = t := by omega
              subst heq_t
              refine x_vret C hK hlk hrt hQ hH0 hAA () ?_ [0, 1, 2] (by decide) rfl (by first | decide | omega) (by first | decide | omega) dX0_countFloats_145
              first | rfl | (exact ⟨rfl, rfl⟩) | trivial | assumption | omega
            ·
              refine x_iconst C (nI 0) dX0_countFloats_63 (by decide +kernel) ?_
              refine x_istore C [(7, .int (nI 0)), (0, .ref h), (1, .int (nI 1)), (3, .int (nI 1)), (4, .int (nI en)), (5, .int (nI pn)), (6, .int (nI t))] dX0_countFloats_64 (by decide) rfl ?_
              refine x_iconst C (nI 0) dX0_countFloats_66 (by decide +kernel) ?_
              refine x_istore C [(8, .int (nI 0)), (7, .int (nI 0)), (0, .ref h), (1, .int (nI 1)), (3, .int (nI 1)), (4, .int (nI en)), (5, .int (nI pn)), (6, .int (nI t))] dX0_countFloats_67 (by decide) rfl ?_
              have LC_9 : ∀ (fuel : Nat) (z : Nat), (z ≤ pn) → pn - z < fuel → X_ p l e rm_cl_cf11 s m args below meth c Q D A H0 10 0 0 [(h, OB 0 [.ref qe, .ref qf, .int (nI en), .int (nI pn)]), (qe, AJ cJ 40 fe), (qf, AI cI 41 (cfH (fun y0 => hbit (fe y0) (nI t) == true) (cfT (fun x0 y0 => hbit (fe y0) (nI x0) == true) pn (flF ff 0 41) t) z))] [(0, .ref h), (1, .int (nI 1)), (3, .int (nI 1)), (4, .int (nI en)), (5, .int (nI pn)), (6, .int (nI t)), (7, .int (nI (cfL (fun y0 => hbit (fe y0) (nI t) == true) z))), (8, .int (nI z))] 69 [] := by
                intro fuel
                induction fuel with
                | zero =>
                  intros
                  exact absurd (by assumption) (Nat.not_lt_zero _)
                | succ fuel ih_LC_9 =>
                  intro z hz hm_10
                  have hcfl := cfL_le (fun y0 => hbit (fe y0) (nI t) == true) z
                  refine x_iload C dX0_countFloats_69 7 rfl ?_
                  refine x_iload C dX0_countFloats_71 4 rfl ?_
                  refine xn_icmp_ge C 139 (by omega) (by omega) dX0_countFloats_73 (by decide) (fun h_11 => ?_) (fun h_11 => ?_)
                  ·
                    have heq_z : pn = z := by omega
                    subst heq_z
                    refine xn_iinc C (t + 1) [(6, .int (nI (t + 1))), (0, .ref h), (1, .int (nI 1)), (3, .int (nI 1)), (4, .int (nI en)), (5, .int (nI pn)), (7, .int (nI (cfL (fun y0 => hbit (fe y0) (nI t) == true) pn))), (8, .int (nI pn))] dX0_countFloats_139 5 rfl (by rw [show Int32.ofInt 1 = nI 1 from by decide +kernel]; exact nI_add _ _) (by decide) rfl ?_
                    refine x_goto C 56 dX0_countFloats_142 (by decide) ?_
                    refine x_lv [(0, .ref h), (1, .int (nI 1)), (3, .int (nI 1)), (4, .int (nI en)), (5, .int (nI pn)), (6, .int (nI (t + 1)))] [1, 2, 3, 4, 5, 0] rfl ?_
                    refine x_ws [(h, OB 0 [.ref qe, .ref qf, .int (nI en), .int (nI pn)]), (qe, AJ cJ 40 fe), (qf, AI cI 41 (cfT (fun x0 y0 => hbit (fe y0) (nI x0) == true) pn (flF ff 0 41) (t + 1)))] (by rfl) ?_
                    exact ih_LT_6 (t + 1) (by first | assumption | omega) (by omega)
                  ·
                    refine x_iload_n C dX0_countFloats_76 rfl 1 rfl ?_
                    refine xn_if_eq C 91 (by omega) dX0_countFloats_77 (by decide) (fun h_12 => ?_) (fun h_12 => ?_)
                    ·
                      exact absurd h_12 (by first | decide | omega)
                    ·
                      refine x_aload_n C dX0_countFloats_80 rfl 0 rfl ?_
                      refine x_iload C dX0_countFloats_81 7 rfl ?_
                      refine x_iload C dX0_countFloats_83 5 rfl ?_
                      refine x_calli (x_runV C hK hNW (c_cl_isUp l D tys cI cJ hI hJ h qe qf en pn fe (cfH (fun y0 => hbit (fe y0) (nI t) == true) (cfT (fun x0 y0 => hbit (fe y0) (nI x0) == true) pn (flF ff 0 41) t) z) z t (by first | omega | assumption) (by first | omega | assumption) (by first | omega | assumption)) (cwV 2 C.2.2.2.2 gX0_countFloats_X0_isUp rfl rfl rfl (by decide +kernel) ⟨by decide, by decide⟩) [0, 1, 2] rfl (by decide) 0 0 rfl rfl rfl (st := []) rfl rfl (Nat.le_of_ble_eq_true rfl) dX0_countFloats_85 ⟨by first | decide | omega, by first | decide | omega⟩) hA [0, 1, 2] rfl [] [] rfl (by decide) (by decide) [0, 1, 2] (by decide) (wf := (fun (u : Unit) => [(h, OB 0 [.ref qe, .ref qf, .int (nI en), .int (nI pn)]), (qe, AJ cJ 40 fe), (qf, AI cI 41 (cfH (fun y0 => hbit (fe y0) (nI t) == true) (cfT (fun x0 y0 => hbit (fe y0) (nI x0) == true) pn (flF ff 0 41) t) z))])) (fun _ => rfl) (fun r_13 u h_14 => ?_)
                      subst h_14
                      refine x_goto C 99 dX0_countFloats_88 (by decide) ?_
                      refine x_istore C [(9, .int (bI (hbit (fe z) (nI t)))), (0, .ref h), (1, .int (nI 1)), (3, .int (nI 1)), (4, .int (nI en)), (5, .int (nI pn)), (6, .int (nI t)), (7, .int (nI (cfL (fun y0 => hbit (fe y0) (nI t) == true) z))), (8, .int (nI z))] dX0_countFloats_99 (by decide) rfl ?_
                      rcases Bool.eq_false_or_eq_true (hbit (fe z) (nI t)) with hu | hu
                      ·
                        have hy : ((hbit (fe z) (nI t)) == true) = true := by rw [hu]; rfl
                        have hcl := cfL_y (b := (fun y0 => hbit (fe y0) (nI t) == true)) (k := z) hy
                        have hch := cfH_y (b := (fun y0 => hbit (fe y0) (nI t) == true)) (g := cfT (fun x0 y0 => hbit (fe y0) (nI x0) == true) pn (flF ff 0 41) t) (k := z) hy
                        refine x_lv [(9, .int (nI 1)), (0, .ref h), (1, .int (nI 1)), (3, .int (nI 1)), (4, .int (nI en)), (5, .int (nI pn)), (6, .int (nI t)), (7, .int (nI (cfL (fun y0 => hbit (fe y0) (nI t) == true) z))), (8, .int (nI z))] [0, 1, 2, 3, 4, 5, 6, 7, 8] (by rw [hu]; rfl) ?_
                        refine x_iload C dX0_countFloats_101 0 rfl ?_
                        refine x_iload_n C dX0_countFloats_103 rfl 3 rfl ?_
                        refine xn_icmp_ne C 114 (by omega) (by omega) dX0_countFloats_104 (by decide) (fun h_15 => ?_) (fun h_15 => ?_)
                        ·
                          exact absurd h_15 (by first | decide | omega)
                        ·
                          refine x_iload C dX0_countFloats_107 7 rfl ?_
                          refine x_iconst C (nI 1) dX0_countFloats_109 (by decide +kernel) ?_
                          refine xn_iadd C dX0_countFloats_110 ?_
                          refine x_goto C 115 dX0_countFloats_111 (by decide) ?_
                          refine x_istore C [(7, .int (nI ((cfL (fun y0 => hbit (fe y0) (nI t) == true) z) + 1))), (9, .int (nI 1)), (0, .ref h), (1, .int (nI 1)), (3, .int (nI 1)), (4, .int (nI en)), (5, .int (nI pn)), (6, .int (nI t)), (8, .int (nI z))] dX0_countFloats_115 (by decide) rfl ?_
                          refine x_iload C dX0_countFloats_117 0 rfl ?_
                          refine xn_if_le C 133 (by omega) dX0_countFloats_119 (by decide) (fun h_16 => ?_) (fun h_16 => ?_)
                          ·
                            exact absurd h_16 (by first | decide | omega)
                          ·
                            refine x_aload_n C dX0_countFloats_122 rfl 2 rfl ?_
                            refine x_get C hK in_X0_countFloats_X0 0 rfl rfl 1 (by decide) (by decide +kernel) rfl rfl dX0_countFloats_123 ?_
                            refine x_iload C dX0_countFloats_126 0 rfl ?_
                            refine x_dup2 C dX0_countFloats_128 rfl rfl ?_
                            refine x_iald C hK 2 0 rfl hI (by omega) (by omega) dX0_countFloats_129 ?_
                            refine x_iconst C (nI 1) dX0_countFloats_130 (by decide +kernel) ?_
                            refine x_iadd C _ dX0_countFloats_131 rfl ?_
                            refine x_iast C hK 2 0 rfl hI (by omega) (by omega) [(h, OB 0 [.ref qe, .ref qf, .int (nI en), .int (nI pn)]), (qe, AJ cJ 40 fe), (qf, AI cI 41 (upd (cfH (fun y0 => hbit (fe y0) (nI t) == true) (cfT (fun x0 y0 => hbit (fe y0) (nI x0) == true) pn (flF ff 0 41) t) z) ((cfL (fun y0 => hbit (fe y0) (nI t) == true) z) + 1) (((cfH (fun y0 => hbit (fe y0) (nI t) == true) (cfT (fun x0 y0 => hbit (fe y0) (nI x0) == true) pn (flF ff 0 41) t) z) ((cfL (fun y0 => hbit (fe y0) (nI t) == true) z) + 1)) + (nI 1))))] rfl dX0_countFloats_132 ?_
                            refine xn_iinc C (z + 1) [(8, .int (nI (z + 1))), (7, .int (nI ((cfL (fun y0 => hbit (fe y0) (nI t) == true) z) + 1))), (9, .int (nI 1)), (0, .ref h), (1, .int (nI 1)), (3, .int (nI 1)), (4, .int (nI en)), (5, .int (nI pn)), (6, .int (nI t))] dX0_countFloats_133 8 rfl (by rw [show Int32.ofInt 1 = nI 1 from by decide +kernel]; exact nI_add _ _) (by decide) rfl ?_
                            refine x_goto C 69 dX0_countFloats_136 (by decide) ?_
                            refine x_lv [(0, .ref h), (1, .int (nI 1)), (3, .int (nI 1)), (4, .int (nI en)), (5, .int (nI pn)), (6, .int (nI t)), (7, .int (nI (cfL (fun y0 => hbit (fe y0) (nI t) == true) (z + 1)))), (8, .int (nI (z + 1)))] [3, 4, 5, 6, 7, 8, 1, 0] (by rw [show cfL (fun y0 => hbit (fe y0) (nI t) == true) (z + 1) = (cfL (fun y0 => hbit (fe y0) (nI t) == true) z) + 1 from by rw [hcl]]; rfl) ?_
                            refine x_ws [(h, OB 0 [.ref qe, .ref qf, .int (nI en), .int (nI pn)]), (qe, AJ cJ 40 fe), (qf, AI cI 41 (cfH (fun y0 => hbit (fe y0) (nI t) == true) (cfT (fun x0 y0 => hbit (fe y0) (nI x0) == true) pn (flF ff 0 41) t) (z + 1)))] (by rw [hch]) ?_
                            exact ih_LC_9 (z + 1) (by first | assumption | omega) (by omega)
                      ·
                        have hy : ((hbit (fe z) (nI t)) == true) = false := by rw [hu]; rfl
                        have hcl := cfL_n (b := (fun y0 => hbit (fe y0) (nI t) == true)) (k := z) hy
                        have hch := cfH_n (b := (fun y0 => hbit (fe y0) (nI t) == true)) (g := cfT (fun x0 y0 => hbit (fe y0) (nI x0) == true) pn (flF ff 0 41) t) (k := z) hy
                        refine x_lv [(9, .int (nI 0)), (0, .ref h), (1, .int (nI 1)), (3, .int (nI 1)), (4, .int (nI en)), (5, .int (nI pn)), (6, .int (nI t)), (7, .int (nI (cfL (fun y0 => hbit (fe y0) (nI t) == true) z))), (8, .int (nI z))] [0, 1, 2, 3, 4, 5, 6, 7, 8] (by rw [hu]; rfl) ?_
                        refine x_iload C dX0_countFloats_101 0 rfl ?_
                        refine x_iload_n C dX0_countFloats_103 rfl 3 rfl ?_
                        refine xn_icmp_ne C 114 (by omega) (by omega) dX0_countFloats_104 (by decide) (fun h_17 => ?_) (fun h_17 => ?_)
                        ·
                          refine x_iconst C (nI 0) dX0_countFloats_114 (by decide +kernel) ?_
                          refine x_istore C [(7, .int (nI 0)), (9, .int (nI 0)), (0, .ref h), (1, .int (nI 1)), (3, .int (nI 1)), (4, .int (nI en)), (5, .int (nI pn)), (6, .int (nI t)), (8, .int (nI z))] dX0_countFloats_115 (by decide) rfl ?_
                          refine x_iload C dX0_countFloats_117 0 rfl ?_
                          refine xn_if_le C 133 (by omega) dX0_countFloats_119 (by decide) (fun h_18 => ?_) (fun h_18 => ?_)
                          ·
                            refine xn_iinc C (z + 1) [(8, .int (nI (z + 1))), (7, .int (nI 0)), (9, .int (nI 0)), (0, .ref h), (1, .int (nI 1)), (3, .int (nI 1)), (4, .int (nI en)), (5, .int (nI pn)), (6, .int (nI t))] dX0_countFloats_133 8 rfl (by rw [show Int32.ofInt 1 = nI 1 from by decide +kernel]; exact nI_add _ _) (by decide) rfl ?_
                            refine x_goto C 69 dX0_countFloats_136 (by decide) ?_
                            refine x_lv [(0, .ref h), (1, .int (nI 1)), (3, .int (nI 1)), (4, .int (nI en)), (5, .int (nI pn)), (6, .int (nI t)), (7, .int (nI (cfL (fun y0 => hbit (fe y0) (nI t) == true) (z + 1)))), (8, .int (nI (z + 1)))] [3, 4, 5, 6, 7, 8, 1, 0] (by rw [show cfL (fun y0 => hbit (fe y0) (nI t) == true) (z + 1) = 0 from by rw [hcl]]; rfl) ?_
                            refine x_ws [(h, OB 0 [.ref qe, .ref qf, .int (nI en), .int (nI pn)]), (qe, AJ cJ 40 fe), (qf, AI cI 41 (cfH (fun y0 => hbit (fe y0) (nI t) == true) (cfT (fun x0 y0 => hbit (fe y0) (nI x0) == true) pn (flF ff 0 41) t) (z + 1)))] (by rw [hch]) ?_
                            exact ih_LC_9 (z + 1) (by first | assumption | omega) (by omega)
                          ·
                            exact absurd h_18 (by first | decide | omega)
                        ·
                          exact absurd h_17 (by first | decide | omega)
              refine x_lv [(0, .ref h), (1, .int (nI 1)), (3, .int (nI 1)), (4, .int (nI en)), (5, .int (nI pn)), (6, .int (nI t)), (7, .int (nI (cfL (fun y0 => hbit (fe y0) (nI t) == true) 0))), (8, .int (nI 0))] [2, 3, 4, 5, 6, 7, 1, 0] (by rw [show cfL (fun y0 => hbit (fe y0) (nI t) == true) 0 = 0 from by first | rfl | omega]; rfl) ?_
              refine x_ws [(h, OB 0 [.ref qe, .ref qf, .int (nI en), .int (nI pn)]), (qe, AJ cJ 40 fe), (qf, AI cI 41 (cfH (fun y0 => hbit (fe y0) (nI t) == true) (cfT (fun x0 y0 => hbit (fe y0) (nI x0) == true) pn (flF ff 0 41) t) 0))] (by rfl) ?_
              exact LC_9 (pn - 0 + 1) 0 (by first | assumption | omega) (Nat.lt_succ_self _)
        refine x_lv [(0, .ref h), (1, .int (nI 1)), (3, .int (nI 1)), (4, .int (nI en)), (5, .int (nI pn)), (6, .int (nI 0))] [4, 5, 3, 2, 1, 0] rfl ?_
        refine x_ws [(h, OB 0 [.ref qe, .ref qf, .int (nI en), .int (nI pn)]), (qe, AJ cJ 40 fe), (qf, AI cI 41 (cfT (fun x0 y0 => hbit (fe y0) (nI x0) == true) pn (flF ff 0 41) 0))] (by rfl) ?_
        exact LT_6 (en - 0 + 1) 0 (by first | assumption | omega) (Nat.lt_succ_self _)
abbrev rm_cl_cf10 : Room := { frames := 2, cells := 0, slots := 0, locals := 44 }
set_option maxRecDepth 100000 in
set_option maxHeartbeats 4000000 in
theorem c_cl_cf10 (l : Launch) (D : va_G) (tys : List (ClassId × FieldType)) (cI cJ : ClassId) (hI : tys[0]? = some (cI, .int)) (hJ : tys[1]? = some (cJ, .long)) (h : Nat) (qe : Nat) (qf : Nat) (en : Nat) (pn : Nat) (fe : Nat → Int64) (ff : Nat → Int32) (he : en ≤ 40) (hp : pn ≤ 40) : MV l yX0_countFloats wsX0_countFloats rm_cl_cf10 D tys [.ref h, .int (nI 1), .int (nI 0)] [(h, OB 0 [.ref qe, .ref qf, .int (nI en), .int (nI pn)]), (qe, AJ cJ 40 fe), (qf, AI cI 41 ff)] Unit (fun (_ : Unit) => True) (fun (_ : Unit) => [(h, OB 0 [.ref qe, .ref qf, .int (nI en), .int (nI pn)]), (qe, AJ cJ 40 fe), (qf, AI cI 41 (cfT (fun x0 y0 => hbit (fe y0) (nI x0) == false) pn (flF ff 0 41) en))]) 0 0 := by
  intro sz
  refine x_met (cc := cX0_countFloats) (maxL := 10) (ret := none) (by decide +kernel) rfl (by show _ ≤ _; simp [lg_sl, Value.category]) [(0, .ref h), (1, .int (nI 1)), (2, .int (nI 0))] rfl ?_
  intro p e s m args below meth c Q A H0 C hK hNW hlk hrt hnm hQ hH0 hAA hA
  refine x_aload_n C dX0_countFloats_0 rfl 0 rfl ?_
  refine x_get C hK in_X0_countFloats_X0 0 rfl rfl 1 (by decide) (by decide +kernel) rfl rfl dX0_countFloats_1 ?_
  refine x_iconst C (nI 0) dX0_countFloats_4 (by decide +kernel) ?_
  refine x_callv (x_runS C hK hNW (c_fill l D tys cI cJ hI hJ qf 41 ff (nI 0) (by first | omega | assumption)) (va_cwS 2 C.2.2.2.2 gX0_countFloats_J7_fill_53178 rfl rfl rfl (by decide +kernel) ⟨by decide, by decide⟩) [2] rfl (by decide) (st := []) rfl rfl (Nat.le_of_ble_eq_true rfl) dX0_countFloats_5 ⟨by first | decide | omega, by first | decide | omega⟩) hA [2] rfl [0, 1] [(h, OB 0 [.ref qe, .ref qf, .int (nI en), .int (nI pn)]), (qe, AJ cJ 40 fe)] rfl (by decide) (by decide) [0, 1, 2] (by decide) (wf := (fun (u : Unit) => [(h, OB 0 [.ref qe, .ref qf, .int (nI en), .int (nI pn)]), (qe, AJ cJ 40 fe), (qf, AI cI 41 (flF ff (nI 0) 41))])) (fun _ => rfl) (fun u h_2 => ?_)
  refine x_iload_n C dX0_countFloats_8 rfl 1 rfl ?_
  refine x_iload_n C dX0_countFloats_9 rfl 2 rfl ?_
  refine xn_icmp_ne C 17 (by omega) (by omega) dX0_countFloats_10 (by decide) (fun h_3 => ?_) (fun h_3 => ?_)
  ·
    refine x_iconst C (nI 0) dX0_countFloats_17 (by decide +kernel) ?_
    refine x_istore_n C [(3, .int (nI 0)), (0, .ref h), (1, .int (nI 1)), (2, .int (nI 0))] dX0_countFloats_18 rfl (by decide) rfl ?_
    refine x_iload_n C dX0_countFloats_19 rfl 2 rfl ?_
    refine xn_if_eq C 30 (by omega) dX0_countFloats_20 (by decide) (fun h_4 => ?_) (fun h_4 => ?_)
    ·
      exact absurd h_4 (by first | decide | omega)
    ·
      refine x_aload_n C dX0_countFloats_23 rfl 1 rfl ?_
      refine x_get C hK in_X0_countFloats_X0 0 rfl rfl 2 (by decide) (by decide +kernel) rfl rfl dX0_countFloats_24 ?_
      refine x_goto C 34 dX0_countFloats_27 (by decide) ?_
      refine x_istore C [(4, .int (nI en)), (3, .int (nI 0)), (0, .ref h), (1, .int (nI 1)), (2, .int (nI 0))] dX0_countFloats_34 (by decide) rfl ?_
      refine x_iload_n C dX0_countFloats_36 rfl 3 rfl ?_
      refine xn_if_eq C 47 (by omega) dX0_countFloats_37 (by decide) (fun h_5 => ?_) (fun h_5 => ?_)
      ·
        exact absurd h_5 (by first | decide | omega)
      ·
        refine x_aload_n C dX0_countFloats_40 rfl 2 rfl ?_
        refine x_get C hK in_X0_countFloats_X0 0 rfl rfl 3 (by decide) (by decide +kernel) rfl rfl dX0_countFloats_41 ?_
        refine x_goto C 51 dX0_countFloats_44 (by decide) ?_
        refine x_istore C [(5, .int (nI pn)), (4, .int (nI en)), (3, .int (nI 0)), (0, .ref h), (1, .int (nI 1)), (2, .int (nI 0))] dX0_countFloats_51 (by decide) rfl ?_
        refine x_iconst C (nI 0) dX0_countFloats_53 (by decide +kernel) ?_
        refine x_istore C [(6, .int (nI 0)), (5, .int (nI pn)), (4, .int (nI en)), (3, .int (nI 0)), (0, .ref h), (1, .int (nI 1)), (2, .int (nI 0))] dX0_countFloats_54 (by decide) rfl ?_
        have LT_6 : ∀ (fuel : Nat) (t : Nat), (t ≤ en) → en - t < fuel → X_ p l e rm_cl_cf10 s m args below meth c Q D A H0 10 0 0 [(h, OB 0 [.ref qe, .ref qf, .int (nI en), .int (nI pn)]), (qe, AJ cJ 40 fe), (qf, AI cI 41 (cfT (fun x0 y0 => hbit (fe y0) (nI x0) == false) pn (flF ff 0 41) t))] [(0, .ref h), (1, .int (nI 1)), (3, .int (nI 0)), (4, .int (nI en)), (5, .int (nI pn)), (6, .int (nI t))] 56 [] := by
          intro fuel
          induction fuel with
          | zero =>
            intros
            exact absurd (by assumption) (Nat.not_lt_zero _)
          | succ fuel ih_LT_6 =>
            intro t ht hm_7
            refine x_iload C dX0_countFloats_56 5 rfl ?_
            refine x_iload C dX0_countFloats_58 3 rfl ?_
            refine xn_icmp_ge C 145 (by omega) (by omega) dX0_countFloats_60 (by decide) (fun h_8 => ?_) (fun h_8 => ?_)
            ·
              have heq_t : en = t := by omega
              subst heq_t
              refine x_vret C hK hlk hrt hQ hH0 hAA () ?_ [0, 1, 2] (by decide) rfl (by first | decide | omega) (by first | decide | omega) dX0_countFloats_145
              first | rfl | (exact ⟨rfl, rfl⟩) | trivial | assumption | omega
            ·
              refine x_iconst C (nI 0) dX0_countFloats_63 (by decide +kernel) ?_
              refine x_istore C [(7, .int (nI 0)), (0, .ref h), (1, .int (nI 1)), (3, .int (nI 0)), (4, .int (nI en)), (5, .int (nI pn)), (6, .int (nI t))] dX0_countFloats_64 (by decide) rfl ?_
              refine x_iconst C (nI 0) dX0_countFloats_66 (by decide +kernel) ?_
              refine x_istore C [(8, .int (nI 0)), (7, .int (nI 0)), (0, .ref h), (1, .int (nI 1)), (3, .int (nI 0)), (4, .int (nI en)), (5, .int (nI pn)), (6, .int (nI t))] dX0_countFloats_67 (by decide) rfl ?_
              have LC_9 : ∀ (fuel : Nat) (z : Nat), (z ≤ pn) → pn - z < fuel → X_ p l e rm_cl_cf10 s m args below meth c Q D A H0 10 0 0 [(h, OB 0 [.ref qe, .ref qf, .int (nI en), .int (nI pn)]), (qe, AJ cJ 40 fe), (qf, AI cI 41 (cfH (fun y0 => hbit (fe y0) (nI t) == false) (cfT (fun x0 y0 => hbit (fe y0) (nI x0) == false) pn (flF ff 0 41) t) z))] [(0, .ref h), (1, .int (nI 1)), (3, .int (nI 0)), (4, .int (nI en)), (5, .int (nI pn)), (6, .int (nI t)), (7, .int (nI (cfL (fun y0 => hbit (fe y0) (nI t) == false) z))), (8, .int (nI z))] 69 [] := by
                intro fuel
                induction fuel with
                | zero =>
                  intros
                  exact absurd (by assumption) (Nat.not_lt_zero _)
                | succ fuel ih_LC_9 =>
                  intro z hz hm_10
                  have hcfl := cfL_le (fun y0 => hbit (fe y0) (nI t) == false) z
                  refine x_iload C dX0_countFloats_69 7 rfl ?_
                  refine x_iload C dX0_countFloats_71 4 rfl ?_
                  refine xn_icmp_ge C 139 (by omega) (by omega) dX0_countFloats_73 (by decide) (fun h_11 => ?_) (fun h_11 => ?_)
                  ·
                    have heq_z : pn = z := by omega
                    subst heq_z
                    refine xn_iinc C (t + 1) [(6, .int (nI (t + 1))), (0, .ref h), (1, .int (nI 1)), (3, .int (nI 0)), (4, .int (nI en)), (5, .int (nI pn)), (7, .int (nI (cfL (fun y0 => hbit (fe y0) (nI t) == false) pn))), (8, .int (nI pn))] dX0_countFloats_139 5 rfl (by rw [show Int32.ofInt 1 = nI 1 from by decide +kernel]; exact nI_add _ _) (by decide) rfl ?_
                    refine x_goto C 56 dX0_countFloats_142 (by decide) ?_
                    refine x_lv [(0, .ref h), (1, .int (nI 1)), (3, .int (nI 0)), (4, .int (nI en)), (5, .int (nI pn)), (6, .int (nI (t + 1)))] [1, 2, 3, 4, 5, 0] rfl ?_
                    refine x_ws [(h, OB 0 [.ref qe, .ref qf, .int (nI en), .int (nI pn)]), (qe, AJ cJ 40 fe), (qf, AI cI 41 (cfT (fun x0 y0 => hbit (fe y0) (nI x0) == false) pn (flF ff 0 41) (t + 1)))] (by rfl) ?_
                    exact ih_LT_6 (t + 1) (by first | assumption | omega) (by omega)
                  ·
                    refine x_iload_n C dX0_countFloats_76 rfl 1 rfl ?_
                    refine xn_if_eq C 91 (by omega) dX0_countFloats_77 (by decide) (fun h_12 => ?_) (fun h_12 => ?_)
                    ·
                      exact absurd h_12 (by first | decide | omega)
                    ·
                      refine x_aload_n C dX0_countFloats_80 rfl 0 rfl ?_
                      refine x_iload C dX0_countFloats_81 7 rfl ?_
                      refine x_iload C dX0_countFloats_83 5 rfl ?_
                      refine x_calli (x_runV C hK hNW (c_cl_isUp l D tys cI cJ hI hJ h qe qf en pn fe (cfH (fun y0 => hbit (fe y0) (nI t) == false) (cfT (fun x0 y0 => hbit (fe y0) (nI x0) == false) pn (flF ff 0 41) t) z) z t (by first | omega | assumption) (by first | omega | assumption) (by first | omega | assumption)) (cwV 2 C.2.2.2.2 gX0_countFloats_X0_isUp rfl rfl rfl (by decide +kernel) ⟨by decide, by decide⟩) [0, 1, 2] rfl (by decide) 0 0 rfl rfl rfl (st := []) rfl rfl (Nat.le_of_ble_eq_true rfl) dX0_countFloats_85 ⟨by first | decide | omega, by first | decide | omega⟩) hA [0, 1, 2] rfl [] [] rfl (by decide) (by decide) [0, 1, 2] (by decide) (wf := (fun (u : Unit) => [(h, OB 0 [.ref qe, .ref qf, .int (nI en), .int (nI pn)]), (qe, AJ cJ 40 fe), (qf, AI cI 41 (cfH (fun y0 => hbit (fe y0) (nI t) == false) (cfT (fun x0 y0 => hbit (fe y0) (nI x0) == false) pn (flF ff 0 41) t) z))])) (fun _ => rfl) (fun r_13 u h_14 => ?_)
                      subst h_14
                      refine x_goto C 99 dX0_countFloats_88 (by decide) ?_
                      refine x_istore C [(9, .int (bI (hbit (fe z) (nI t)))), (0, .ref h), (1, .int (nI 1)), (3, .int (nI 0)), (4, .int (nI en)), (5, .int (nI pn)), (6, .int (nI t)), (7, .int (nI (cfL (fun y0 => hbit (fe y0) (nI t) == false) z))), (8, .int (nI z))] dX0_countFloats_99 (by decide) rfl ?_
                      rcases Bool.eq_false_or_eq_true (hbit (fe z) (nI t)) with hu | hu
                      ·
                        have hy : ((hbit (fe z) (nI t)) == false) = false := by rw [hu]; rfl
                        have hcl := cfL_n (b := (fun y0 => hbit (fe y0) (nI t) == false)) (k := z) hy
                        have hch := cfH_n (b := (fun y0 => hbit (fe y0) (nI t) == false)) (g := cfT (fun x0 y0 => hbit (fe y0) (nI x0) == false) pn (flF ff 0 41) t) (k := z) hy
                        refine x_lv [(9, .int (nI 1)), (0, .ref h), (1, .int (nI 1)), (3, .int (nI 0)), (4, .int (nI en)), (5, .int (nI pn)), (6, .int (nI t)), (7, .int (nI (cfL (fun y0 => hbit (fe y0) (nI t) == false) z))), (8, .int (nI z))] [0, 1, 2, 3, 4, 5, 6, 7, 8] (by rw [hu]; rfl) ?_
                        refine x_iload C dX0_countFloats_101 0 rfl ?_
                        refine x_iload_n C dX0_countFloats_103 rfl 3 rfl ?_
                        refine xn_icmp_ne C 114 (by omega) (by omega) dX0_countFloats_104 (by decide) (fun h_15 => ?_) (fun h_15 => ?_)
                        ·
                          refine x_iconst C (nI 0) dX0_countFloats_114 (by decide +kernel) ?_
                          refine x_istore C [(7, .int (nI 0)), (9, .int (nI 1)), (0, .ref h), (1, .int (nI 1)), (3, .int (nI 0)), (4, .int (nI en)), (5, .int (nI pn)), (6, .int (nI t)), (8, .int (nI z))] dX0_countFloats_115 (by decide) rfl ?_
                          refine x_iload C dX0_countFloats_117 0 rfl ?_
                          refine xn_if_le C 133 (by omega) dX0_countFloats_119 (by decide) (fun h_16 => ?_) (fun h_16 => ?_)
                          ·
                            refine xn_iinc C (z + 1) [(8, .int (nI (z + 1))), (7, .int (nI 0)), (9, .int (nI 1)), (0, .ref h), (1, .int (nI 1)), (3, .int (nI 0)), (4, .int (nI en)), (5, .int (nI pn)), (6, .int (nI t))] dX0_countFloats_133 8 rfl (by rw [show Int32.ofInt 1 = nI 1 from by decide +kernel]; exact nI_add _ _) (by decide) rfl ?_
                            refine x_goto C 69 dX0_countFloats_136 (by decide) ?_
                            refine x_lv [(0, .ref h), (1, .int (nI 1)), (3, .int (nI 0)), (4, .int (nI en)), (5, .int (nI pn)), (6, .int (nI t)), (7, .int (nI (cfL (fun y0 => hbit (fe y0) (nI t) == false) (z + 1)))), (8, .int (nI (z + 1)))] [3, 4, 5, 6, 7, 8, 1, 0] (by rw [show cfL (fun y0 => hbit (fe y0) (nI t) == false) (z + 1) = 0 from by rw [hcl]]; rfl) ?_
                            refine x_ws [(h, OB 0 [.ref qe, .ref qf, .int (nI en), .int (nI pn)]), (qe, AJ cJ 40 fe), (qf, AI cI 41 (cfH (fun y0 => hbit (fe y0) (nI t) == false) (cfT (fun x0 y0 => hbit (fe y0) (nI x0) == false) pn (flF ff 0 41) t) (z + 1)))] (by rw [hch]) ?_
                            exact ih_LC_9 (z + 1) (by first | assumption | omega) (by omega)
                          ·
                            exact absurd h_16 (by first | decide | omega)
                        ·
                          exact absurd h_15 (by first | decide | omega)
                      ·
                        have hy : ((hbit (fe z) (nI t)) == false) = true := by rw [hu]; rfl
                        have hcl := cfL_y (b := (fun y0 => hbit (fe y0) (nI t) == false)) (k := z) hy
                        have hch := cfH_y (b := (fun y0 => hbit (fe y0) (nI t) == false)) (g := cfT (fun x0 y0 => hbit (fe y0) (nI x0) == false) pn (flF ff 0 41) t) (k := z) hy
                        refine x_lv [(9, .int (nI 0)), (0, .ref h), (1, .int (nI 1)), (3, .int (nI 0)), (4, .int (nI en)), (5, .int (nI pn)), (6, .int (nI t)), (7, .int (nI (cfL (fun y0 => hbit (fe y0) (nI t) == false) z))), (8, .int (nI z))] [0, 1, 2, 3, 4, 5, 6, 7, 8] (by rw [hu]; rfl) ?_
                        refine x_iload C dX0_countFloats_101 0 rfl ?_
                        refine x_iload_n C dX0_countFloats_103 rfl 3 rfl ?_
                        refine xn_icmp_ne C 114 (by omega) (by omega) dX0_countFloats_104 (by decide) (fun h_17 => ?_) (fun h_17 => ?_)
                        ·
                          exact absurd h_17 (by first | decide | omega)
                        ·
                          refine x_iload C dX0_countFloats_107 7 rfl ?_
                          refine x_iconst C (nI 1) dX0_countFloats_109 (by decide +kernel) ?_
                          refine xn_iadd C dX0_countFloats_110 ?_
                          refine x_goto C 115 dX0_countFloats_111 (by decide) ?_
                          refine x_istore C [(7, .int (nI ((cfL (fun y0 => hbit (fe y0) (nI t) == false) z) + 1))), (9, .int (nI 0)), (0, .ref h), (1, .int (nI 1)), (3, .int (nI 0)), (4, .int (nI en)), (5, .int (nI pn)), (6, .int (nI t)), (8, .int (nI z))] dX0_countFloats_115 (by decide) rfl ?_
                          refine x_iload C dX0_countFloats_117 0 rfl ?_
                          refine xn_if_le C 133 (by omega) dX0_countFloats_119 (by decide) (fun h_18 => ?_) (fun h_18 => ?_)
                          ·
                            exact absurd h_18 (by first | decide | omega)
                          ·
                            refine x_aload_n C dX0_countFloats_122 rfl 2 rfl ?_
                            refine x_get C hK in_X0_countFloats_X0 0 rfl rfl 1 (by decide) (by decide +kernel) rfl rfl dX0_countFloats_123 ?_
                            refine x_iload C dX0_countFloats_126 0 rfl ?_
                            refine x_dup2 C dX0_countFloats_128 rfl rfl ?_
                            refine x_iald C hK 2 0 rfl hI (by omega) (by omega) dX0_countFloats_129 ?_
                            refine x_iconst C (nI 1) dX0_countFloats_130 (by decide +kernel) ?_
                            refine x_iadd C _ dX0_countFloats_131 rfl ?_
                            refine x_iast C hK 2 0 rfl hI (by omega) (by omega) [(h, OB 0 [.ref qe, .ref qf, .int (nI en), .int (nI pn)]), (qe, AJ cJ 40 fe), (qf, AI cI 41 (upd (cfH (fun y0 => hbit (fe y0) (nI t) == false) (cfT (fun x0 y0 => hbit (fe y0) (nI x0) == false) pn (flF ff 0 41) t) z) ((cfL (fun y0 => hbit (fe y0) (nI t) == false) z) + 1) (((cfH (fun y0 => hbit (fe y0) (nI t) == false) (cfT (fun x0 y0 => hbit (fe y0) (nI x0) == false) pn (flF ff 0 41) t) z) ((cfL (fun y0 => hbit (fe y0) (nI t) == false) z) + 1)) + (nI 1))))] rfl dX0_countFloats_132 ?_
                            refine xn_iinc C (z + 1) [(8, .int (nI (z + 1))), (7, .int (nI ((cfL (fun y0 => hbit (fe y0) (nI t) == false) z) + 1))), (9, .int (nI 0)), (0, .ref h), (1, .int (nI 1)), (3, .int (nI 0)), (4, .int (nI en)), (5, .int (nI pn)), (6, .int (nI t))] dX0_countFloats_133 8 rfl (by rw [show Int32.ofInt 1 = nI 1 from by decide +kernel]; exact nI_add _ _) (by decide) rfl ?_
                            refine x_goto C 69 dX0_countFloats_136 (by decide) ?_
                            refine x_lv [(0, .ref h), (1, .int (nI 1)), (3, .int (nI 0)), (4, .int (nI en)), (5, .int (nI pn)), (6, .int (nI t)), (7, .int (nI (cfL (fun y0 => hbit (fe y0) (nI t) == false) (z + 1)))), (8, .int (nI (z + 1)))] [3, 4, 5, 6, 7, 8, 1, 0] (by rw [show cfL (fun y0 => hbit (fe y0) (nI t) == false) (z + 1) = (cfL (fun y0 => hbit (fe y0) (nI t) == false) z) + 1 from by rw [hcl]]; rfl) ?_
                            refine x_ws [(h, OB 0 [.ref qe, .ref qf, .int (nI en), .int (nI pn)]), (qe, AJ cJ 40 fe), (qf, AI cI 41 (cfH (fun y0 => hbit (fe y0) (nI t) == false) (cfT (fun x0 y0 => hbit (fe y0) (nI x0) == false) pn (flF ff 0 41) t) (z + 1)))] (by rw [hch]) ?_
                            exact ih_LC_9 (z + 1) (by first | assumption | omega) (by omega)
              refine x_lv [(0, .ref h), (1, .int (nI 1)), (3, .int (nI 0)), (4, .int (nI en)), (5, .int (nI pn)), (6, .int (nI t)), (7, .int (nI (cfL (fun y0 => hbit (fe y0) (nI t) == false) 0))), (8, .int (nI 0))] [2, 3, 4, 5, 6, 7, 1, 0] (by rw [show cfL (fun y0 => hbit (fe y0) (nI t) == false) 0 = 0 from by first | rfl | omega]; rfl) ?_
              refine x_ws [(h, OB 0 [.ref qe, .ref qf, .int (nI en), .int (nI pn)]), (qe, AJ cJ 40 fe), (qf, AI cI 41 (cfH (fun y0 => hbit (fe y0) (nI t) == false) (cfT (fun x0 y0 => hbit (fe y0) (nI x0) == false) pn (flF ff 0 41) t) 0))] (by rfl) ?_
              exact LC_9 (pn - 0 + 1) 0 (by first | assumption | omega) (Nat.lt_succ_self _)
        refine x_lv [(0, .ref h), (1, .int (nI 1)), (3, .int (nI 0)), (4, .int (nI en)), (5, .int (nI pn)), (6, .int (nI 0))] [4, 5, 3, 2, 1, 0] rfl ?_
        refine x_ws [(h, OB 0 [.ref qe, .ref qf, .int (nI en), .int (nI pn)]), (qe, AJ cJ 40 fe), (qf, AI cI 41 (cfT (fun x0 y0 => hbit (fe y0) (nI x0) == false) pn (flF ff 0 41) 0))] (by rfl) ?_
        exact LT_6 (en - 0 + 1) 0 (by first | assumption | omega) (Nat.lt_succ_self _)
  ·
    exact absurd h_3 (by first | decide | omega)
abbrev rm_cl_cf01 : Room := { frames := 2, cells := 0, slots := 0, locals := 44 }
set_option maxRecDepth 100000 in
set_option maxHeartbeats 4000000 in
theorem c_cl_cf01 (l : Launch) (D : va_G) (tys : List (ClassId × FieldType)) (cI cJ : ClassId) (hI : tys[0]? = some (cI, .int)) (hJ : tys[1]? = some (cJ, .long)) (h : Nat) (qe : Nat) (qf : Nat) (en : Nat) (pn : Nat) (fe : Nat → Int64) (ff : Nat → Int32) (he : en ≤ 40) (hp : pn ≤ 40) : MV l yX0_countFloats wsX0_countFloats rm_cl_cf01 D tys [.ref h, .int (nI 0), .int (nI 1)] [(h, OB 0 [.ref qe, .ref qf, .int (nI en), .int (nI pn)]), (qe, AJ cJ 40 fe), (qf, AI cI 41 ff)] Unit (fun (_ : Unit) => True) (fun (_ : Unit) => [(h, OB 0 [.ref qe, .ref qf, .int (nI en), .int (nI pn)]), (qe, AJ cJ 40 fe), (qf, AI cI 41 (cfT (fun x0 y0 => hbit (fe x0) (nI y0) == false) en (flF ff 0 41) pn))]) 0 0 := by
  intro sz
  refine x_met (cc := cX0_countFloats) (maxL := 10) (ret := none) (by decide +kernel) rfl (by show _ ≤ _; simp [lg_sl, Value.category]) [(0, .ref h), (1, .int (nI 0)), (2, .int (nI 1))] rfl ?_
  intro p e s m args below meth c Q A H0 C hK hNW hlk hrt hnm hQ hH0 hAA hA
  refine x_aload_n C dX0_countFloats_0 rfl 0 rfl ?_
  refine x_get C hK in_X0_countFloats_X0 0 rfl rfl 1 (by decide) (by decide +kernel) rfl rfl dX0_countFloats_1 ?_
  refine x_iconst C (nI 0) dX0_countFloats_4 (by decide +kernel) ?_
  refine x_callv (x_runS C hK hNW (c_fill l D tys cI cJ hI hJ qf 41 ff (nI 0) (by first | omega | assumption)) (va_cwS 2 C.2.2.2.2 gX0_countFloats_J7_fill_53178 rfl rfl rfl (by decide +kernel) ⟨by decide, by decide⟩) [2] rfl (by decide) (st := []) rfl rfl (Nat.le_of_ble_eq_true rfl) dX0_countFloats_5 ⟨by first | decide | omega, by first | decide | omega⟩) hA [2] rfl [0, 1] [(h, OB 0 [.ref qe, .ref qf, .int (nI en), .int (nI pn)]), (qe, AJ cJ 40 fe)] rfl (by decide) (by decide) [0, 1, 2] (by decide) (wf := (fun (u : Unit) => [(h, OB 0 [.ref qe, .ref qf, .int (nI en), .int (nI pn)]), (qe, AJ cJ 40 fe), (qf, AI cI 41 (flF ff (nI 0) 41))])) (fun _ => rfl) (fun u h_2 => ?_)
  refine x_iload_n C dX0_countFloats_8 rfl 1 rfl ?_
  refine x_iload_n C dX0_countFloats_9 rfl 2 rfl ?_
  refine xn_icmp_ne C 17 (by omega) (by omega) dX0_countFloats_10 (by decide) (fun h_3 => ?_) (fun h_3 => ?_)
  ·
    refine x_iconst C (nI 0) dX0_countFloats_17 (by decide +kernel) ?_
    refine x_istore_n C [(3, .int (nI 0)), (0, .ref h), (1, .int (nI 0)), (2, .int (nI 1))] dX0_countFloats_18 rfl (by decide) rfl ?_
    refine x_iload_n C dX0_countFloats_19 rfl 2 rfl ?_
    refine xn_if_eq C 30 (by omega) dX0_countFloats_20 (by decide) (fun h_4 => ?_) (fun h_4 => ?_)
    ·
      refine x_aload_n C dX0_countFloats_30 rfl 1 rfl ?_
      refine x_get C hK in_X0_countFloats_X0 0 rfl rfl 3 (by decide) (by decide +kernel) rfl rfl dX0_countFloats_31 ?_
      refine x_istore C [(4, .int (nI pn)), (3, .int (nI 0)), (0, .ref h), (1, .int (nI 0)), (2, .int (nI 1))] dX0_countFloats_34 (by decide) rfl ?_
      refine x_iload_n C dX0_countFloats_36 rfl 3 rfl ?_
      refine xn_if_eq C 47 (by omega) dX0_countFloats_37 (by decide) (fun h_5 => ?_) (fun h_5 => ?_)
      ·
        refine x_aload_n C dX0_countFloats_47 rfl 2 rfl ?_
        refine x_get C hK in_X0_countFloats_X0 0 rfl rfl 2 (by decide) (by decide +kernel) rfl rfl dX0_countFloats_48 ?_
        refine x_istore C [(5, .int (nI en)), (4, .int (nI pn)), (3, .int (nI 0)), (0, .ref h), (1, .int (nI 0)), (2, .int (nI 1))] dX0_countFloats_51 (by decide) rfl ?_
        refine x_iconst C (nI 0) dX0_countFloats_53 (by decide +kernel) ?_
        refine x_istore C [(6, .int (nI 0)), (5, .int (nI en)), (4, .int (nI pn)), (3, .int (nI 0)), (0, .ref h), (1, .int (nI 0)), (2, .int (nI 1))] dX0_countFloats_54 (by decide) rfl ?_
        have LT_6 : ∀ (fuel : Nat) (t : Nat), (t ≤ pn) → pn - t < fuel → X_ p l e rm_cl_cf01 s m args below meth c Q D A H0 10 0 0 [(h, OB 0 [.ref qe, .ref qf, .int (nI en), .int (nI pn)]), (qe, AJ cJ 40 fe), (qf, AI cI 41 (cfT (fun x0 y0 => hbit (fe x0) (nI y0) == false) en (flF ff 0 41) t))] [(0, .ref h), (1, .int (nI 0)), (3, .int (nI 0)), (4, .int (nI pn)), (5, .int (nI en)), (6, .int (nI t))] 56 [] := by
          intro fuel
          induction fuel with
          | zero =>
            intros
            exact absurd (by assumption) (Nat.not_lt_zero _)
          | succ fuel ih_LT_6 =>
            intro t ht hm_7
            refine x_iload C dX0_countFloats_56 5 rfl ?_
            refine x_iload C dX0_countFloats_58 3 rfl ?_
            refine xn_icmp_ge C 145 (by omega) (by omega) dX0_countFloats_60 (by decide) (fun h_8 => ?_) (fun h_8 => ?_)
            ·
              have heq_t : pn = t := by omega
              subst heq_t
              refine x_vret C hK hlk hrt hQ hH0 hAA () ?_ [0, 1, 2] (by decide) rfl (by first | decide | omega) (by first | decide | omega) dX0_countFloats_145
              first | rfl | (exact ⟨rfl, rfl⟩) | trivial | assumption | omega
            ·
              refine x_iconst C (nI 0) dX0_countFloats_63 (by decide +kernel) ?_
              refine x_istore C [(7, .int (nI 0)), (0, .ref h), (1, .int (nI 0)), (3, .int (nI 0)), (4, .int (nI pn)), (5, .int (nI en)), (6, .int (nI t))] dX0_countFloats_64 (by decide) rfl ?_
              refine x_iconst C (nI 0) dX0_countFloats_66 (by decide +kernel) ?_
              refine x_istore C [(8, .int (nI 0)), (7, .int (nI 0)), (0, .ref h), (1, .int (nI 0)), (3, .int (nI 0)), (4, .int (nI pn)), (5, .int (nI en)), (6, .int (nI t))] dX0_countFloats_67 (by decide) rfl ?_
              have LC_9 : ∀ (fuel : Nat) (z : Nat), (z ≤ en) → en - z < fuel → X_ p l e rm_cl_cf01 s m args below meth c Q D A H0 10 0 0 [(h, OB 0 [.ref qe, .ref qf, .int (nI en), .int (nI pn)]), (qe, AJ cJ 40 fe), (qf, AI cI 41 (cfH (fun y0 => hbit (fe t) (nI y0) == false) (cfT (fun x0 y0 => hbit (fe x0) (nI y0) == false) en (flF ff 0 41) t) z))] [(0, .ref h), (1, .int (nI 0)), (3, .int (nI 0)), (4, .int (nI pn)), (5, .int (nI en)), (6, .int (nI t)), (7, .int (nI (cfL (fun y0 => hbit (fe t) (nI y0) == false) z))), (8, .int (nI z))] 69 [] := by
                intro fuel
                induction fuel with
                | zero =>
                  intros
                  exact absurd (by assumption) (Nat.not_lt_zero _)
                | succ fuel ih_LC_9 =>
                  intro z hz hm_10
                  have hcfl := cfL_le (fun y0 => hbit (fe t) (nI y0) == false) z
                  refine x_iload C dX0_countFloats_69 7 rfl ?_
                  refine x_iload C dX0_countFloats_71 4 rfl ?_
                  refine xn_icmp_ge C 139 (by omega) (by omega) dX0_countFloats_73 (by decide) (fun h_11 => ?_) (fun h_11 => ?_)
                  ·
                    have heq_z : en = z := by omega
                    subst heq_z
                    refine xn_iinc C (t + 1) [(6, .int (nI (t + 1))), (0, .ref h), (1, .int (nI 0)), (3, .int (nI 0)), (4, .int (nI pn)), (5, .int (nI en)), (7, .int (nI (cfL (fun y0 => hbit (fe t) (nI y0) == false) en))), (8, .int (nI en))] dX0_countFloats_139 5 rfl (by rw [show Int32.ofInt 1 = nI 1 from by decide +kernel]; exact nI_add _ _) (by decide) rfl ?_
                    refine x_goto C 56 dX0_countFloats_142 (by decide) ?_
                    refine x_lv [(0, .ref h), (1, .int (nI 0)), (3, .int (nI 0)), (4, .int (nI pn)), (5, .int (nI en)), (6, .int (nI (t + 1)))] [1, 2, 3, 4, 5, 0] rfl ?_
                    refine x_ws [(h, OB 0 [.ref qe, .ref qf, .int (nI en), .int (nI pn)]), (qe, AJ cJ 40 fe), (qf, AI cI 41 (cfT (fun x0 y0 => hbit (fe x0) (nI y0) == false) en (flF ff 0 41) (t + 1)))] (by rfl) ?_
                    exact ih_LT_6 (t + 1) (by first | assumption | omega) (by omega)
                  ·
                    refine x_iload_n C dX0_countFloats_76 rfl 1 rfl ?_
                    refine xn_if_eq C 91 (by omega) dX0_countFloats_77 (by decide) (fun h_12 => ?_) (fun h_12 => ?_)
                    ·
                      refine x_aload_n C dX0_countFloats_91 rfl 0 rfl ?_
                      refine x_iload C dX0_countFloats_92 5 rfl ?_
                      refine x_iload C dX0_countFloats_94 7 rfl ?_
                      refine x_calli (x_runV C hK hNW (c_cl_isUp l D tys cI cJ hI hJ h qe qf en pn fe (cfH (fun y0 => hbit (fe t) (nI y0) == false) (cfT (fun x0 y0 => hbit (fe x0) (nI y0) == false) en (flF ff 0 41) t) z) t z (by first | omega | assumption) (by first | omega | assumption) (by first | omega | assumption)) (cwV 2 C.2.2.2.2 gX0_countFloats_X0_isUp rfl rfl rfl (by decide +kernel) ⟨by decide, by decide⟩) [0, 1, 2] rfl (by decide) 0 0 rfl rfl rfl (st := []) rfl rfl (Nat.le_of_ble_eq_true rfl) dX0_countFloats_96 ⟨by first | decide | omega, by first | decide | omega⟩) hA [0, 1, 2] rfl [] [] rfl (by decide) (by decide) [0, 1, 2] (by decide) (wf := (fun (u : Unit) => [(h, OB 0 [.ref qe, .ref qf, .int (nI en), .int (nI pn)]), (qe, AJ cJ 40 fe), (qf, AI cI 41 (cfH (fun y0 => hbit (fe t) (nI y0) == false) (cfT (fun x0 y0 => hbit (fe x0) (nI y0) == false) en (flF ff 0 41) t) z))])) (fun _ => rfl) (fun r_13 u h_14 => ?_)
                      subst h_14
                      refine x_istore C [(9, .int (bI (hbit (fe t) (nI z)))), (0, .ref h), (1, .int (nI 0)), (3, .int (nI 0)), (4, .int (nI pn)), (5, .int (nI en)), (6, .int (nI t)), (7, .int (nI (cfL (fun y0 => hbit (fe t) (nI y0) == false) z))), (8, .int (nI z))] dX0_countFloats_99 (by decide) rfl ?_
                      rcases Bool.eq_false_or_eq_true (hbit (fe t) (nI z)) with hu | hu
                      ·
                        have hy : ((hbit (fe t) (nI z)) == false) = false := by rw [hu]; rfl
                        have hcl := cfL_n (b := (fun y0 => hbit (fe t) (nI y0) == false)) (k := z) hy
                        have hch := cfH_n (b := (fun y0 => hbit (fe t) (nI y0) == false)) (g := cfT (fun x0 y0 => hbit (fe x0) (nI y0) == false) en (flF ff 0 41) t) (k := z) hy
                        refine x_lv [(9, .int (nI 1)), (0, .ref h), (1, .int (nI 0)), (3, .int (nI 0)), (4, .int (nI pn)), (5, .int (nI en)), (6, .int (nI t)), (7, .int (nI (cfL (fun y0 => hbit (fe t) (nI y0) == false) z))), (8, .int (nI z))] [0, 1, 2, 3, 4, 5, 6, 7, 8] (by rw [hu]; rfl) ?_
                        refine x_iload C dX0_countFloats_101 0 rfl ?_
                        refine x_iload_n C dX0_countFloats_103 rfl 3 rfl ?_
                        refine xn_icmp_ne C 114 (by omega) (by omega) dX0_countFloats_104 (by decide) (fun h_15 => ?_) (fun h_15 => ?_)
                        ·
                          refine x_iconst C (nI 0) dX0_countFloats_114 (by decide +kernel) ?_
                          refine x_istore C [(7, .int (nI 0)), (9, .int (nI 1)), (0, .ref h), (1, .int (nI 0)), (3, .int (nI 0)), (4, .int (nI pn)), (5, .int (nI en)), (6, .int (nI t)), (8, .int (nI z))] dX0_countFloats_115 (by decide) rfl ?_
                          refine x_iload C dX0_countFloats_117 0 rfl ?_
                          refine xn_if_le C 133 (by omega) dX0_countFloats_119 (by decide) (fun h_16 => ?_) (fun h_16 => ?_)
                          ·
                            refine xn_iinc C (z + 1) [(8, .int (nI (z + 1))), (7, .int (nI 0)), (9, .int (nI 1)), (0, .ref h), (1, .int (nI 0)), (3, .int (nI 0)), (4, .int (nI pn)), (5, .int (nI en)), (6, .int (nI t))] dX0_countFloats_133 8 rfl (by rw [show Int32.ofInt 1 = nI 1 from by decide +kernel]; exact nI_add _ _) (by decide) rfl ?_
                            refine x_goto C 69 dX0_countFloats_136 (by decide) ?_
                            refine x_lv [(0, .ref h), (1, .int (nI 0)), (3, .int (nI 0)), (4, .int (nI pn)), (5, .int (nI en)), (6, .int (nI t)), (7, .int (nI (cfL (fun y0 => hbit (fe t) (nI y0) == false) (z + 1)))), (8, .int (nI (z + 1)))] [3, 4, 5, 6, 7, 8, 1, 0] (by rw [show cfL (fun y0 => hbit (fe t) (nI y0) == false) (z + 1) = 0 from by rw [hcl]]; rfl) ?_
                            refine x_ws [(h, OB 0 [.ref qe, .ref qf, .int (nI en), .int (nI pn)]), (qe, AJ cJ 40 fe), (qf, AI cI 41 (cfH (fun y0 => hbit (fe t) (nI y0) == false) (cfT (fun x0 y0 => hbit (fe x0) (nI y0) == false) en (flF ff 0 41) t) (z + 1)))] (by rw [hch]) ?_
                            exact ih_LC_9 (z + 1) (by first | assumption | omega) (by omega)
                          ·
                            exact absurd h_16 (by first | decide | omega)
                        ·
                          exact absurd h_15 (by first | decide | omega)
                      ·
                        have hy : ((hbit (fe t) (nI z)) == false) = true := by rw [hu]; rfl
                        have hcl := cfL_y (b := (fun y0 => hbit (fe t) (nI y0) == false)) (k := z) hy
                        have hch := cfH_y (b := (fun y0 => hbit (fe t) (nI y0) == false)) (g := cfT (fun x0 y0 => hbit (fe x0) (nI y0) == false) en (flF ff 0 41) t) (k := z) hy
                        refine x_lv [(9, .int (nI 0)), (0, .ref h), (1, .int (nI 0)), (3, .int (nI 0)), (4, .int (nI pn)), (5, .int (nI en)), (6, .int (nI t)), (7, .int (nI (cfL (fun y0 => hbit (fe t) (nI y0) == false) z))), (8, .int (nI z))] [0, 1, 2, 3, 4, 5, 6, 7, 8] (by rw [hu]; rfl) ?_
                        refine x_iload C dX0_countFloats_101 0 rfl ?_
                        refine x_iload_n C dX0_countFloats_103 rfl 3 rfl ?_
                        refine xn_icmp_ne C 114 (by omega) (by omega) dX0_countFloats_104 (by decide) (fun h_17 => ?_) (fun h_17 => ?_)
                        ·
                          exact absurd h_17 (by first | decide | omega)
                        ·
                          refine x_iload C dX0_countFloats_107 7 rfl ?_
                          refine x_iconst C (nI 1) dX0_countFloats_109 (by decide +kernel) ?_
                          refine xn_iadd C dX0_countFloats_110 ?_
                          refine x_goto C 115 dX0_countFloats_111 (by decide) ?_
                          refine x_istore C [(7, .int (nI ((cfL (fun y0 => hbit (fe t) (nI y0) == false) z) + 1))), (9, .int (nI 0)), (0, .ref h), (1, .int (nI 0)), (3, .int (nI 0)), (4, .int (nI pn)), (5, .int (nI en)), (6, .int (nI t)), (8, .int (nI z))] dX0_countFloats_115 (by decide) rfl ?_
                          refine x_iload C dX0_countFloats_117 0 rfl ?_
                          refine xn_if_le C 133 (by omega) dX0_countFloats_119 (by decide) (fun h_18 => ?_) (fun h_18 => ?_)
                          ·
                            exact absurd h_18 (by first | decide | omega)
                          ·
                            refine x_aload_n C dX0_countFloats_122 rfl 2 rfl ?_
                            refine x_get C hK in_X0_countFloats_X0 0 rfl rfl 1 (by decide) (by decide +kernel) rfl rfl dX0_countFloats_123 ?_
                            refine x_iload C dX0_countFloats_126 0 rfl ?_
                            refine x_dup2 C dX0_countFloats_128 rfl rfl ?_
                            refine x_iald C hK 2 0 rfl hI (by omega) (by omega) dX0_countFloats_129 ?_
                            refine x_iconst C (nI 1) dX0_countFloats_130 (by decide +kernel) ?_
                            refine x_iadd C _ dX0_countFloats_131 rfl ?_
                            refine x_iast C hK 2 0 rfl hI (by omega) (by omega) [(h, OB 0 [.ref qe, .ref qf, .int (nI en), .int (nI pn)]), (qe, AJ cJ 40 fe), (qf, AI cI 41 (upd (cfH (fun y0 => hbit (fe t) (nI y0) == false) (cfT (fun x0 y0 => hbit (fe x0) (nI y0) == false) en (flF ff 0 41) t) z) ((cfL (fun y0 => hbit (fe t) (nI y0) == false) z) + 1) (((cfH (fun y0 => hbit (fe t) (nI y0) == false) (cfT (fun x0 y0 => hbit (fe x0) (nI y0) == false) en (flF ff 0 41) t) z) ((cfL (fun y0 => hbit (fe t) (nI y0) == false) z) + 1)) + (nI 1))))] rfl dX0_countFloats_132 ?_
                            refine xn_iinc C (z + 1) [(8, .int (nI (z + 1))), (7, .int (nI ((cfL (fun y0 => hbit (fe t) (nI y0) == false) z) + 1))), (9, .int (nI 0)), (0, .ref h), (1, .int (nI 0)), (3, .int (nI 0)), (4, .int (nI pn)), (5, .int (nI en)), (6, .int (nI t))] dX0_countFloats_133 8 rfl (by rw [show Int32.ofInt 1 = nI 1 from by decide +kernel]; exact nI_add _ _) (by decide) rfl ?_
                            refine x_goto C 69 dX0_countFloats_136 (by decide) ?_
                            refine x_lv [(0, .ref h), (1, .int (nI 0)), (3, .int (nI 0)), (4, .int (nI pn)), (5, .int (nI en)), (6, .int (nI t)), (7, .int (nI (cfL (fun y0 => hbit (fe t) (nI y0) == false) (z + 1)))), (8, .int (nI (z + 1)))] [3, 4, 5, 6, 7, 8, 1, 0] (by rw [show cfL (fun y0 => hbit (fe t) (nI y0) == false) (z + 1) = (cfL (fun y0 => hbit (fe t) (nI y0) == false) z) + 1 from by rw [hcl]]; rfl) ?_
                            refine x_ws [(h, OB 0 [.ref qe, .ref qf, .int (nI en), .int (nI pn)]), (qe, AJ cJ 40 fe), (qf, AI cI 41 (cfH (fun y0 => hbit (fe t) (nI y0) == false) (cfT (fun x0 y0 => hbit (fe x0) (nI y0) == false) en (flF ff 0 41) t) (z + 1)))] (by rw [hch]) ?_
                            exact ih_LC_9 (z + 1) (by first | assumption | omega) (by omega)
                    ·
                      exact absurd h_12 (by first | decide | omega)
              refine x_lv [(0, .ref h), (1, .int (nI 0)), (3, .int (nI 0)), (4, .int (nI pn)), (5, .int (nI en)), (6, .int (nI t)), (7, .int (nI (cfL (fun y0 => hbit (fe t) (nI y0) == false) 0))), (8, .int (nI 0))] [2, 3, 4, 5, 6, 7, 1, 0] (by rw [show cfL (fun y0 => hbit (fe t) (nI y0) == false) 0 = 0 from by first | rfl | omega]; rfl) ?_
              refine x_ws [(h, OB 0 [.ref qe, .ref qf, .int (nI en), .int (nI pn)]), (qe, AJ cJ 40 fe), (qf, AI cI 41 (cfH (fun y0 => hbit (fe t) (nI y0) == false) (cfT (fun x0 y0 => hbit (fe x0) (nI y0) == false) en (flF ff 0 41) t) 0))] (by rfl) ?_
              exact LC_9 (en - 0 + 1) 0 (by first | assumption | omega) (Nat.lt_succ_self _)
        refine x_lv [(0, .ref h), (1, .int (nI 0)), (3, .int (nI 0)), (4, .int (nI pn)), (5, .int (nI en)), (6, .int (nI 0))] [4, 5, 3, 2, 1, 0] rfl ?_
        refine x_ws [(h, OB 0 [.ref qe, .ref qf, .int (nI en), .int (nI pn)]), (qe, AJ cJ 40 fe), (qf, AI cI 41 (cfT (fun x0 y0 => hbit (fe x0) (nI y0) == false) en (flF ff 0 41) 0))] (by rfl) ?_
        exact LT_6 (pn - 0 + 1) 0 (by first | assumption | omega) (Nat.lt_succ_self _)
      ·
        exact absurd h_5 (by first | decide | omega)
    ·
      exact absurd h_4 (by first | decide | omega)
  ·
    exact absurd h_3 (by first | decide | omega)
abbrev rm_cl_cf00 : Room := { frames := 2, cells := 0, slots := 0, locals := 44 }
set_option maxRecDepth 100000 in
set_option maxHeartbeats 4000000 in
theorem c_cl_cf00 (l : Launch) (D : va_G) (tys : List (ClassId × FieldType)) (cI cJ : ClassId) (hI : tys[0]? = some (cI, .int)) (hJ : tys[1]? = some (cJ, .long)) (h : Nat) (qe : Nat) (qf : Nat) (en : Nat) (pn : Nat) (fe : Nat → Int64) (ff : Nat → Int32) (he : en ≤ 40) (hp : pn ≤ 40) : MV l yX0_countFloats wsX0_countFloats rm_cl_cf00 D tys [.ref h, .int (nI 0), .int (nI 0)] [(h, OB 0 [.ref qe, .ref qf, .int (nI en), .int (nI pn)]), (qe, AJ cJ 40 fe), (qf, AI cI 41 ff)] Unit (fun (_ : Unit) => True) (fun (_ : Unit) => [(h, OB 0 [.ref qe, .ref qf, .int (nI en), .int (nI pn)]), (qe, AJ cJ 40 fe), (qf, AI cI 41 (cfT (fun x0 y0 => hbit (fe x0) (nI y0) == true) en (flF ff 0 41) pn))]) 0 0 := by
  intro sz
  refine x_met (cc := cX0_countFloats) (maxL := 10) (ret := none) (by decide +kernel) rfl (by show _ ≤ _; simp [lg_sl, Value.category]) [(0, .ref h), (1, .int (nI 0)), (2, .int (nI 0))] rfl ?_
  intro p e s m args below meth c Q A H0 C hK hNW hlk hrt hnm hQ hH0 hAA hA
  refine x_aload_n C dX0_countFloats_0 rfl 0 rfl ?_
  refine x_get C hK in_X0_countFloats_X0 0 rfl rfl 1 (by decide) (by decide +kernel) rfl rfl dX0_countFloats_1 ?_
  refine x_iconst C (nI 0) dX0_countFloats_4 (by decide +kernel) ?_
  refine x_callv (x_runS C hK hNW (c_fill l D tys cI cJ hI hJ qf 41 ff (nI 0) (by first | omega | assumption)) (va_cwS 2 C.2.2.2.2 gX0_countFloats_J7_fill_53178 rfl rfl rfl (by decide +kernel) ⟨by decide, by decide⟩) [2] rfl (by decide) (st := []) rfl rfl (Nat.le_of_ble_eq_true rfl) dX0_countFloats_5 ⟨by first | decide | omega, by first | decide | omega⟩) hA [2] rfl [0, 1] [(h, OB 0 [.ref qe, .ref qf, .int (nI en), .int (nI pn)]), (qe, AJ cJ 40 fe)] rfl (by decide) (by decide) [0, 1, 2] (by decide) (wf := (fun (u : Unit) => [(h, OB 0 [.ref qe, .ref qf, .int (nI en), .int (nI pn)]), (qe, AJ cJ 40 fe), (qf, AI cI 41 (flF ff (nI 0) 41))])) (fun _ => rfl) (fun u h_2 => ?_)
  refine x_iload_n C dX0_countFloats_8 rfl 1 rfl ?_
  refine x_iload_n C dX0_countFloats_9 rfl 2 rfl ?_
  refine xn_icmp_ne C 17 (by omega) (by omega) dX0_countFloats_10 (by decide) (fun h_3 => ?_) (fun h_3 => ?_)
  ·
    exact absurd h_3 (by first | decide | omega)
  ·
    refine x_iconst C (nI 1) dX0_countFloats_13 (by decide +kernel) ?_
    refine x_goto C 18 dX0_countFloats_14 (by decide) ?_
    refine x_istore_n C [(3, .int (nI 1)), (0, .ref h), (1, .int (nI 0)), (2, .int (nI 0))] dX0_countFloats_18 rfl (by decide) rfl ?_
    refine x_iload_n C dX0_countFloats_19 rfl 2 rfl ?_
    refine xn_if_eq C 30 (by omega) dX0_countFloats_20 (by decide) (fun h_4 => ?_) (fun h_4 => ?_)
    ·
      refine x_aload_n C dX0_countFloats_30 rfl 1 rfl ?_
      refine x_get C hK in_X0_countFloats_X0 0 rfl rfl 3 (by decide) (by decide +kernel) rfl rfl dX0_countFloats_31 ?_
      refine x_istore C [(4, .int (nI pn)), (3, .int (nI 1)), (0, .ref h), (1, .int (nI 0)), (2, .int (nI 0))] dX0_countFloats_34 (by decide) rfl ?_
      refine x_iload_n C dX0_countFloats_36 rfl 3 rfl ?_
      refine xn_if_eq C 47 (by omega) dX0_countFloats_37 (by decide) (fun h_5 => ?_) (fun h_5 => ?_)
      ·
        refine x_aload_n C dX0_countFloats_47 rfl 2 rfl ?_
        refine x_get C hK in_X0_countFloats_X0 0 rfl rfl 2 (by decide) (by decide +kernel) rfl rfl dX0_countFloats_48 ?_
        refine x_istore C [(5, .int (nI en)), (4, .int (nI pn)), (3, .int (nI 1)), (0, .ref h), (1, .int (nI 0)), (2, .int (nI 0))] dX0_countFloats_51 (by decide) rfl ?_
        refine x_iconst C (nI 0) dX0_countFloats_53 (by decide +kernel) ?_
        refine x_istore C [(6, .int (nI 0)), (5, .int (nI en)), (4, .int (nI pn)), (3, .int (nI 1)), (0, .ref h), (1, .int (nI 0)), (2, .int (nI 0))] dX0_countFloats_54 (by decide) rfl ?_
        have LT_6 : ∀ (fuel : Nat) (t : Nat), (t ≤ pn) → pn - t < fuel → X_ p l e rm_cl_cf00 s m args below meth c Q D A H0 10 0 0 [(h, OB 0 [.ref qe, .ref qf, .int (nI en), .int (nI pn)]), (qe, AJ cJ 40 fe), (qf, AI cI 41 (cfT (fun x0 y0 => hbit (fe x0) (nI y0) == true) en (flF ff 0 41) t))] [(0, .ref h), (1, .int (nI 0)), (3, .int (nI 1)), (4, .int (nI pn)), (5, .int (nI en)), (6, .int (nI t))] 56 [] := by
          intro fuel
          induction fuel with
          | zero =>
            intros
            exact absurd (by assumption) (Nat.not_lt_zero _)
          | succ fuel ih_LT_6 =>
            intro t ht hm_7
            refine x_iload C dX0_countFloats_56 5 rfl ?_
            refine x_iload C dX0_countFloats_58 3 rfl ?_
            refine xn_icmp_ge C 145 (by omega) (by omega) dX0_countFloats_60 (by decide) (fun h_8 => ?_) (fun h_8 => ?_)
            ·
              have heq_t : pn = t := by omega
              subst heq_t
              refine x_vret C hK hlk hrt hQ hH0 hAA () ?_ [0, 1, 2] (by decide) rfl (by first | decide | omega) (by first | decide | omega) dX0_countFloats_145
              first | rfl | (exact ⟨rfl, rfl⟩) | trivial | assumption | omega
            ·
              refine x_iconst C (nI 0) dX0_countFloats_63 (by decide +kernel) ?_
              refine x_istore C [(7, .int (nI 0)), (0, .ref h), (1, .int (nI 0)), (3, .int (nI 1)), (4, .int (nI pn)), (5, .int (nI en)), (6, .int (nI t))] dX0_countFloats_64 (by decide) rfl ?_
              refine x_iconst C (nI 0) dX0_countFloats_66 (by decide +kernel) ?_
              refine x_istore C [(8, .int (nI 0)), (7, .int (nI 0)), (0, .ref h), (1, .int (nI 0)), (3, .int (nI 1)), (4, .int (nI pn)), (5, .int (nI en)), (6, .int (nI t))] dX0_countFloats_67 (by decide) rfl ?_
              have LC_9 : ∀ (fuel : Nat) (z : Nat), (z ≤ en) → en - z < fuel → X_ p l e rm_cl_cf00 s m args below meth c Q D A H0 10 0 0 [(h, OB 0 [.ref qe, .ref qf, .int (nI en), .int (nI pn)]), (qe, AJ cJ 40 fe), (qf, AI cI 41 (cfH (fun y0 => hbit (fe t) (nI y0) == true) (cfT (fun x0 y0 => hbit (fe x0) (nI y0) == true) en (flF ff 0 41) t) z))] [(0, .ref h), (1, .int (nI 0)), (3, .int (nI 1)), (4, .int (nI pn)), (5, .int (nI en)), (6, .int (nI t)), (7, .int (nI (cfL (fun y0 => hbit (fe t) (nI y0) == true) z))), (8, .int (nI z))] 69 [] := by
                intro fuel
                induction fuel with
                | zero =>
                  intros
                  exact absurd (by assumption) (Nat.not_lt_zero _)
                | succ fuel ih_LC_9 =>
                  intro z hz hm_10
                  have hcfl := cfL_le (fun y0 => hbit (fe t) (nI y0) == true) z
                  refine x_iload C dX0_countFloats_69 7 rfl ?_
                  refine x_iload C dX0_countFloats_71 4 rfl ?_
                  refine xn_icmp_ge C 139 (by omega) (by omega) dX0_countFloats_73 (by decide) (fun h_11 => ?_) (fun h_11 => ?_)
                  ·
                    have heq_z : en = z := by omega
                    subst heq_z
                    refine xn_iinc C (t + 1) [(6, .int (nI (t + 1))), (0, .ref h), (1, .int (nI 0)), (3, .int (nI 1)), (4, .int (nI pn)), (5, .int (nI en)), (7, .int (nI (cfL (fun y0 => hbit (fe t) (nI y0) == true) en))), (8, .int (nI en))] dX0_countFloats_139 5 rfl (by rw [show Int32.ofInt 1 = nI 1 from by decide +kernel]; exact nI_add _ _) (by decide) rfl ?_
                    refine x_goto C 56 dX0_countFloats_142 (by decide) ?_
                    refine x_lv [(0, .ref h), (1, .int (nI 0)), (3, .int (nI 1)), (4, .int (nI pn)), (5, .int (nI en)), (6, .int (nI (t + 1)))] [1, 2, 3, 4, 5, 0] rfl ?_
                    refine x_ws [(h, OB 0 [.ref qe, .ref qf, .int (nI en), .int (nI pn)]), (qe, AJ cJ 40 fe), (qf, AI cI 41 (cfT (fun x0 y0 => hbit (fe x0) (nI y0) == true) en (flF ff 0 41) (t + 1)))] (by rfl) ?_
                    exact ih_LT_6 (t + 1) (by first | assumption | omega) (by omega)
                  ·
                    refine x_iload_n C dX0_countFloats_76 rfl 1 rfl ?_
                    refine xn_if_eq C 91 (by omega) dX0_countFloats_77 (by decide) (fun h_12 => ?_) (fun h_12 => ?_)
                    ·
                      refine x_aload_n C dX0_countFloats_91 rfl 0 rfl ?_
                      refine x_iload C dX0_countFloats_92 5 rfl ?_
                      refine x_iload C dX0_countFloats_94 7 rfl ?_
                      refine x_calli (x_runV C hK hNW (c_cl_isUp l D tys cI cJ hI hJ h qe qf en pn fe (cfH (fun y0 => hbit (fe t) (nI y0) == true) (cfT (fun x0 y0 => hbit (fe x0) (nI y0) == true) en (flF ff 0 41) t) z) t z (by first | omega | assumption) (by first | omega | assumption) (by first | omega | assumption)) (cwV 2 C.2.2.2.2 gX0_countFloats_X0_isUp rfl rfl rfl (by decide +kernel) ⟨by decide, by decide⟩) [0, 1, 2] rfl (by decide) 0 0 rfl rfl rfl (st := []) rfl rfl (Nat.le_of_ble_eq_true rfl) dX0_countFloats_96 ⟨by first | decide | omega, by first | decide | omega⟩) hA [0, 1, 2] rfl [] [] rfl (by decide) (by decide) [0, 1, 2] (by decide) (wf := (fun (u : Unit) => [(h, OB 0 [.ref qe, .ref qf, .int (nI en), .int (nI pn)]), (qe, AJ cJ 40 fe), (qf, AI cI 41 (cfH (fun y0 => hbit (fe t) (nI y0) == true) (cfT (fun x0 y0 => hbit (fe x0) (nI y0) == true) en (flF ff 0 41) t) z))])) (fun _ => rfl) (fun r_13 u h_14 => ?_)
                      subst h_14
                      refine x_istore C [(9, .int (bI (hbit (fe t) (nI z)))), (0, .ref h), (1, .int (nI 0)), (3, .int (nI 1)), (4, .int (nI pn)), (5, .int (nI en)), (6, .int (nI t)), (7, .int (nI (cfL (fun y0 => hbit (fe t) (nI y0) == true) z))), (8, .int (nI z))] dX0_countFloats_99 (by decide) rfl ?_
                      rcases Bool.eq_false_or_eq_true (hbit (fe t) (nI z)) with hu | hu
                      ·
                        have hy : ((hbit (fe t) (nI z)) == true) = true := by rw [hu]; rfl
                        have hcl := cfL_y (b := (fun y0 => hbit (fe t) (nI y0) == true)) (k := z) hy
                        have hch := cfH_y (b := (fun y0 => hbit (fe t) (nI y0) == true)) (g := cfT (fun x0 y0 => hbit (fe x0) (nI y0) == true) en (flF ff 0 41) t) (k := z) hy
                        refine x_lv [(9, .int (nI 1)), (0, .ref h), (1, .int (nI 0)), (3, .int (nI 1)), (4, .int (nI pn)), (5, .int (nI en)), (6, .int (nI t)), (7, .int (nI (cfL (fun y0 => hbit (fe t) (nI y0) == true) z))), (8, .int (nI z))] [0, 1, 2, 3, 4, 5, 6, 7, 8] (by rw [hu]; rfl) ?_
                        refine x_iload C dX0_countFloats_101 0 rfl ?_
                        refine x_iload_n C dX0_countFloats_103 rfl 3 rfl ?_
                        refine xn_icmp_ne C 114 (by omega) (by omega) dX0_countFloats_104 (by decide) (fun h_15 => ?_) (fun h_15 => ?_)
                        ·
                          exact absurd h_15 (by first | decide | omega)
                        ·
                          refine x_iload C dX0_countFloats_107 7 rfl ?_
                          refine x_iconst C (nI 1) dX0_countFloats_109 (by decide +kernel) ?_
                          refine xn_iadd C dX0_countFloats_110 ?_
                          refine x_goto C 115 dX0_countFloats_111 (by decide) ?_
                          refine x_istore C [(7, .int (nI ((cfL (fun y0 => hbit (fe t) (nI y0) == true) z) + 1))), (9, .int (nI 1)), (0, .ref h), (1, .int (nI 0)), (3, .int (nI 1)), (4, .int (nI pn)), (5, .int (nI en)), (6, .int (nI t)), (8, .int (nI z))] dX0_countFloats_115 (by decide) rfl ?_
                          refine x_iload C dX0_countFloats_117 0 rfl ?_
                          refine xn_if_le C 133 (by omega) dX0_countFloats_119 (by decide) (fun h_16 => ?_) (fun h_16 => ?_)
                          ·
                            exact absurd h_16 (by first | decide | omega)
                          ·
                            refine x_aload_n C dX0_countFloats_122 rfl 2 rfl ?_
                            refine x_get C hK in_X0_countFloats_X0 0 rfl rfl 1 (by decide) (by decide +kernel) rfl rfl dX0_countFloats_123 ?_
                            refine x_iload C dX0_countFloats_126 0 rfl ?_
                            refine x_dup2 C dX0_countFloats_128 rfl rfl ?_
                            refine x_iald C hK 2 0 rfl hI (by omega) (by omega) dX0_countFloats_129 ?_
                            refine x_iconst C (nI 1) dX0_countFloats_130 (by decide +kernel) ?_
                            refine x_iadd C _ dX0_countFloats_131 rfl ?_
                            refine x_iast C hK 2 0 rfl hI (by omega) (by omega) [(h, OB 0 [.ref qe, .ref qf, .int (nI en), .int (nI pn)]), (qe, AJ cJ 40 fe), (qf, AI cI 41 (upd (cfH (fun y0 => hbit (fe t) (nI y0) == true) (cfT (fun x0 y0 => hbit (fe x0) (nI y0) == true) en (flF ff 0 41) t) z) ((cfL (fun y0 => hbit (fe t) (nI y0) == true) z) + 1) (((cfH (fun y0 => hbit (fe t) (nI y0) == true) (cfT (fun x0 y0 => hbit (fe x0) (nI y0) == true) en (flF ff 0 41) t) z) ((cfL (fun y0 => hbit (fe t) (nI y0) == true) z) + 1)) + (nI 1))))] rfl dX0_countFloats_132 ?_
                            refine xn_iinc C (z + 1) [(8, .int (nI (z + 1))), (7, .int (nI ((cfL (fun y0 => hbit (fe t) (nI y0) == true) z) + 1))), (9, .int (nI 1)), (0, .ref h), (1, .int (nI 0)), (3, .int (nI 1)), (4, .int (nI pn)), (5, .int (nI en)), (6, .int (nI t))] dX0_countFloats_133 8 rfl (by rw [show Int32.ofInt 1 = nI 1 from by decide +kernel]; exact nI_add _ _) (by decide) rfl ?_
                            refine x_goto C 69 dX0_countFloats_136 (by decide) ?_
                            refine x_lv [(0, .ref h), (1, .int (nI 0)), (3, .int (nI 1)), (4, .int (nI pn)), (5, .int (nI en)), (6, .int (nI t)), (7, .int (nI (cfL (fun y0 => hbit (fe t) (nI y0) == true) (z + 1)))), (8, .int (nI (z + 1)))] [3, 4, 5, 6, 7, 8, 1, 0] (by rw [show cfL (fun y0 => hbit (fe t) (nI y0) == true) (z + 1) = (cfL (fun y0 => hbit (fe t) (nI y0) == true) z) + 1 from by rw [hcl]]; rfl) ?_
                            refine x_ws [(h, OB 0 [.ref qe, .ref qf, .int (nI en), .int (nI pn)]), (qe, AJ cJ 40 fe), (qf, AI cI 41 (cfH (fun y0 => hbit (fe t) (nI y0) == true) (cfT (fun x0 y0 => hbit (fe x0) (nI y0) == true) en (flF ff 0 41) t) (z + 1)))] (by rw [hch]) ?_
                            exact ih_LC_9 (z + 1) (by first | assumption | omega) (by omega)
                      ·
                        have hy : ((hbit (fe t) (nI z)) == true) = false := by rw [hu]; rfl
                        have hcl := cfL_n (b := (fun y0 => hbit (fe t) (nI y0) == true)) (k := z) hy
                        have hch := cfH_n (b := (fun y0 => hbit (fe t) (nI y0) == true)) (g := cfT (fun x0 y0 => hbit (fe x0) (nI y0) == true) en (flF ff 0 41) t) (k := z) hy
                        refine x_lv [(9, .int (nI 0)), (0, .ref h), (1, .int (nI 0)), (3, .int (nI 1)), (4, .int (nI pn)), (5, .int (nI en)), (6, .int (nI t)), (7, .int (nI (cfL (fun y0 => hbit (fe t) (nI y0) == true) z))), (8, .int (nI z))] [0, 1, 2, 3, 4, 5, 6, 7, 8] (by rw [hu]; rfl) ?_
                        refine x_iload C dX0_countFloats_101 0 rfl ?_
                        refine x_iload_n C dX0_countFloats_103 rfl 3 rfl ?_
                        refine xn_icmp_ne C 114 (by omega) (by omega) dX0_countFloats_104 (by decide) (fun h_17 => ?_) (fun h_17 => ?_)
                        ·
                          refine x_iconst C (nI 0) dX0_countFloats_114 (by decide +kernel) ?_
                          refine x_istore C [(7, .int (nI 0)), (9, .int (nI 0)), (0, .ref h), (1, .int (nI 0)), (3, .int (nI 1)), (4, .int (nI pn)), (5, .int (nI en)), (6, .int (nI t)), (8, .int (nI z))] dX0_countFloats_115 (by decide) rfl ?_
                          refine x_iload C dX0_countFloats_117 0 rfl ?_
                          refine xn_if_le C 133 (by omega) dX0_countFloats_119 (by decide) (fun h_18 => ?_) (fun h_18 => ?_)
                          ·
                            refine xn_iinc C (z + 1) [(8, .int (nI (z + 1))), (7, .int (nI 0)), (9, .int (nI 0)), (0, .ref h), (1, .int (nI 0)), (3, .int (nI 1)), (4, .int (nI pn)), (5, .int (nI en)), (6, .int (nI t))] dX0_countFloats_133 8 rfl (by rw [show Int32.ofInt 1 = nI 1 from by decide +kernel]; exact nI_add _ _) (by decide) rfl ?_
                            refine x_goto C 69 dX0_countFloats_136 (by decide) ?_
                            refine x_lv [(0, .ref h), (1, .int (nI 0)), (3, .int (nI 1)), (4, .int (nI pn)), (5, .int (nI en)), (6, .int (nI t)), (7, .int (nI (cfL (fun y0 => hbit (fe t) (nI y0) == true) (z + 1)))), (8, .int (nI (z + 1)))] [3, 4, 5, 6, 7, 8, 1, 0] (by rw [show cfL (fun y0 => hbit (fe t) (nI y0) == true) (z + 1) = 0 from by rw [hcl]]; rfl) ?_
                            refine x_ws [(h, OB 0 [.ref qe, .ref qf, .int (nI en), .int (nI pn)]), (qe, AJ cJ 40 fe), (qf, AI cI 41 (cfH (fun y0 => hbit (fe t) (nI y0) == true) (cfT (fun x0 y0 => hbit (fe x0) (nI y0) == true) en (flF ff 0 41) t) (z + 1)))] (by rw [hch]) ?_
                            exact ih_LC_9 (z + 1) (by first | assumption | omega) (by omega)
                          ·
                            exact absurd h_18 (by first | decide | omega)
                        ·
                          exact absurd h_17 (by first | decide | omega)
                    ·
                      exact absurd h_12 (by first | decide | omega)
              refine x_lv [(0, .ref h), (1, .int (nI 0)), (3, .int (nI 1)), (4, .int (nI pn)), (5, .int (nI en)), (6, .int (nI t)), (7, .int (nI (cfL (fun y0 => hbit (fe t) (nI y0) == true) 0))), (8, .int (nI 0))] [2, 3, 4, 5, 6, 7, 1, 0] (by rw [show cfL (fun y0 => hbit (fe t) (nI y0) == true) 0 = 0 from by first | rfl | omega]; rfl) ?_
              refine x_ws [(h, OB 0 [.ref qe, .ref qf, .int (nI en), .int (nI pn)]), (qe, AJ cJ 40 fe), (qf, AI cI 41 (cfH (fun y0 => hbit (fe t) (nI y0) == true) (cfT (fun x0 y0 => hbit (fe x0) (nI y0) == true) en (flF ff 0 41) t) 0))] (by rfl) ?_
              exact LC_9 (en - 0 + 1) 0 (by first | assumption | omega) (Nat.lt_succ_self _)
        refine x_lv [(0, .ref h), (1, .int (nI 0)), (3, .int (nI 1)), (4, .int (nI pn)), (5, .int (nI en)), (6, .int (nI 0))] [4, 5, 3, 2, 1, 0] rfl ?_
        refine x_ws [(h, OB 0 [.ref qe, .ref qf, .int (nI en), .int (nI pn)]), (qe, AJ cJ 40 fe), (qf, AI cI 41 (cfT (fun x0 y0 => hbit (fe x0) (nI y0) == true) en (flF ff 0 41) 0))] (by rfl) ?_
        exact LT_6 (pn - 0 + 1) 0 (by first | assumption | omega) (Nat.lt_succ_self _)
      ·
        exact absurd h_5 (by first | decide | omega)
    ·
      exact absurd h_4 (by first | decide | omega)
