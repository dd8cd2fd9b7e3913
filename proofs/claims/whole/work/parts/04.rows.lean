/-! ThreadRow, and the static helpers -/
theorem in_X3_init_X3 : ∀ w ∈ wsX30, w ∈ wsX3_init := by decide +kernel
theorem in_X3_has_X3 : ∀ w ∈ wsX30, w ∈ wsX3_has := by decide +kernel
theorem in_X3_isFull_X3 : ∀ w ∈ wsX30, w ∈ wsX3_isFull := by decide +kernel
theorem in_X3_add_X3 : ∀ w ∈ wsX30, w ∈ wsX3_add := by decide +kernel
theorem in_X3_swap_X3 : ∀ w ∈ wsX30, w ∈ wsX3_swap := by decide +kernel
theorem in_X3_turn_X3 : ∀ w ∈ wsX30, w ∈ wsX3_turn := by decide +kernel
theorem in_X3_addCopy_X3 : ∀ w ∈ wsX30, w ∈ wsX3_addCopy := by decide +kernel
theorem in_X3_moveOn_X3 : ∀ w ∈ wsX30, w ∈ wsX3_moveOn := by decide +kernel
theorem in_X3_repeatsAfter_X3 : ∀ w ∈ wsX30, w ∈ wsX3_repeatsAfter := by decide +kernel
theorem in_X3_leastPeriod_X3 : ∀ w ∈ wsX30, w ∈ wsX3_leastPeriod := by decide +kernel
theorem in_X3_threadsColoured_X3 : ∀ w ∈ wsX30, w ∈ wsX3_threadsColoured := by decide +kernel
theorem in_X3_digestFrom_X3 : ∀ w ∈ wsX30, w ∈ wsX3_digestFrom := by decide +kernel
abbrev rm_isBelow : Room := { frames := 0, cells := 0, slots := 0, locals := 0 }
set_option maxRecDepth 100000 in
set_option maxHeartbeats 4000000 in
theorem c_isBelow (l : Launch) (D : va_G) (tys : List (ClassId × FieldType)) (cI cJ : ClassId) (hI : tys[0]? = some (cI, .int)) (hJ : tys[1]? = some (cJ, .long)) (x : Int32) (b : Nat) (hb : b < 2 ^ 31) : MI l yX4_isBelow wsX4_isBelow rm_isBelow D tys [.int x, .int (nI b)] [] Unit (fun r (_ : Unit) => r = bI (below x b)) (fun (_ : Unit) => []) 0 0 := by
  intro sz
  refine x_met (cc := cX4_isBelow) (maxL := 2) (ret := (some .boolean)) (by decide +kernel) rfl (by show _ ≤ _; simp [lg_sl, Value.category]) [(0, .int x), (1, .int (nI b))] rfl ?_
  intro p e s m args below meth c Q A H0 C hK hNW hlk hrt hnm hQ hH0 hAA hA
  refine x_iload_n C dX4_isBelow_0 rfl 0 rfl ?_
  refine x_if_lt C 13 dX4_isBelow_1 (by decide) (fun h_1 => ?_) (fun h_1 => ?_)
  ·
    refine x_iconst C (nI 0) dX4_isBelow_13 (by decide +kernel) ?_
    refine x_zret C hK hlk hrt hQ hH0 hAA () (by first | (left; rfl) | (right; rfl) | assumption | (simp; done)) ?_ [] (by decide) rfl (by first | decide | omega) (by first | decide | omega) dX4_isBelow_14
    first | (rw [below_neg (by assumption)]; rfl) | (rw [below_big (by assumption) (by assumption)]; rfl) | (rw [below_y (by assumption) (by assumption) (by assumption)]; rfl)
  ·
    refine x_iload_n C dX4_isBelow_4 rfl 0 rfl ?_
    refine x_iload_n C dX4_isBelow_5 rfl 1 rfl ?_
    refine x_icmp_ge C 13 dX4_isBelow_6 (by decide) (fun h_2 => ?_) (fun h_2 => ?_)
    ·
      refine x_iconst C (nI 0) dX4_isBelow_13 (by decide +kernel) ?_
      refine x_zret C hK hlk hrt hQ hH0 hAA () (by first | (left; rfl) | (right; rfl) | assumption | (simp; done)) ?_ [] (by decide) rfl (by first | decide | omega) (by first | decide | omega) dX4_isBelow_14
      first | (rw [below_neg (by assumption)]; rfl) | (rw [below_big (by assumption) (by assumption)]; rfl) | (rw [below_y (by assumption) (by assumption) (by assumption)]; rfl)
    ·
      refine x_iconst C (nI 1) dX4_isBelow_9 (by decide +kernel) ?_
      refine x_goto C 14 dX4_isBelow_10 (by decide) ?_
      refine x_zret C hK hlk hrt hQ hH0 hAA () (by first | (left; rfl) | (right; rfl) | assumption | (simp; done)) ?_ [] (by decide) rfl (by first | decide | omega) (by first | decide | omega) dX4_isBelow_14
      first | (rw [below_neg (by assumption)]; rfl) | (rw [below_big (by assumption) (by assumption)]; rfl) | (rw [below_y (by assumption) (by assumption) (by assumption)]; rfl)
abbrev rm_isSetOf : Room := { frames := 1, cells := 0, slots := 0, locals := 21 }
set_option maxRecDepth 100000 in
set_option maxHeartbeats 4000000 in
theorem c_isSetOf (l : Launch) (D : va_G) (tys : List (ClassId × FieldType)) (cI cJ : ClassId) (hI : tys[0]? = some (cI, .int)) (hJ : tys[1]? = some (cJ, .long)) (x : Int32) (t : Nat) (ht : t = 8 ∨ t = 10) : MI l yX4_isSetOf wsX4_isSetOf rm_isSetOf D tys [.int x, .int (nI t)] [] Unit (fun r (_ : Unit) => r = bI (below x (2 ^ t))) (fun (_ : Unit) => []) 0 0 := by
  intro sz
  refine x_met (cc := cX4_isSetOf) (maxL := 2) (ret := (some .boolean)) (by decide +kernel) rfl (by show _ ≤ _; simp [lg_sl, Value.category]) [(0, .int x), (1, .int (nI t))] rfl ?_
  intro p e s m args below meth c Q A H0 C hK hNW hlk hrt hnm hQ hH0 hAA hA
  refine x_iload_n C dX4_isSetOf_0 rfl 0 rfl ?_
  refine x_iconst C (nI 1) dX4_isSetOf_1 (by decide +kernel) ?_
  refine x_iload_n C dX4_isSetOf_2 rfl 1 rfl ?_
  refine x_ishl C _ dX4_isSetOf_3 rfl ?_
  refine x_topi (nI (2 ^ t)) (by rcases ht with rfl | rfl <;> decide +kernel) ?_
  refine x_calli (x_runS C hK hNW (c_isBelow l D tys cI cJ hI hJ x (2 ^ t) (by rcases ht with rfl | rfl <;> decide)) (va_cwS 2 C.2.2.2.2 gX4_isSetOf_X4_isBelow rfl rfl rfl (by decide +kernel) ⟨by decide, by decide⟩) [] rfl (by decide) (st := []) rfl rfl (Nat.le_of_ble_eq_true rfl) dX4_isSetOf_4 ⟨by first | decide | omega, by first | decide | omega⟩) hA [] rfl [] [] rfl (by decide) (by decide) [] (by decide) (wf := (fun (u : Unit) => [])) (fun _ => rfl) (fun r_1 u h_2 => ?_)
  subst h_2
  refine x_zret C hK hlk hrt hQ hH0 hAA () (by exact bI_01 _) ?_ [] (by decide) rfl (by first | decide | omega) (by first | decide | omega) dX4_isSetOf_7
  first | rfl | (exact ⟨rfl, rfl⟩) | trivial | assumption | omega
abbrev rm_hasBit : Room := { frames := 0, cells := 0, slots := 0, locals := 0 }
set_option maxRecDepth 100000 in
set_option maxHeartbeats 4000000 in
theorem c_hasBit (l : Launch) (D : va_G) (tys : List (ClassId × FieldType)) (cI cJ : ClassId) (hI : tys[0]? = some (cI, .int)) (hJ : tys[1]? = some (cJ, .long)) (x : Int64) (y : Int32)  : MI l yX4_hasBit wsX4_hasBit rm_hasBit D tys [.long x, .int y] [] Unit (fun r (_ : Unit) => r = bI (hbit x y)) (fun (_ : Unit) => []) 0 0 := by
  intro sz
  refine x_met (cc := cX4_hasBit) (maxL := 3) (ret := (some .boolean)) (by decide +kernel) rfl (by show _ ≤ _; simp [lg_sl, Value.category]) [(0, .long x), (2, .int y)] rfl ?_
  intro p e s m args below meth c Q A H0 C hK hNW hlk hrt hnm hQ hH0 hAA hA
  refine x_lload_n C dX4_hasBit_0 rfl 0 rfl ?_
  refine x_iload_n C dX4_hasBit_1 rfl 1 rfl ?_
  refine x_lshr C _ dX4_hasBit_2 rfl ?_
  refine x_lconst C (1 : Int64) dX4_hasBit_3 rfl ?_
  refine x_land C _ dX4_hasBit_4 rfl ?_
  refine x_lconst C (1 : Int64) dX4_hasBit_5 rfl ?_
  refine x_lcmp C dX4_hasBit_6 ?_
  refine x_if_ne C 14 dX4_hasBit_7 (by decide) (fun h_1 => ?_) (fun h_1 => ?_)
  ·
    refine x_iconst C (nI 0) dX4_hasBit_14 (by decide +kernel) ?_
    refine x_zret C hK hlk hrt hQ hH0 hAA () (by first | (left; rfl) | (right; rfl) | assumption | (simp; done)) ?_ [] (by decide) rfl (by first | decide | omega) (by first | decide | omega) dX4_hasBit_15
    unfold hbit
    first | (rw [decide_eq_true ((lg_cmp_eq _ _).mp (by assumption))]; rfl) | (rw [decide_eq_false (fun q => absurd ((lg_cmp_eq _ _).mpr q) (by assumption))]; rfl)
  ·
    refine x_iconst C (nI 1) dX4_hasBit_10 (by decide +kernel) ?_
    refine x_goto C 15 dX4_hasBit_11 (by decide) ?_
    refine x_zret C hK hlk hrt hQ hH0 hAA () (by first | (left; rfl) | (right; rfl) | assumption | (simp; done)) ?_ [] (by decide) rfl (by first | decide | omega) (by first | decide | omega) dX4_hasBit_15
    unfold hbit
    first | (rw [decide_eq_true ((lg_cmp_eq _ _).mp (by assumption))]; rfl) | (rw [decide_eq_false (fun q => absurd ((lg_cmp_eq _ _).mpr q) (by assumption))]; rfl)
abbrev rm_allOf : Room := { frames := 0, cells := 0, slots := 0, locals := 0 }
set_option maxRecDepth 100000 in
set_option maxHeartbeats 4000000 in
theorem c_allOf (l : Launch) (D : va_G) (tys : List (ClassId × FieldType)) (cI cJ : ClassId) (hI : tys[0]? = some (cI, .int)) (hJ : tys[1]? = some (cJ, .long)) (y : Int32)  : ML l yX4_allOf wsX4_allOf rm_allOf D tys [.int y] [] Unit (fun r (_ : Unit) => r = allof y) (fun (_ : Unit) => []) 0 0 := by
  intro sz
  refine x_met (cc := cX4_allOf) (maxL := 1) (ret := (some .long)) (by decide +kernel) rfl (by show _ ≤ _; simp [lg_sl, Value.category]) [(0, .int y)] rfl ?_
  intro p e s m args below meth c Q A H0 C hK hNW hlk hrt hnm hQ hH0 hAA hA
  refine x_lconst C (1 : Int64) dX4_allOf_0 rfl ?_
  refine x_iload_n C dX4_allOf_1 rfl 0 rfl ?_
  refine x_lshl C _ dX4_allOf_2 rfl ?_
  refine x_lconst C (1 : Int64) dX4_allOf_3 rfl ?_
  refine x_lsub C _ dX4_allOf_4 rfl ?_
  refine x_lret C hK hlk hrt hQ hH0 hAA () ?_ [] (by decide) rfl (by first | decide | omega) (by first | decide | omega) dX4_allOf_5
  first | rfl | (exact ⟨rfl, rfl⟩) | trivial | assumption | omega
abbrev rm_digestWith : Room := { frames := 0, cells := 0, slots := 0, locals := 0 }
set_option maxRecDepth 100000 in
set_option maxHeartbeats 4000000 in
theorem c_digestWith (l : Launch) (D : va_G) (tys : List (ClassId × FieldType)) (cI cJ : ClassId) (hI : tys[0]? = some (cI, .int)) (hJ : tys[1]? = some (cJ, .long)) (d : Int64) (x : Int64)  : ML l yX4_digestWith wsX4_digestWith rm_digestWith D tys [.long d, .long x] [] Unit (fun r (_ : Unit) => r = dgw d x) (fun (_ : Unit) => []) 0 0 := by
  intro sz
  refine x_met (cc := cX4_digestWith) (maxL := 4) (ret := (some .long)) (by decide +kernel) rfl (by show _ ≤ _; simp [lg_sl, Value.category]) [(0, .long d), (2, .long x)] rfl ?_
  intro p e s m args below meth c Q A H0 C hK hNW hlk hrt hnm hQ hH0 hAA hA
  refine x_lload_n C dX4_digestWith_0 rfl 0 rfl ?_
  refine x_ldc2 C (31) (by decide +kernel) dX4_digestWith_1 ?_
  refine x_lmul C _ dX4_digestWith_4 rfl ?_
  refine x_lload_n C dX4_digestWith_5 rfl 1 rfl ?_
  refine x_ladd C _ dX4_digestWith_6 rfl ?_
  refine x_lret C hK hlk hrt hQ hH0 hAA () ?_ [] (by decide) rfl (by first | decide | omega) (by first | decide | omega) dX4_digestWith_7
  first | rfl | (exact ⟨rfl, rfl⟩) | trivial | assumption | omega
abbrev rm_tr_init : Room := { frames := 1, cells := 2, slots := 80, locals := 12 }
set_option maxRecDepth 100000 in
set_option maxHeartbeats 4000000 in
theorem c_tr_init (l : Launch) (D : va_G) (tys : List (ClassId × FieldType)) (cI cJ : ClassId) (hI : tys[0]? = some (cI, .int)) (hJ : tys[1]? = some (cJ, .long)) (h : Nat)  : MV l yX3_init wsX3_init rm_tr_init D tys [.ref h] [(h, OB 3 [.null, .null, .int 0])] (Nat × Nat) (fun (u : Nat × Nat) => True) (fun (u : Nat × Nat) => [(h, OB 3 [.ref u.1, .ref u.2, .int 0]), (u.1, AI cI 40 (fun _ => 0)), (u.2, AI cI 40 (fun _ => 0))]) 2 80 := by
  intro sz
  refine x_met (cc := cX3_init) (maxL := 1) (ret := none) (by decide +kernel) rfl (by show _ ≤ _; simp [lg_sl, Value.category]) [(0, .ref h)] rfl ?_
  intro p e s m args below meth c Q A H0 C hK hNW hlk hrt hnm hQ hH0 hAA hA
  refine x_aload_n C dX3_init_0 rfl 0 rfl ?_
  refine x_objInit C (by decide +kernel) (by decide +kernel) (by decide +kernel) dX3_init_1 (by decide) (by decide) ?_
  refine x_aload_n C dX3_init_4 rfl 0 rfl ?_
  refine x_bipush C (nI 40) dX3_init_5 (by decide +kernel) ?_
  refine x_new_int C hK hA (by decide +kernel) 0 hI (by omega) (by first | decide | omega) (by first | decide | omega) dX3_init_7 (fun q_1 => ?_)
  refine x_putF C hK in_X3_init_X3 tyX3 tyX3_ok nmX3 0 rfl rfl 0 (by decide) (by decide +kernel) rfl rfl hnm rfl (tyX3_ok 0 (by decide)) rfl rfl (Nat.le_of_ble_eq_true rfl) [(h, OB 3 [.ref q_1, .null, .int 0]), (q_1, AI cI 40 (fun _ => 0))] rfl dX3_init_9 ?_
  refine x_aload_n C dX3_init_12 rfl 0 rfl ?_
  refine x_bipush C (nI 40) dX3_init_13 (by decide +kernel) ?_
  refine x_new_int C hK hA (by decide +kernel) 0 hI (by omega) (by first | decide | omega) (by first | decide | omega) dX3_init_15 (fun q_2 => ?_)
  refine x_putF C hK in_X3_init_X3 tyX3 tyX3_ok nmX3 0 rfl rfl 1 (by decide) (by decide +kernel) rfl rfl hnm rfl (tyX3_ok 1 (by decide)) rfl rfl (Nat.le_of_ble_eq_true rfl) [(h, OB 3 [.ref q_1, .ref q_2, .int 0]), (q_1, AI cI 40 (fun _ => 0)), (q_2, AI cI 40 (fun _ => 0))] rfl dX3_init_17 ?_
  refine x_vret C hK hlk hrt hQ hH0 hAA (q_1, q_2) ?_ [0, 1, 2] (by decide) rfl (by first | decide | omega) (by first | decide | omega) dX3_init_20
  trivial
abbrev rm_tr_has : Room := { frames := 1, cells := 0, slots := 0, locals := 21 }
set_option maxRecDepth 100000 in
set_option maxHeartbeats 4000000 in
theorem c_tr_has (l : Launch) (D : va_G) (tys : List (ClassId × FieldType)) (cI cJ : ClassId) (hI : tys[0]? = some (cI, .int)) (hJ : tys[1]? = some (cJ, .long)) (h : Nat) (qb : Nat) (qc : Nat) (n : Nat) (fb : Nat → Int32) (fc : Nat → Int32) (x : Int32) (hn : n ≤ 40) : MI l yX3_has wsX3_has rm_tr_has D tys [.ref h, .int x] [(h, OB 3 [.ref qb, .ref qc, .int (nI n)]), (qb, AI cI 40 fb), (qc, AI cI 40 fc)] Unit (fun r (_ : Unit) => r = bI (below x n)) (fun (_ : Unit) => [(h, OB 3 [.ref qb, .ref qc, .int (nI n)]), (qb, AI cI 40 fb), (qc, AI cI 40 fc)]) 0 0 := by
  intro sz
  refine x_met (cc := cX3_has) (maxL := 2) (ret := (some .boolean)) (by decide +kernel) rfl (by show _ ≤ _; simp [lg_sl, Value.category]) [(0, .ref h), (1, .int x)] rfl ?_
  intro p e s m args below meth c Q A H0 C hK hNW hlk hrt hnm hQ hH0 hAA hA
  refine x_iload_n C dX3_has_0 rfl 1 rfl ?_
  refine x_aload_n C dX3_has_1 rfl 0 rfl ?_
  refine x_get C hK in_X3_has_X3 0 rfl rfl 2 (by decide) (by decide +kernel) rfl rfl dX3_has_2 ?_
  refine x_calli (x_runSN C hK hNW (c_isBelow l D tys cI cJ hI hJ x n (by first | omega | assumption)) ⟨va_cnB 2 C.2.2.2.2 gX3_has_X4_isBelow_n22 rfl rfl rfl (hNW.at 22 rfl) (C.2.2.2.2 (.initialized RX4) (by decide +kernel)) (by decide +kernel) ⟨by decide, by decide⟩, C.2.2.2.2 (.static yX4_isBelow) (by decide +kernel), trivial⟩ [] rfl (by decide) (st := []) rfl rfl (Nat.le_of_ble_eq_true rfl) dX3_has_5 ⟨by first | decide | omega, by first | decide | omega⟩) hA [] rfl [0, 1, 2] [(h, OB 3 [.ref qb, .ref qc, .int (nI n)]), (qb, AI cI 40 fb), (qc, AI cI 40 fc)] rfl (by decide) (by decide) [0, 1, 2] (by decide) (wf := (fun (u : Unit) => [(h, OB 3 [.ref qb, .ref qc, .int (nI n)]), (qb, AI cI 40 fb), (qc, AI cI 40 fc)])) (fun _ => rfl) (fun r_1 u h_2 => ?_)
  subst h_2
  refine x_zret C hK hlk hrt hQ hH0 hAA () (by exact bI_01 _) ?_ [0, 1, 2] (by decide) rfl (by first | decide | omega) (by first | decide | omega) dX3_has_8
  first | rfl | (exact ⟨rfl, rfl⟩) | trivial | assumption | omega
abbrev rm_tr_isFull : Room := { frames := 0, cells := 0, slots := 0, locals := 0 }
set_option maxRecDepth 100000 in
set_option maxHeartbeats 4000000 in
theorem c_tr_isFull (l : Launch) (D : va_G) (tys : List (ClassId × FieldType)) (cI cJ : ClassId) (hI : tys[0]? = some (cI, .int)) (hJ : tys[1]? = some (cJ, .long)) (h : Nat) (qb : Nat) (qc : Nat) (n : Nat) (fb : Nat → Int32) (fc : Nat → Int32) (hn : n ≤ 40) : MI l yX3_isFull wsX3_isFull rm_tr_isFull D tys [.ref h] [(h, OB 3 [.ref qb, .ref qc, .int (nI n)]), (qb, AI cI 40 fb), (qc, AI cI 40 fc)] Unit (fun r (_ : Unit) => r = bI (decide (n = 40))) (fun (_ : Unit) => [(h, OB 3 [.ref qb, .ref qc, .int (nI n)]), (qb, AI cI 40 fb), (qc, AI cI 40 fc)]) 0 0 := by
  intro sz
  refine x_met (cc := cX3_isFull) (maxL := 1) (ret := (some .boolean)) (by decide +kernel) rfl (by show _ ≤ _; simp [lg_sl, Value.category]) [(0, .ref h)] rfl ?_
  intro p e s m args below meth c Q A H0 C hK hNW hlk hrt hnm hQ hH0 hAA hA
  refine x_aload_n C dX3_isFull_0 rfl 0 rfl ?_
  refine x_get C hK in_X3_isFull_X3 0 rfl rfl 2 (by decide) (by decide +kernel) rfl rfl dX3_isFull_1 ?_
  refine x_bipush C (nI 40) dX3_isFull_4 (by decide +kernel) ?_
  refine xn_icmp_ne C 13 (by omega) (by omega) dX3_isFull_6 (by decide) (fun h_1 => ?_) (fun h_1 => ?_)
  ·
    refine x_iconst C (nI 0) dX3_isFull_13 (by decide +kernel) ?_
    refine x_zret C hK hlk hrt hQ hH0 hAA () (by first | (left; rfl) | (right; rfl) | assumption | (simp; done)) ?_ [0, 1, 2] (by decide) rfl (by first | decide | omega) (by first | decide | omega) dX3_isFull_14
    first | (rw [decide_eq_true (by assumption)]; rfl) | (rw [decide_eq_false (by assumption)]; rfl)
  ·
    refine x_iconst C (nI 1) dX3_isFull_9 (by decide +kernel) ?_
    refine x_goto C 14 dX3_isFull_10 (by decide) ?_
    refine x_zret C hK hlk hrt hQ hH0 hAA () (by first | (left; rfl) | (right; rfl) | assumption | (simp; done)) ?_ [0, 1, 2] (by decide) rfl (by first | decide | omega) (by first | decide | omega) dX3_isFull_14
    first | (rw [decide_eq_true (by assumption)]; rfl) | (rw [decide_eq_false (by assumption)]; rfl)
abbrev rm_tr_add : Room := { frames := 0, cells := 0, slots := 0, locals := 0 }
set_option maxRecDepth 100000 in
set_option maxHeartbeats 4000000 in
theorem c_tr_add (l : Launch) (D : va_G) (tys : List (ClassId × FieldType)) (cI cJ : ClassId) (hI : tys[0]? = some (cI, .int)) (hJ : tys[1]? = some (cJ, .long)) (h : Nat) (qb : Nat) (qc : Nat) (n : Nat) (fb : Nat → Int32) (fc : Nat → Int32) (b : Int32) (c0 : Int32) (hn : n < 40) : MI l yX3_add wsX3_add rm_tr_add D tys [.ref h, .int b, .int c0] [(h, OB 3 [.ref qb, .ref qc, .int (nI n)]), (qb, AI cI 40 fb), (qc, AI cI 40 fc)] Unit (fun r (_ : Unit) => r = nI n) (fun (_ : Unit) => [(h, OB 3 [.ref qb, .ref qc, .int (nI (n + 1))]), (qb, AI cI 40 (upd fb n b)), (qc, AI cI 40 (upd fc n c0))]) 0 0 := by
  intro sz
  refine x_met (cc := cX3_add) (maxL := 4) (ret := (some .int)) (by decide +kernel) rfl (by show _ ≤ _; simp [lg_sl, Value.category]) [(0, .ref h), (1, .int b), (2, .int c0)] rfl ?_
  intro p e s m args below meth c Q A H0 C hK hNW hlk hrt hnm hQ hH0 hAA hA
  refine x_aload_n C dX3_add_0 rfl 0 rfl ?_
  refine x_get C hK in_X3_add_X3 0 rfl rfl 2 (by decide) (by decide +kernel) rfl rfl dX3_add_1 ?_
  refine x_istore_n C [(3, .int (nI n)), (0, .ref h), (1, .int b), (2, .int c0)] dX3_add_4 rfl (by decide) rfl ?_
  refine x_aload_n C dX3_add_5 rfl 1 rfl ?_
  refine x_get C hK in_X3_add_X3 0 rfl rfl 0 (by decide) (by decide +kernel) rfl rfl dX3_add_6 ?_
  refine x_iload_n C dX3_add_9 rfl 0 rfl ?_
  refine x_iload_n C dX3_add_10 rfl 2 rfl ?_
  refine x_iast C hK 1 0 rfl hI (by omega) (by omega) [(h, OB 3 [.ref qb, .ref qc, .int (nI n)]), (qb, AI cI 40 (upd fb n b)), (qc, AI cI 40 fc)] rfl dX3_add_11 ?_
  refine x_aload_n C dX3_add_12 rfl 1 rfl ?_
  refine x_get C hK in_X3_add_X3 0 rfl rfl 1 (by decide) (by decide +kernel) rfl rfl dX3_add_13 ?_
  refine x_iload_n C dX3_add_16 rfl 0 rfl ?_
  refine x_iload_n C dX3_add_17 rfl 3 rfl ?_
  refine x_iast C hK 2 0 rfl hI (by omega) (by omega) [(h, OB 3 [.ref qb, .ref qc, .int (nI n)]), (qb, AI cI 40 (upd fb n b)), (qc, AI cI 40 (upd fc n c0))] rfl dX3_add_18 ?_
  refine x_aload_n C dX3_add_19 rfl 1 rfl ?_
  refine x_dup C dX3_add_20 rfl ?_
  refine x_get C hK in_X3_add_X3 0 rfl rfl 2 (by decide) (by decide +kernel) rfl rfl dX3_add_21 ?_
  refine x_iconst C (nI 1) dX3_add_24 (by decide +kernel) ?_
  refine xn_iadd C dX3_add_25 ?_
  refine x_put C hK in_X3_add_X3 tyX3 tyX3_ok nmX3 0 rfl rfl 2 (by decide) (by decide +kernel) rfl rfl (tyX3_ok 2 (by decide)) rfl rfl (Nat.le_of_ble_eq_true rfl) [(h, OB 3 [.ref qb, .ref qc, .int (nI (n + 1))]), (qb, AI cI 40 (upd fb n b)), (qc, AI cI 40 (upd fc n c0))] rfl dX3_add_26 ?_
  refine x_iload_n C dX3_add_29 rfl 0 rfl ?_
  refine x_iret C hK hlk hrt hQ hH0 hAA () ?_ [0, 1, 2] (by decide) rfl (by first | decide | omega) (by first | decide | omega) dX3_add_30
  first | rfl | (exact ⟨rfl, rfl⟩) | trivial | assumption | omega
abbrev rm_tr_swap : Room := { frames := 0, cells := 0, slots := 0, locals := 0 }
set_option maxRecDepth 100000 in
set_option maxHeartbeats 4000000 in
theorem c_tr_swap (l : Launch) (D : va_G) (tys : List (ClassId × FieldType)) (cI cJ : ClassId) (hI : tys[0]? = some (cI, .int)) (hJ : tys[1]? = some (cJ, .long)) (h : Nat) (qb : Nat) (qc : Nat) (n : Nat) (fb : Nat → Int32) (fc : Nat → Int32) (i : Nat) (j : Nat) (hi : i < 40) (hj : j < 40) : MV l yX3_swap wsX3_swap rm_tr_swap D tys [.ref h, .int (nI i), .int (nI j)] [(h, OB 3 [.ref qb, .ref qc, .int (nI n)]), (qb, AI cI 40 fb), (qc, AI cI 40 fc)] Unit (fun (_ : Unit) => True) (fun (_ : Unit) => [(h, OB 3 [.ref qb, .ref qc, .int (nI n)]), (qb, AI cI 40 (upd (upd fb i (fb j)) j (fb i))), (qc, AI cI 40 (upd (upd fc i (fc j)) j (fc i)))]) 0 0 := by
  intro sz
  refine x_met (cc := cX3_swap) (maxL := 5) (ret := none) (by decide +kernel) rfl (by show _ ≤ _; simp [lg_sl, Value.category]) [(0, .ref h), (1, .int (nI i)), (2, .int (nI j))] rfl ?_
  intro p e s m args below meth c Q A H0 C hK hNW hlk hrt hnm hQ hH0 hAA hA
  refine x_aload_n C dX3_swap_0 rfl 0 rfl ?_
  refine x_get C hK in_X3_swap_X3 0 rfl rfl 0 (by decide) (by decide +kernel) rfl rfl dX3_swap_1 ?_
  refine x_iload_n C dX3_swap_4 rfl 1 rfl ?_
  refine x_iald C hK 1 0 rfl hI (by omega) (by omega) dX3_swap_5 ?_
  refine x_istore_n C [(3, .int (fb i)), (0, .ref h), (1, .int (nI i)), (2, .int (nI j))] dX3_swap_6 rfl (by decide) rfl ?_
  refine x_aload_n C dX3_swap_7 rfl 1 rfl ?_
  refine x_get C hK in_X3_swap_X3 0 rfl rfl 1 (by decide) (by decide +kernel) rfl rfl dX3_swap_8 ?_
  refine x_iload_n C dX3_swap_11 rfl 2 rfl ?_
  refine x_iald C hK 2 0 rfl hI (by omega) (by omega) dX3_swap_12 ?_
  refine x_istore C [(4, .int (fc i)), (3, .int (fb i)), (0, .ref h), (1, .int (nI i)), (2, .int (nI j))] dX3_swap_13 (by decide) rfl ?_
  refine x_aload_n C dX3_swap_15 rfl 2 rfl ?_
  refine x_get C hK in_X3_swap_X3 0 rfl rfl 0 (by decide) (by decide +kernel) rfl rfl dX3_swap_16 ?_
  refine x_iload_n C dX3_swap_19 rfl 3 rfl ?_
  refine x_aload_n C dX3_swap_20 rfl 2 rfl ?_
  refine x_get C hK in_X3_swap_X3 0 rfl rfl 0 (by decide) (by decide +kernel) rfl rfl dX3_swap_21 ?_
  refine x_iload_n C dX3_swap_24 rfl 4 rfl ?_
  refine x_iald C hK 1 0 rfl hI (by omega) (by omega) dX3_swap_25 ?_
  refine x_iast C hK 1 0 rfl hI (by omega) (by omega) [(h, OB 3 [.ref qb, .ref qc, .int (nI n)]), (qb, AI cI 40 (upd fb i (fb j))), (qc, AI cI 40 fc)] rfl dX3_swap_26 ?_
  refine x_aload_n C dX3_swap_27 rfl 2 rfl ?_
  refine x_get C hK in_X3_swap_X3 0 rfl rfl 1 (by decide) (by decide +kernel) rfl rfl dX3_swap_28 ?_
  refine x_iload_n C dX3_swap_31 rfl 3 rfl ?_
  refine x_aload_n C dX3_swap_32 rfl 2 rfl ?_
  refine x_get C hK in_X3_swap_X3 0 rfl rfl 1 (by decide) (by decide +kernel) rfl rfl dX3_swap_33 ?_
  refine x_iload_n C dX3_swap_36 rfl 4 rfl ?_
  refine x_iald C hK 2 0 rfl hI (by omega) (by omega) dX3_swap_37 ?_
  refine x_iast C hK 2 0 rfl hI (by omega) (by omega) [(h, OB 3 [.ref qb, .ref qc, .int (nI n)]), (qb, AI cI 40 (upd fb i (fb j))), (qc, AI cI 40 (upd fc i (fc j)))] rfl dX3_swap_38 ?_
  refine x_aload_n C dX3_swap_39 rfl 2 rfl ?_
  refine x_get C hK in_X3_swap_X3 0 rfl rfl 0 (by decide) (by decide +kernel) rfl rfl dX3_swap_40 ?_
  refine x_iload_n C dX3_swap_43 rfl 4 rfl ?_
  refine x_iload_n C dX3_swap_44 rfl 1 rfl ?_
  refine x_iast C hK 1 0 rfl hI (by omega) (by omega) [(h, OB 3 [.ref qb, .ref qc, .int (nI n)]), (qb, AI cI 40 (upd (upd fb i (fb j)) j (fb i))), (qc, AI cI 40 (upd fc i (fc j)))] rfl dX3_swap_45 ?_
  refine x_aload_n C dX3_swap_46 rfl 2 rfl ?_
  refine x_get C hK in_X3_swap_X3 0 rfl rfl 1 (by decide) (by decide +kernel) rfl rfl dX3_swap_47 ?_
  refine x_iload_n C dX3_swap_50 rfl 4 rfl ?_
  refine x_iload C dX3_swap_51 0 rfl ?_
  refine x_iast C hK 2 0 rfl hI (by omega) (by omega) [(h, OB 3 [.ref qb, .ref qc, .int (nI n)]), (qb, AI cI 40 (upd (upd fb i (fb j)) j (fb i))), (qc, AI cI 40 (upd (upd fc i (fc j)) j (fc i)))] rfl dX3_swap_53 ?_
  refine x_vret C hK hlk hrt hQ hH0 hAA () ?_ [0, 1, 2] (by decide) rfl (by first | decide | omega) (by first | decide | omega) dX3_swap_54
  first | rfl | (exact ⟨rfl, rfl⟩) | trivial | assumption | omega
abbrev rm_tr_turn0 : Room := { frames := 0, cells := 0, slots := 0, locals := 0 }
set_option maxRecDepth 100000 in
set_option maxHeartbeats 4000000 in
theorem c_tr_turn0 (l : Launch) (D : va_G) (tys : List (ClassId × FieldType)) (cI cJ : ClassId) (hI : tys[0]? = some (cI, .int)) (hJ : tys[1]? = some (cJ, .long)) (h : Nat) (qb : Nat) (qc : Nat) (n : Nat) (fb : Nat → Int32) (fc : Nat → Int32)  : MV l yX3_turn wsX3_turn rm_tr_turn0 D tys [.ref h, .int (nI 0), .int (nI 0)] [(h, OB 3 [.ref qb, .ref qc, .int (nI n)]), (qb, AI cI 40 fb), (qc, AI cI 40 fc)] Unit (fun (_ : Unit) => True) (fun (_ : Unit) => [(h, OB 3 [.ref qb, .ref qc, .int (nI n)]), (qb, AI cI 40 fb), (qc, AI cI 40 fc)]) 0 0 := by
  intro sz
  refine x_met (cc := cX3_turn) (maxL := 5) (ret := none) (by decide +kernel) rfl (by show _ ≤ _; simp [lg_sl, Value.category]) [(0, .ref h), (1, .int (nI 0)), (2, .int (nI 0))] rfl ?_
  intro p e s m args below meth c Q A H0 C hK hNW hlk hrt hnm hQ hH0 hAA hA
  refine x_iload_n C dX3_turn_0 rfl 1 rfl ?_
  refine x_istore_n C [(3, .int (nI 0)), (0, .ref h), (1, .int (nI 0)), (2, .int (nI 0))] dX3_turn_1 rfl (by decide) rfl ?_
  refine x_iload_n C dX3_turn_2 rfl 3 rfl ?_
  refine x_iconst C (nI 1) dX3_turn_3 (by decide +kernel) ?_
  refine x_isub C _ dX3_turn_4 rfl ?_
  refine x_istore C [(4, .int ((nI 0) - (nI 1))), (3, .int (nI 0)), (0, .ref h), (1, .int (nI 0)), (2, .int (nI 0))] dX3_turn_5 (by decide) rfl ?_
  refine x_iload_n C dX3_turn_7 rfl 1 rfl ?_
  refine x_iload C dX3_turn_8 0 rfl ?_
  refine x_icmp_ge C 29 dX3_turn_10 (by decide) (fun h_1 => ?_) (fun h_1 => ?_)
  ·
    refine x_vret C hK hlk hrt hQ hH0 hAA () ?_ [0, 1, 2] (by decide) rfl (by first | decide | omega) (by first | decide | omega) dX3_turn_29
    first | rfl | (exact ⟨rfl, rfl⟩) | trivial | assumption | omega
  ·
    exact absurd (by decide +kernel) h_1
abbrev rm_tr_turn : Room := { frames := 1, cells := 0, slots := 0, locals := 24 }
set_option maxRecDepth 100000 in
set_option maxHeartbeats 4000000 in
theorem c_tr_turn (l : Launch) (D : va_G) (tys : List (ClassId × FieldType)) (cI cJ : ClassId) (hI : tys[0]? = some (cI, .int)) (hJ : tys[1]? = some (cJ, .long)) (h : Nat) (qb : Nat) (qc : Nat) (n : Nat) (fb : Nat → Int32) (fc : Nat → Int32) (a : Nat) (b : Nat) (hab : a ≤ b) (hb0 : 0 < b) (hb : b ≤ 40) : MV l yX3_turn wsX3_turn rm_tr_turn D tys [.ref h, .int (nI a), .int (nI b)] [(h, OB 3 [.ref qb, .ref qc, .int (nI n)]), (qb, AI cI 40 fb), (qc, AI cI 40 fc)] Unit (fun (_ : Unit) => True) (fun (_ : Unit) => [(h, OB 3 [.ref qb, .ref qc, .int (nI n)]), (qb, AI cI 40 (rvF fb a b)), (qc, AI cI 40 (rvF fc a b))]) 0 0 := by
  intro sz
  refine x_met (cc := cX3_turn) (maxL := 5) (ret := none) (by decide +kernel) rfl (by show _ ≤ _; simp [lg_sl, Value.category]) [(0, .ref h), (1, .int (nI a)), (2, .int (nI b))] rfl ?_
  intro p e s m args below meth c Q A H0 C hK hNW hlk hrt hnm hQ hH0 hAA hA
  refine x_iload_n C dX3_turn_0 rfl 1 rfl ?_
  refine x_istore_n C [(3, .int (nI a)), (0, .ref h), (1, .int (nI a)), (2, .int (nI b))] dX3_turn_1 rfl (by decide) rfl ?_
  refine x_iload_n C dX3_turn_2 rfl 3 rfl ?_
  refine x_iconst C (nI 1) dX3_turn_3 (by decide +kernel) ?_
  refine xn_isub C (by omega) dX3_turn_4 ?_
  refine x_istore C [(4, .int (nI (b - 1))), (3, .int (nI a)), (0, .ref h), (1, .int (nI a)), (2, .int (nI b))] dX3_turn_5 (by decide) rfl ?_
  have K_1 : ∀ (fuel : Nat) (i : Nat), (2 * i ≤ b - a) → b - i < fuel → X_ p l e rm_tr_turn s m args below meth c Q D A H0 5 0 0 [(h, OB 3 [.ref qb, .ref qc, .int (nI n)]), (qb, AI cI 40 (rvP fb a b i)), (qc, AI cI 40 (rvP fc a b i))] [(0, .ref h), (3, .int (nI (a + i))), (4, .int (nI (b - 1 - i)))] 7 [] := by
    intro fuel
    induction fuel with
    | zero =>
      intros
      exact absurd (by assumption) (Nat.not_lt_zero _)
    | succ fuel ih_K_1 =>
      intro i hi hm_2
      refine x_iload_n C dX3_turn_7 rfl 1 rfl ?_
      refine x_iload C dX3_turn_8 2 rfl ?_
      refine xn_icmp_ge C 29 (by omega) (by omega) dX3_turn_10 (by decide) (fun h_3 => ?_) (fun h_3 => ?_)
      ·
        refine x_ws [(h, OB 3 [.ref qb, .ref qc, .int (nI n)]), (qb, AI cI 40 (rvF fb a b)), (qc, AI cI 40 (rvF fc a b))] (by rw [rvP_e (by omega) (by omega), rvP_e (by omega) (by omega)]) ?_
        refine x_vret C hK hlk hrt hQ hH0 hAA () ?_ [0, 1, 2] (by decide) rfl (by first | decide | omega) (by first | decide | omega) dX3_turn_29
        first | rfl | (exact ⟨rfl, rfl⟩) | trivial | assumption | omega
      ·
        refine x_aload_n C dX3_turn_13 rfl 0 rfl ?_
        refine x_iload_n C dX3_turn_14 rfl 1 rfl ?_
        refine x_iload C dX3_turn_15 2 rfl ?_
        refine x_callv (x_runV C hK hNW (c_tr_swap l D tys cI cJ hI hJ h qb qc n (rvP fb a b i) (rvP fc a b i) (a + i) (b - 1 - i) (by first | omega | assumption) (by first | omega | assumption)) (cwV 2 C.2.2.2.2 gX3_turn_X3_swap rfl rfl rfl (by decide +kernel) ⟨by decide, by decide⟩) [0, 1, 2] rfl (by decide) 0 3 rfl rfl rfl (st := []) rfl rfl (Nat.le_of_ble_eq_true rfl) dX3_turn_17 ⟨by first | decide | omega, by first | decide | omega⟩) hA [0, 1, 2] rfl [] [] rfl (by decide) (by decide) [0, 1, 2] (by decide) (wf := (fun (u : Unit) => [(h, OB 3 [.ref qb, .ref qc, .int (nI n)]), (qb, AI cI 40 (upd (upd (rvP fb a b i) (a + i) ((rvP fb a b i) (b - 1 - i))) (b - 1 - i) ((rvP fb a b i) (a + i)))), (qc, AI cI 40 (upd (upd (rvP fc a b i) (a + i) ((rvP fc a b i) (b - 1 - i))) (b - 1 - i) ((rvP fc a b i) (a + i))))])) (fun _ => rfl) (fun u h_5 => ?_)
        refine xn_iinc C ((a + i) + 1) [(3, .int (nI ((a + i) + 1))), (0, .ref h), (4, .int (nI (b - 1 - i)))] dX3_turn_20 1 rfl (by rw [show Int32.ofInt 1 = nI 1 from by decide +kernel]; exact nI_add _ _) (by decide) rfl ?_
        refine xn_iinc C ((b - 1 - i) - 1) [(4, .int (nI ((b - 1 - i) - 1))), (3, .int (nI ((a + i) + 1))), (0, .ref h)] dX3_turn_23 2 rfl (by rw [show Int32.ofInt (-1) = -nI 1 from by decide +kernel]; exact gx_addneg (by omega)) (by decide) rfl ?_
        refine x_goto C 7 dX3_turn_26 (by decide) ?_
        refine x_lv [(0, .ref h), (3, .int (nI (a + (i + 1)))), (4, .int (nI (b - 1 - (i + 1))))] [2, 1, 0] (by rw [show a + (i + 1) = (a + i) + 1 from by first | rfl | omega, show b - 1 - (i + 1) = (b - 1 - i) - 1 from by first | rfl | omega]; rfl) ?_
        refine x_ws [(h, OB 3 [.ref qb, .ref qc, .int (nI n)]), (qb, AI cI 40 (rvP fb a b (i + 1))), (qc, AI cI 40 (rvP fc a b (i + 1)))] (by rw [rvP_s (by omega) (by omega), rvP_s (by omega) (by omega)]) ?_
        exact ih_K_1 (i + 1) (by first | assumption | omega) (by omega)
  refine x_lv [(0, .ref h), (3, .int (nI (a + 0))), (4, .int (nI (b - 1 - 0)))] [2, 1, 0] (by rw [show a + 0 = a from by first | rfl | omega, show b - 1 - 0 = b - 1 from by first | rfl | omega]; rfl) ?_
  refine x_ws [(h, OB 3 [.ref qb, .ref qc, .int (nI n)]), (qb, AI cI 40 (rvP fb a b 0)), (qc, AI cI 40 (rvP fc a b 0))] (by rw [rvP_0, rvP_0]) ?_
  exact K_1 (b - 0 + 1) 0 (by first | assumption | omega) (Nat.lt_succ_self _)
abbrev rm_tr_addCopy : Room := { frames := 1, cells := 0, slots := 0, locals := 23 }
set_option maxRecDepth 100000 in
set_option maxHeartbeats 4000000 in
theorem c_tr_addCopy (l : Launch) (D : va_G) (tys : List (ClassId × FieldType)) (cI cJ : ClassId) (hI : tys[0]? = some (cI, .int)) (hJ : tys[1]? = some (cJ, .long)) (h : Nat) (qb : Nat) (qc : Nat) (n : Nat) (fb : Nat → Int32) (fc : Nat → Int32) (hn : 2 * n ≤ 40) : MV l yX3_addCopy wsX3_addCopy rm_tr_addCopy D tys [.ref h] [(h, OB 3 [.ref qb, .ref qc, .int (nI n)]), (qb, AI cI 40 fb), (qc, AI cI 40 fc)] Unit (fun (_ : Unit) => True) (fun (_ : Unit) => [(h, OB 3 [.ref qb, .ref qc, .int (nI (n + n))]), (qb, AI cI 40 (rpF fb n n)), (qc, AI cI 40 (rpF fc n n))]) 0 0 := by
  intro sz
  refine x_met (cc := cX3_addCopy) (maxL := 3) (ret := none) (by decide +kernel) rfl (by show _ ≤ _; simp [lg_sl, Value.category]) [(0, .ref h)] rfl ?_
  intro p e s m args below meth c Q A H0 C hK hNW hlk hrt hnm hQ hH0 hAA hA
  refine x_aload_n C dX3_addCopy_0 rfl 0 rfl ?_
  refine x_get C hK in_X3_addCopy_X3 0 rfl rfl 2 (by decide) (by decide +kernel) rfl rfl dX3_addCopy_1 ?_
  refine x_istore_n C [(1, .int (nI n)), (0, .ref h)] dX3_addCopy_4 rfl (by decide) rfl ?_
  refine x_iconst C (nI 0) dX3_addCopy_5 (by decide +kernel) ?_
  refine x_istore_n C [(2, .int (nI 0)), (1, .int (nI n)), (0, .ref h)] dX3_addCopy_6 rfl (by decide) rfl ?_
  have K_1 : ∀ (fuel : Nat) (i : Nat), (i ≤ n) → n - i < fuel → X_ p l e rm_tr_addCopy s m args below meth c Q D A H0 3 0 0 [(h, OB 3 [.ref qb, .ref qc, .int (nI (n + i))]), (qb, AI cI 40 (rpF fb n i)), (qc, AI cI 40 (rpF fc n i))] [(0, .ref h), (1, .int (nI n)), (2, .int (nI i))] 7 [] := by
    intro fuel
    induction fuel with
    | zero =>
      intros
      exact absurd (by assumption) (Nat.not_lt_zero _)
    | succ fuel ih_K_1 =>
      intro i hi hm_2
      refine x_iload_n C dX3_addCopy_7 rfl 2 rfl ?_
      refine x_iload_n C dX3_addCopy_8 rfl 1 rfl ?_
      refine xn_icmp_ge C 35 (by omega) (by omega) dX3_addCopy_9 (by decide) (fun h_3 => ?_) (fun h_3 => ?_)
      ·
        have heq_i : n = i := by omega
        subst heq_i
        refine x_vret C hK hlk hrt hQ hH0 hAA () ?_ [0, 1, 2] (by decide) rfl (by first | decide | omega) (by first | decide | omega) dX3_addCopy_35
        first | rfl | (exact ⟨rfl, rfl⟩) | trivial | assumption | omega
      ·
        refine x_aload_n C dX3_addCopy_12 rfl 0 rfl ?_
        refine x_aload_n C dX3_addCopy_13 rfl 0 rfl ?_
        refine x_get C hK in_X3_addCopy_X3 0 rfl rfl 0 (by decide) (by decide +kernel) rfl rfl dX3_addCopy_14 ?_
        refine x_iload_n C dX3_addCopy_17 rfl 2 rfl ?_
        refine x_iald C hK 1 0 rfl hI (by omega) (by omega) dX3_addCopy_18 ?_
        refine x_aload_n C dX3_addCopy_19 rfl 0 rfl ?_
        refine x_get C hK in_X3_addCopy_X3 0 rfl rfl 1 (by decide) (by decide +kernel) rfl rfl dX3_addCopy_20 ?_
        refine x_iload_n C dX3_addCopy_23 rfl 2 rfl ?_
        refine x_iald C hK 2 0 rfl hI (by omega) (by omega) dX3_addCopy_24 ?_
        refine x_calli (x_runV C hK hNW (c_tr_add l D tys cI cJ hI hJ h qb qc (n + i) (rpF fb n i) (rpF fc n i) ((rpF fb n i) i) ((rpF fc n i) i) (by first | omega | assumption)) (cwV 2 C.2.2.2.2 gX3_addCopy_X3_add rfl rfl rfl (by decide +kernel) ⟨by decide, by decide⟩) [0, 1, 2] rfl (by decide) 0 3 rfl rfl rfl (st := []) rfl rfl (Nat.le_of_ble_eq_true rfl) dX3_addCopy_25 ⟨by first | decide | omega, by first | decide | omega⟩) hA [0, 1, 2] rfl [] [] rfl (by decide) (by decide) [0, 1, 2] (by decide) (wf := (fun (u : Unit) => [(h, OB 3 [.ref qb, .ref qc, .int (nI ((n + i) + 1))]), (qb, AI cI 40 (upd (rpF fb n i) (n + i) ((rpF fb n i) i))), (qc, AI cI 40 (upd (rpF fc n i) (n + i) ((rpF fc n i) i)))])) (fun _ => rfl) (fun r_4 u h_5 => ?_)
        subst h_5
        refine x_pop C dX3_addCopy_28 rfl ?_
        refine xn_iinc C (i + 1) [(2, .int (nI (i + 1))), (0, .ref h), (1, .int (nI n))] dX3_addCopy_29 2 rfl (by rw [show Int32.ofInt 1 = nI 1 from by decide +kernel]; exact nI_add _ _) (by decide) rfl ?_
        refine x_goto C 7 dX3_addCopy_32 (by decide) ?_
        refine x_lv [(0, .ref h), (1, .int (nI n)), (2, .int (nI (i + 1)))] [1, 2, 0] rfl ?_
        refine x_ws [(h, OB 3 [.ref qb, .ref qc, .int (nI (n + (i + 1)))]), (qb, AI cI 40 (rpF fb n (i + 1))), (qc, AI cI 40 (rpF fc n (i + 1)))] (by rw [show n + (i + 1) = (n + i) + 1 from by first | rfl | omega, rpF_s (by omega), rpF_s (by omega)]) ?_
        exact ih_K_1 (i + 1) (by first | assumption | omega) (by omega)
  refine x_lv [(0, .ref h), (1, .int (nI n)), (2, .int (nI 0))] [2, 1, 0] rfl ?_
  refine x_ws [(h, OB 3 [.ref qb, .ref qc, .int (nI (n + 0))]), (qb, AI cI 40 (rpF fb n 0)), (qc, AI cI 40 (rpF fc n 0))] (by rw [show n + 0 = n from by first | rfl | omega, rpF_0, rpF_0]) ?_
  exact K_1 (n - 0 + 1) 0 (by first | assumption | omega) (Nat.lt_succ_self _)
abbrev rm_tr_moveOn0 : Room := { frames := 0, cells := 0, slots := 0, locals := 0 }
set_option maxRecDepth 100000 in
set_option maxHeartbeats 4000000 in
theorem c_tr_moveOn0 (l : Launch) (D : va_G) (tys : List (ClassId × FieldType)) (cI cJ : ClassId) (hI : tys[0]? = some (cI, .int)) (hJ : tys[1]? = some (cJ, .long)) (h : Nat) (qb : Nat) (qc : Nat) (n : Nat) (fb : Nat → Int32) (fc : Nat → Int32) (pl : Nat) (hn : n = 0) : MV l yX3_moveOn wsX3_moveOn rm_tr_moveOn0 D tys [.ref h, .int (nI pl)] [(h, OB 3 [.ref qb, .ref qc, .int (nI n)]), (qb, AI cI 40 fb), (qc, AI cI 40 fc)] Unit (fun (_ : Unit) => True) (fun (_ : Unit) => [(h, OB 3 [.ref qb, .ref qc, .int (nI n)]), (qb, AI cI 40 fb), (qc, AI cI 40 fc)]) 0 0 := by
  intro sz
  refine x_met (cc := cX3_moveOn) (maxL := 3) (ret := none) (by decide +kernel) rfl (by show _ ≤ _; simp [lg_sl, Value.category]) [(0, .ref h), (1, .int (nI pl))] rfl ?_
  intro p e s m args below meth c Q A H0 C hK hNW hlk hrt hnm hQ hH0 hAA hA
  refine x_aload_n C dX3_moveOn_0 rfl 0 rfl ?_
  refine x_get C hK in_X3_moveOn_X3 0 rfl rfl 2 (by decide) (by decide +kernel) rfl rfl dX3_moveOn_1 ?_
  refine xn_if_le C 38 (by omega) dX3_moveOn_4 (by decide) (fun h_1 => ?_) (fun h_1 => ?_)
  ·
    refine x_vret C hK hlk hrt hQ hH0 hAA () ?_ [0, 1, 2] (by decide) rfl (by first | decide | omega) (by first | decide | omega) dX3_moveOn_38
    first | rfl | (exact ⟨rfl, rfl⟩) | trivial | assumption | omega
  ·
    exact absurd hn (by omega)
abbrev rm_tr_moveOn : Room := { frames := 2, cells := 0, slots := 0, locals := 48 }
set_option maxRecDepth 100000 in
set_option maxHeartbeats 4000000 in
theorem c_tr_moveOn (l : Launch) (D : va_G) (tys : List (ClassId × FieldType)) (cI cJ : ClassId) (hI : tys[0]? = some (cI, .int)) (hJ : tys[1]? = some (cJ, .long)) (h : Nat) (qb : Nat) (qc : Nat) (n : Nat) (fb : Nat → Int32) (fc : Nat → Int32) (pl : Nat) (hn : 0 < n) (hn2 : n ≤ 40) (hp : 0 < pl % n) (hpl : pl ≤ 40) : MV l yX3_moveOn wsX3_moveOn rm_tr_moveOn D tys [.ref h, .int (nI pl)] [(h, OB 3 [.ref qb, .ref qc, .int (nI n)]), (qb, AI cI 40 fb), (qc, AI cI 40 fc)] Unit (fun (_ : Unit) => True) (fun (_ : Unit) => [(h, OB 3 [.ref qb, .ref qc, .int (nI n)]), (qb, AI cI 40 (rvF (rvF (rvF fb 0 n) 0 (pl % n)) (pl % n) n)), (qc, AI cI 40 (rvF (rvF (rvF fc 0 n) 0 (pl % n)) (pl % n) n))]) 0 0 := by
  intro sz
  refine x_met (cc := cX3_moveOn) (maxL := 3) (ret := none) (by decide +kernel) rfl (by show _ ≤ _; simp [lg_sl, Value.category]) [(0, .ref h), (1, .int (nI pl))] rfl ?_
  intro p e s m args below meth c Q A H0 C hK hNW hlk hrt hnm hQ hH0 hAA hA
  have hm := Nat.mod_lt pl hn
  refine x_aload_n C dX3_moveOn_0 rfl 0 rfl ?_
  refine x_get C hK in_X3_moveOn_X3 0 rfl rfl 2 (by decide) (by decide +kernel) rfl rfl dX3_moveOn_1 ?_
  refine xn_if_le C 38 (by omega) dX3_moveOn_4 (by decide) (fun h_1 => ?_) (fun h_1 => ?_)
  ·
    exact absurd h_1 (by omega)
  ·
    refine x_iload_n C dX3_moveOn_7 rfl 1 rfl ?_
    refine x_aload_n C dX3_moveOn_8 rfl 0 rfl ?_
    refine x_get C hK in_X3_moveOn_X3 0 rfl rfl 2 (by decide) (by decide +kernel) rfl rfl dX3_moveOn_9 ?_
    refine xn_irem C (by omega) (by omega) (by omega) dX3_moveOn_12 ?_
    refine x_istore_n C [(2, .int (nI (pl % n))), (0, .ref h), (1, .int (nI pl))] dX3_moveOn_13 rfl (by decide) rfl ?_
    refine x_aload_n C dX3_moveOn_14 rfl 1 rfl ?_
    refine x_iconst C (nI 0) dX3_moveOn_15 (by decide +kernel) ?_
    refine x_aload_n C dX3_moveOn_16 rfl 1 rfl ?_
    refine x_get C hK in_X3_moveOn_X3 0 rfl rfl 2 (by decide) (by decide +kernel) rfl rfl dX3_moveOn_17 ?_
    refine x_callv (x_runV C hK hNW (c_tr_turn l D tys cI cJ hI hJ h qb qc n fb fc 0 n (by first | omega | assumption) (by first | omega | assumption) (by first | omega | assumption)) (cwV 2 C.2.2.2.2 gX3_moveOn_X3_turn rfl rfl rfl (by decide +kernel) ⟨by decide, by decide⟩) [0, 1, 2] rfl (by decide) 0 3 rfl rfl rfl (st := []) rfl rfl (Nat.le_of_ble_eq_true rfl) dX3_moveOn_20 ⟨by first | decide | omega, by first | decide | omega⟩) hA [0, 1, 2] rfl [] [] rfl (by decide) (by decide) [0, 1, 2] (by decide) (wf := (fun (u : Unit) => [(h, OB 3 [.ref qb, .ref qc, .int (nI n)]), (qb, AI cI 40 (rvF fb 0 n)), (qc, AI cI 40 (rvF fc 0 n))])) (fun _ => rfl) (fun u h_3 => ?_)
    refine x_aload_n C dX3_moveOn_23 rfl 1 rfl ?_
    refine x_iconst C (nI 0) dX3_moveOn_24 (by decide +kernel) ?_
    refine x_iload_n C dX3_moveOn_25 rfl 0 rfl ?_
    refine x_callv (x_runV C hK hNW (c_tr_turn l D tys cI cJ hI hJ h qb qc n (rvF fb 0 n) (rvF fc 0 n) 0 (pl % n) (by first | omega | assumption) (by first | omega | assumption) (by first | omega | assumption)) (cwV 2 C.2.2.2.2 gX3_moveOn_X3_turn rfl rfl rfl (by decide +kernel) ⟨by decide, by decide⟩) [0, 1, 2] rfl (by decide) 0 3 rfl rfl rfl (st := []) rfl rfl (Nat.le_of_ble_eq_true rfl) dX3_moveOn_26 ⟨by first | decide | omega, by first | decide | omega⟩) hA [0, 1, 2] rfl [] [] rfl (by decide) (by decide) [0, 1, 2] (by decide) (wf := (fun (u : Unit) => [(h, OB 3 [.ref qb, .ref qc, .int (nI n)]), (qb, AI cI 40 (rvF (rvF fb 0 n) 0 (pl % n))), (qc, AI cI 40 (rvF (rvF fc 0 n) 0 (pl % n)))])) (fun _ => rfl) (fun u h_5 => ?_)
    refine x_aload_n C dX3_moveOn_29 rfl 1 rfl ?_
    refine x_iload_n C dX3_moveOn_30 rfl 0 rfl ?_
    refine x_aload_n C dX3_moveOn_31 rfl 1 rfl ?_
    refine x_get C hK in_X3_moveOn_X3 0 rfl rfl 2 (by decide) (by decide +kernel) rfl rfl dX3_moveOn_32 ?_
    refine x_callv (x_runV C hK hNW (c_tr_turn l D tys cI cJ hI hJ h qb qc n (rvF (rvF fb 0 n) 0 (pl % n)) (rvF (rvF fc 0 n) 0 (pl % n)) (pl % n) n (by first | omega | assumption) (by first | omega | assumption) (by first | omega | assumption)) (cwV 2 C.2.2.2.2 gX3_moveOn_X3_turn rfl rfl rfl (by decide +kernel) ⟨by decide, by decide⟩) [0, 1, 2] rfl (by decide) 0 3 rfl rfl rfl (st := []) rfl rfl (Nat.le_of_ble_eq_true rfl) dX3_moveOn_35 ⟨by first | decide | omega, by first | decide | omega⟩) hA [0, 1, 2] rfl [] [] rfl (by decide) (by decide) [0, 1, 2] (by decide) (wf := (fun (u : Unit) => [(h, OB 3 [.ref qb, .ref qc, .int (nI n)]), (qb, AI cI 40 (rvF (rvF (rvF fb 0 n) 0 (pl % n)) (pl % n) n)), (qc, AI cI 40 (rvF (rvF (rvF fc 0 n) 0 (pl % n)) (pl % n) n))])) (fun _ => rfl) (fun u h_7 => ?_)
    refine x_vret C hK hlk hrt hQ hH0 hAA () ?_ [0, 1, 2] (by decide) rfl (by first | decide | omega) (by first | decide | omega) dX3_moveOn_38
    first | rfl | (exact ⟨rfl, rfl⟩) | trivial | assumption | omega
abbrev rm_tr_moveOnZ : Room := { frames := 2, cells := 0, slots := 0, locals := 48 }
set_option maxRecDepth 100000 in
set_option maxHeartbeats 4000000 in
theorem c_tr_moveOnZ (l : Launch) (D : va_G) (tys : List (ClassId × FieldType)) (cI cJ : ClassId) (hI : tys[0]? = some (cI, .int)) (hJ : tys[1]? = some (cJ, .long)) (h : Nat) (qb : Nat) (qc : Nat) (n : Nat) (fb : Nat → Int32) (fc : Nat → Int32) (pl : Nat) (hn : 0 < n) (hn2 : n ≤ 40) (hp : pl % n = 0) (hpl : pl ≤ 40) : MV l yX3_moveOn wsX3_moveOn rm_tr_moveOnZ D tys [.ref h, .int (nI pl)] [(h, OB 3 [.ref qb, .ref qc, .int (nI n)]), (qb, AI cI 40 fb), (qc, AI cI 40 fc)] Unit (fun (_ : Unit) => True) (fun (_ : Unit) => [(h, OB 3 [.ref qb, .ref qc, .int (nI n)]), (qb, AI cI 40 (rvF (rvF fb 0 n) 0 n)), (qc, AI cI 40 (rvF (rvF fc 0 n) 0 n))]) 0 0 := by
  intro sz
  refine x_met (cc := cX3_moveOn) (maxL := 3) (ret := none) (by decide +kernel) rfl (by show _ ≤ _; simp [lg_sl, Value.category]) [(0, .ref h), (1, .int (nI pl))] rfl ?_
  intro p e s m args below meth c Q A H0 C hK hNW hlk hrt hnm hQ hH0 hAA hA
  refine x_aload_n C dX3_moveOn_0 rfl 0 rfl ?_
  refine x_get C hK in_X3_moveOn_X3 0 rfl rfl 2 (by decide) (by decide +kernel) rfl rfl dX3_moveOn_1 ?_
  refine xn_if_le C 38 (by omega) dX3_moveOn_4 (by decide) (fun h_1 => ?_) (fun h_1 => ?_)
  ·
    exact absurd h_1 (by omega)
  ·
    refine x_iload_n C dX3_moveOn_7 rfl 1 rfl ?_
    refine x_aload_n C dX3_moveOn_8 rfl 0 rfl ?_
    refine x_get C hK in_X3_moveOn_X3 0 rfl rfl 2 (by decide) (by decide +kernel) rfl rfl dX3_moveOn_9 ?_
    refine xn_irem C (by omega) (by omega) (by omega) dX3_moveOn_12 ?_
    refine x_topi (nI 0) (by rw [hp]) ?_
    refine x_istore_n C [(2, .int (nI 0)), (0, .ref h), (1, .int (nI pl))] dX3_moveOn_13 rfl (by decide) rfl ?_
    refine x_aload_n C dX3_moveOn_14 rfl 1 rfl ?_
    refine x_iconst C (nI 0) dX3_moveOn_15 (by decide +kernel) ?_
    refine x_aload_n C dX3_moveOn_16 rfl 1 rfl ?_
    refine x_get C hK in_X3_moveOn_X3 0 rfl rfl 2 (by decide) (by decide +kernel) rfl rfl dX3_moveOn_17 ?_
    refine x_callv (x_runV C hK hNW (c_tr_turn l D tys cI cJ hI hJ h qb qc n fb fc 0 n (by first | omega | assumption) (by first | omega | assumption) (by first | omega | assumption)) (cwV 2 C.2.2.2.2 gX3_moveOn_X3_turn rfl rfl rfl (by decide +kernel) ⟨by decide, by decide⟩) [0, 1, 2] rfl (by decide) 0 3 rfl rfl rfl (st := []) rfl rfl (Nat.le_of_ble_eq_true rfl) dX3_moveOn_20 ⟨by first | decide | omega, by first | decide | omega⟩) hA [0, 1, 2] rfl [] [] rfl (by decide) (by decide) [0, 1, 2] (by decide) (wf := (fun (u : Unit) => [(h, OB 3 [.ref qb, .ref qc, .int (nI n)]), (qb, AI cI 40 (rvF fb 0 n)), (qc, AI cI 40 (rvF fc 0 n))])) (fun _ => rfl) (fun u h_3 => ?_)
    refine x_aload_n C dX3_moveOn_23 rfl 1 rfl ?_
    refine x_iconst C (nI 0) dX3_moveOn_24 (by decide +kernel) ?_
    refine x_iload_n C dX3_moveOn_25 rfl 0 rfl ?_
    refine x_callv (x_runV C hK hNW (c_tr_turn0 l D tys cI cJ hI hJ h qb qc n (rvF fb 0 n) (rvF fc 0 n) ) (cwV 2 C.2.2.2.2 gX3_moveOn_X3_turn rfl rfl rfl (by decide +kernel) ⟨by decide, by decide⟩) [0, 1, 2] rfl (by decide) 0 3 rfl rfl rfl (st := []) rfl rfl (Nat.le_of_ble_eq_true rfl) dX3_moveOn_26 ⟨by first | decide | omega, by first | decide | omega⟩) hA [0, 1, 2] rfl [] [] rfl (by decide) (by decide) [0, 1, 2] (by decide) (wf := (fun (u : Unit) => [(h, OB 3 [.ref qb, .ref qc, .int (nI n)]), (qb, AI cI 40 (rvF fb 0 n)), (qc, AI cI 40 (rvF fc 0 n))])) (fun _ => rfl) (fun u h_5 => ?_)
    refine x_aload_n C dX3_moveOn_29 rfl 1 rfl ?_
    refine x_iload_n C dX3_moveOn_30 rfl 0 rfl ?_
    refine x_aload_n C dX3_moveOn_31 rfl 1 rfl ?_
    refine x_get C hK in_X3_moveOn_X3 0 rfl rfl 2 (by decide) (by decide +kernel) rfl rfl dX3_moveOn_32 ?_
    refine x_callv (x_runV C hK hNW (c_tr_turn l D tys cI cJ hI hJ h qb qc n (rvF fb 0 n) (rvF fc 0 n) 0 n (by first | omega | assumption) (by first | omega | assumption) (by first | omega | assumption)) (cwV 2 C.2.2.2.2 gX3_moveOn_X3_turn rfl rfl rfl (by decide +kernel) ⟨by decide, by decide⟩) [0, 1, 2] rfl (by decide) 0 3 rfl rfl rfl (st := []) rfl rfl (Nat.le_of_ble_eq_true rfl) dX3_moveOn_35 ⟨by first | decide | omega, by first | decide | omega⟩) hA [0, 1, 2] rfl [] [] rfl (by decide) (by decide) [0, 1, 2] (by decide) (wf := (fun (u : Unit) => [(h, OB 3 [.ref qb, .ref qc, .int (nI n)]), (qb, AI cI 40 (rvF (rvF fb 0 n) 0 n)), (qc, AI cI 40 (rvF (rvF fc 0 n) 0 n))])) (fun _ => rfl) (fun u h_7 => ?_)
    refine x_vret C hK hlk hrt hQ hH0 hAA () ?_ [0, 1, 2] (by decide) rfl (by first | decide | omega) (by first | decide | omega) dX3_moveOn_38
    first | rfl | (exact ⟨rfl, rfl⟩) | trivial | assumption | omega
abbrev rm_tr_rpt : Room := { frames := 0, cells := 0, slots := 0, locals := 0 }
set_option maxRecDepth 100000 in
set_option maxHeartbeats 4000000 in
theorem c_tr_rpt (l : Launch) (D : va_G) (tys : List (ClassId × FieldType)) (cI cJ : ClassId) (hI : tys[0]? = some (cI, .int)) (hJ : tys[1]? = some (cJ, .long)) (h : Nat) (qb : Nat) (qc : Nat) (n : Nat) (fb : Nat → Int32) (fc : Nat → Int32) (k : Nat) (hn : n ≤ 40) (hk : 1 ≤ k) (hkn : k ≤ 40) : MI l yX3_repeatsAfter wsX3_repeatsAfter rm_tr_rpt D tys [.ref h, .int (nI k)] [(h, OB 3 [.ref qb, .ref qc, .int (nI n)]), (qb, AI cI 40 fb), (qc, AI cI 40 fc)] Unit (fun r (_ : Unit) => r = bI (cB (rpt fb fc n k))) (fun (_ : Unit) => [(h, OB 3 [.ref qb, .ref qc, .int (nI n)]), (qb, AI cI 40 fb), (qc, AI cI 40 fc)]) 0 0 := by
  intro sz
  refine x_met (cc := cX3_repeatsAfter) (maxL := 4) (ret := (some .boolean)) (by decide +kernel) rfl (by show _ ≤ _; simp [lg_sl, Value.category]) [(0, .ref h), (1, .int (nI k))] rfl ?_
  intro p e s m args below meth c Q A H0 C hK hNW hlk hrt hnm hQ hH0 hAA hA
  refine x_iload_n C dX3_repeatsAfter_0 rfl 1 rfl ?_
  refine x_istore_n C [(2, .int (nI k)), (0, .ref h), (1, .int (nI k))] dX3_repeatsAfter_1 rfl (by decide) rfl ?_
  have K_1 : ∀ (fuel : Nat) (i : Nat), (k ≤ i) → (i ≤ 40) → (∀ j, k ≤ j → j < i → fb j = fb (j - k) ∧ fc j = fc (j - k)) → 41 + n - i < fuel → X_ p l e rm_tr_rpt s m args below meth c Q D A H0 4 0 0 [(h, OB 3 [.ref qb, .ref qc, .int (nI n)]), (qb, AI cI 40 fb), (qc, AI cI 40 fc)] [(0, .ref h), (1, .int (nI k)), (2, .int (nI i))] 2 [] := by
    intro fuel
    induction fuel with
    | zero =>
      intros
      exact absurd (by assumption) (Nat.not_lt_zero _)
    | succ fuel ih_K_1 =>
      intro i hi hi2 hx hm_2
      refine x_iload_n C dX3_repeatsAfter_2 rfl 2 rfl ?_
      refine x_aload_n C dX3_repeatsAfter_3 rfl 0 rfl ?_
      refine x_get C hK in_X3_repeatsAfter_X3 0 rfl rfl 2 (by decide) (by decide +kernel) rfl rfl dX3_repeatsAfter_4 ?_
      refine xn_icmp_ge C 52 (by omega) (by omega) dX3_repeatsAfter_7 (by decide) (fun h_3 => ?_) (fun h_3 => ?_)
      ·
        refine x_iconst C (nI 1) dX3_repeatsAfter_52 (by decide +kernel) ?_
        refine x_zret C hK hlk hrt hQ hH0 hAA () (by first | (left; rfl) | (right; rfl) | assumption | (simp; done)) ?_ [0, 1, 2] (by decide) rfl (by first | decide | omega) (by first | decide | omega) dX3_repeatsAfter_53
        rw [cB_t (P := rpt fb fc n k) (fun j h1 h2 => hx j h1 (by omega))]; rfl
      ·
        refine x_iload_n C dX3_repeatsAfter_10 rfl 2 rfl ?_
        refine x_iload_n C dX3_repeatsAfter_11 rfl 1 rfl ?_
        refine xn_isub C (by omega) dX3_repeatsAfter_12 ?_
        refine x_istore_n C [(3, .int (nI (i - k))), (0, .ref h), (1, .int (nI k)), (2, .int (nI i))] dX3_repeatsAfter_13 rfl (by decide) rfl ?_
        refine x_aload_n C dX3_repeatsAfter_14 rfl 1 rfl ?_
        refine x_get C hK in_X3_repeatsAfter_X3 0 rfl rfl 0 (by decide) (by decide +kernel) rfl rfl dX3_repeatsAfter_15 ?_
        refine x_iload_n C dX3_repeatsAfter_18 rfl 3 rfl ?_
        refine x_iald C hK 1 0 rfl hI (by omega) (by omega) dX3_repeatsAfter_19 ?_
        refine x_aload_n C dX3_repeatsAfter_20 rfl 1 rfl ?_
        refine x_get C hK in_X3_repeatsAfter_X3 0 rfl rfl 0 (by decide) (by decide +kernel) rfl rfl dX3_repeatsAfter_21 ?_
        refine x_iload_n C dX3_repeatsAfter_24 rfl 0 rfl ?_
        refine x_iald C hK 1 0 rfl hI (by omega) (by omega) dX3_repeatsAfter_25 ?_
        refine x_icmp_ne C 44 dX3_repeatsAfter_26 (by decide) (fun h_4 => ?_) (fun h_4 => ?_)
        ·
          refine x_iconst C (nI 0) dX3_repeatsAfter_44 (by decide +kernel) ?_
          refine x_zret C hK hlk hrt hQ hH0 hAA () (by first | (left; rfl) | (right; rfl) | assumption | (simp; done)) ?_ [0, 1, 2] (by decide) rfl (by first | decide | omega) (by first | decide | omega) dX3_repeatsAfter_45
          rw [cB_f (P := rpt fb fc n k) (fun q => by have := q i (by omega) (by omega); simp_all)]; rfl
        ·
          refine x_aload_n C dX3_repeatsAfter_29 rfl 1 rfl ?_
          refine x_get C hK in_X3_repeatsAfter_X3 0 rfl rfl 1 (by decide) (by decide +kernel) rfl rfl dX3_repeatsAfter_30 ?_
          refine x_iload_n C dX3_repeatsAfter_33 rfl 3 rfl ?_
          refine x_iald C hK 2 0 rfl hI (by omega) (by omega) dX3_repeatsAfter_34 ?_
          refine x_aload_n C dX3_repeatsAfter_35 rfl 1 rfl ?_
          refine x_get C hK in_X3_repeatsAfter_X3 0 rfl rfl 1 (by decide) (by decide +kernel) rfl rfl dX3_repeatsAfter_36 ?_
          refine x_iload_n C dX3_repeatsAfter_39 rfl 0 rfl ?_
          refine x_iald C hK 2 0 rfl hI (by omega) (by omega) dX3_repeatsAfter_40 ?_
          refine x_icmp_eq C 46 dX3_repeatsAfter_41 (by decide) (fun h_5 => ?_) (fun h_5 => ?_)
          ·
            refine xn_iinc C (i + 1) [(2, .int (nI (i + 1))), (3, .int (nI (i - k))), (0, .ref h), (1, .int (nI k))] dX3_repeatsAfter_46 3 rfl (by rw [show Int32.ofInt 1 = nI 1 from by decide +kernel]; exact nI_add _ _) (by decide) rfl ?_
            refine x_goto C 2 dX3_repeatsAfter_49 (by decide) ?_
            refine x_lv [(0, .ref h), (1, .int (nI k)), (2, .int (nI (i + 1)))] [2, 3, 0] rfl ?_
            exact ih_K_1 (i + 1) (by first | assumption | omega) (by first | assumption | omega) (by intro j h1 h2; by_cases e : j = i; { subst e; exact ⟨by first | assumption | (symm; assumption), by first | assumption | (symm; assumption)⟩ }; exact hx j h1 (by omega)) (by omega)
          ·
            refine x_iconst C (nI 0) dX3_repeatsAfter_44 (by decide +kernel) ?_
            refine x_zret C hK hlk hrt hQ hH0 hAA () (by first | (left; rfl) | (right; rfl) | assumption | (simp; done)) ?_ [0, 1, 2] (by decide) rfl (by first | decide | omega) (by first | decide | omega) dX3_repeatsAfter_45
            rw [cB_f (P := rpt fb fc n k) (fun q => by have := q i (by omega) (by omega); simp_all)]; rfl
  refine x_lv [(0, .ref h), (1, .int (nI k)), (2, .int (nI k))] [1, 2, 0] rfl ?_
  exact K_1 (41 + n - k + 1) k (by first | assumption | omega) (by first | assumption | omega) (by intro j h1 h2; omega) (Nat.lt_succ_self _)
abbrev rm_tr_per : Room := { frames := 1, cells := 0, slots := 0, locals := 23 }
set_option maxRecDepth 100000 in
set_option maxHeartbeats 4000000 in
theorem c_tr_per (l : Launch) (D : va_G) (tys : List (ClassId × FieldType)) (cI cJ : ClassId) (hI : tys[0]? = some (cI, .int)) (hJ : tys[1]? = some (cJ, .long)) (h : Nat) (qb : Nat) (qc : Nat) (n : Nat) (fb : Nat → Int32) (fc : Nat → Int32) (hn : n ≤ 40) : MI l yX3_leastPeriod wsX3_leastPeriod rm_tr_per D tys [.ref h] [(h, OB 3 [.ref qb, .ref qc, .int (nI n)]), (qb, AI cI 40 fb), (qc, AI cI 40 fc)] Nat (fun r (kp : Nat) => r = nI kp ∧ isPer fb fc n kp) (fun (kp : Nat) => [(h, OB 3 [.ref qb, .ref qc, .int (nI n)]), (qb, AI cI 40 fb), (qc, AI cI 40 fc)]) 0 0 := by
  intro sz
  refine x_met (cc := cX3_leastPeriod) (maxL := 2) (ret := (some .int)) (by decide +kernel) rfl (by show _ ≤ _; simp [lg_sl, Value.category]) [(0, .ref h)] rfl ?_
  intro p e s m args below meth c Q A H0 C hK hNW hlk hrt hnm hQ hH0 hAA hA
  refine x_iconst C (nI 1) dX3_leastPeriod_0 (by decide +kernel) ?_
  refine x_istore_n C [(1, .int (nI 1)), (0, .ref h)] dX3_leastPeriod_1 rfl (by decide) rfl ?_
  have K_1 : ∀ (fuel : Nat) (i : Nat), (1 ≤ i) → (i ≤ n + 1) → (∀ j, 1 ≤ j → j < i → ¬ rpt fb fc n j) → n + 2 - i < fuel → X_ p l e rm_tr_per s m args below meth c Q D A H0 2 0 0 [(h, OB 3 [.ref qb, .ref qc, .int (nI n)]), (qb, AI cI 40 fb), (qc, AI cI 40 fc)] [(0, .ref h), (1, .int (nI i))] 2 [] := by
    intro fuel
    induction fuel with
    | zero =>
      intros
      exact absurd (by assumption) (Nat.not_lt_zero _)
    | succ fuel ih_K_1 =>
      intro i hi hi2 hx hm_2
      refine x_iload_n C dX3_leastPeriod_2 rfl 1 rfl ?_
      refine x_aload_n C dX3_leastPeriod_3 rfl 0 rfl ?_
      refine x_get C hK in_X3_leastPeriod_X3 0 rfl rfl 2 (by decide) (by decide +kernel) rfl rfl dX3_leastPeriod_4 ?_
      refine xn_icmp_ge C 26 (by omega) (by omega) dX3_leastPeriod_7 (by decide) (fun h_3 => ?_) (fun h_3 => ?_)
      ·
        refine x_aload_n C dX3_leastPeriod_26 rfl 0 rfl ?_
        refine x_get C hK in_X3_leastPeriod_X3 0 rfl rfl 2 (by decide) (by decide +kernel) rfl rfl dX3_leastPeriod_27 ?_
        refine x_iret C hK hlk hrt hQ hH0 hAA n ?_ [0, 1, 2] (by decide) rfl (by first | decide | omega) (by first | decide | omega) dX3_leastPeriod_30
        exact ⟨rfl, by omega, by omega, fun j h1 h2 => by omega, fun j h1 h2 => hx j h1 (by omega)⟩
      ·
        refine x_aload_n C dX3_leastPeriod_10 rfl 0 rfl ?_
        refine x_iload_n C dX3_leastPeriod_11 rfl 1 rfl ?_
        refine x_calli (x_runV C hK hNW (c_tr_rpt l D tys cI cJ hI hJ h qb qc n fb fc i (by first | omega | assumption) (by first | omega | assumption) (by first | omega | assumption)) (cwV 1 C.2.2.2.2 gX3_leastPeriod_X3_repeatsAfter rfl rfl rfl (by decide +kernel) ⟨by decide, by decide⟩) [0, 1, 2] rfl (by decide) 0 3 rfl rfl rfl (st := []) rfl rfl (Nat.le_of_ble_eq_true rfl) dX3_leastPeriod_12 ⟨by first | decide | omega, by first | decide | omega⟩) hA [0, 1, 2] rfl [] [] rfl (by decide) (by decide) [0, 1, 2] (by decide) (wf := (fun (u : Unit) => [(h, OB 3 [.ref qb, .ref qc, .int (nI n)]), (qb, AI cI 40 fb), (qc, AI cI 40 fc)])) (fun _ => rfl) (fun r_4 u h_5 => ?_)
        subst h_5
        refine x_if_eq C 20 dX3_leastPeriod_15 (by decide) (fun h_6 => ?_) (fun h_6 => ?_)
        ·
          refine xn_iinc C (i + 1) [(1, .int (nI (i + 1))), (0, .ref h)] dX3_leastPeriod_20 1 rfl (by rw [show Int32.ofInt 1 = nI 1 from by decide +kernel]; exact nI_add _ _) (by decide) rfl ?_
          refine x_goto C 2 dX3_leastPeriod_23 (by decide) ?_
          refine x_lv [(0, .ref h), (1, .int (nI (i + 1)))] [1, 0] rfl ?_
          exact ih_K_1 (i + 1) (by first | assumption | omega) (by first | assumption | omega) (by intro j h1 h2; by_cases e : j = i; { subst e; exact cB_n (bI_eq0 (by assumption)) }; exact hx j h1 (by omega)) (by omega)
        ·
          refine x_iload_n C dX3_leastPeriod_18 rfl 1 rfl ?_
          refine x_iret C hK hlk hrt hQ hH0 hAA i ?_ [0, 1, 2] (by decide) rfl (by first | decide | omega) (by first | decide | omega) dX3_leastPeriod_19
          exact ⟨rfl, Or.inl (by omega), by omega, cB_y (bI_ne0 (by assumption)), hx⟩
  refine x_lv [(0, .ref h), (1, .int (nI 1))] [1, 0] rfl ?_
  exact K_1 (n + 2 - 1 + 1) 1 (by first | assumption | omega) (by first | assumption | omega) (by intro j h1 h2; omega) (Nat.lt_succ_self _)
abbrev rm_tr_cnt : Room := { frames := 0, cells := 0, slots := 0, locals := 0 }
set_option maxRecDepth 100000 in
set_option maxHeartbeats 4000000 in
theorem c_tr_cnt (l : Launch) (D : va_G) (tys : List (ClassId × FieldType)) (cI cJ : ClassId) (hI : tys[0]? = some (cI, .int)) (hJ : tys[1]? = some (cJ, .long)) (h : Nat) (qb : Nat) (qc : Nat) (n : Nat) (fb : Nat → Int32) (fc : Nat → Int32) (c0 : Int32) (hn : n ≤ 40) : MI l yX3_threadsColoured wsX3_threadsColoured rm_tr_cnt D tys [.ref h, .int c0] [(h, OB 3 [.ref qb, .ref qc, .int (nI n)]), (qb, AI cI 40 fb), (qc, AI cI 40 fc)] Unit (fun r (_ : Unit) => r = nI (cnE fc c0 n)) (fun (_ : Unit) => [(h, OB 3 [.ref qb, .ref qc, .int (nI n)]), (qb, AI cI 40 fb), (qc, AI cI 40 fc)]) 0 0 := by
  intro sz
  refine x_met (cc := cX3_threadsColoured) (maxL := 4) (ret := (some .int)) (by decide +kernel) rfl (by show _ ≤ _; simp [lg_sl, Value.category]) [(0, .ref h), (1, .int c0)] rfl ?_
  intro p e s m args below meth c Q A H0 C hK hNW hlk hrt hnm hQ hH0 hAA hA
  refine x_iconst C (nI 0) dX3_threadsColoured_0 (by decide +kernel) ?_
  refine x_istore_n C [(2, .int (nI 0)), (0, .ref h), (1, .int c0)] dX3_threadsColoured_1 rfl (by decide) rfl ?_
  refine x_iconst C (nI 0) dX3_threadsColoured_2 (by decide +kernel) ?_
  refine x_istore_n C [(3, .int (nI 0)), (2, .int (nI 0)), (0, .ref h), (1, .int c0)] dX3_threadsColoured_3 rfl (by decide) rfl ?_
  have K_1 : ∀ (fuel : Nat) (i : Nat), (i ≤ n) → n - i < fuel → X_ p l e rm_tr_cnt s m args below meth c Q D A H0 4 0 0 [(h, OB 3 [.ref qb, .ref qc, .int (nI n)]), (qb, AI cI 40 fb), (qc, AI cI 40 fc)] [(0, .ref h), (1, .int c0), (2, .int (nI (cnE fc c0 i))), (3, .int (nI i))] 4 [] := by
    intro fuel
    induction fuel with
    | zero =>
      intros
      exact absurd (by assumption) (Nat.not_lt_zero _)
    | succ fuel ih_K_1 =>
      intro i hi hm_2
      refine x_iload_n C dX3_threadsColoured_4 rfl 3 rfl ?_
      refine x_aload_n C dX3_threadsColoured_5 rfl 0 rfl ?_
      refine x_get C hK in_X3_threadsColoured_X3 0 rfl rfl 2 (by decide) (by decide +kernel) rfl rfl dX3_threadsColoured_6 ?_
      refine xn_icmp_ge C 31 (by omega) (by omega) dX3_threadsColoured_9 (by decide) (fun h_3 => ?_) (fun h_3 => ?_)
      ·
        have heq_i : n = i := by omega
        subst heq_i
        refine x_iload_n C dX3_threadsColoured_31 rfl 2 rfl ?_
        refine x_iret C hK hlk hrt hQ hH0 hAA () ?_ [0, 1, 2] (by decide) rfl (by first | decide | omega) (by first | decide | omega) dX3_threadsColoured_32
        first | rfl | (exact ⟨rfl, rfl⟩) | trivial | assumption | omega
      ·
        refine x_aload_n C dX3_threadsColoured_12 rfl 0 rfl ?_
        refine x_get C hK in_X3_threadsColoured_X3 0 rfl rfl 1 (by decide) (by decide +kernel) rfl rfl dX3_threadsColoured_13 ?_
        refine x_iload_n C dX3_threadsColoured_16 rfl 3 rfl ?_
        refine x_iald C hK 2 0 rfl hI (by omega) (by omega) dX3_threadsColoured_17 ?_
        refine x_iload_n C dX3_threadsColoured_18 rfl 1 rfl ?_
        refine x_icmp_ne C 25 dX3_threadsColoured_19 (by decide) (fun h_4 => ?_) (fun h_4 => ?_)
        ·
          have he := cnE_n h_4
          refine xn_iinc C (i + 1) [(3, .int (nI (i + 1))), (0, .ref h), (1, .int c0), (2, .int (nI (cnE fc c0 i)))] dX3_threadsColoured_25 3 rfl (by rw [show Int32.ofInt 1 = nI 1 from by decide +kernel]; exact nI_add _ _) (by decide) rfl ?_
          refine x_goto C 4 dX3_threadsColoured_28 (by decide) ?_
          refine x_lv [(0, .ref h), (1, .int c0), (2, .int (nI (cnE fc c0 (i + 1)))), (3, .int (nI (i + 1)))] [1, 2, 3, 0] (by rw [show cnE fc c0 (i + 1) = cnE fc c0 i from by first | rfl | omega]; rfl) ?_
          exact ih_K_1 (i + 1) (by first | assumption | omega) (by omega)
        ·
          have he := cnE_y h_4
          refine xn_iinc C ((cnE fc c0 i) + 1) [(2, .int (nI ((cnE fc c0 i) + 1))), (0, .ref h), (1, .int c0), (3, .int (nI i))] dX3_threadsColoured_22 2 rfl (by rw [show Int32.ofInt 1 = nI 1 from by decide +kernel]; exact nI_add _ _) (by decide) rfl ?_
          refine xn_iinc C (i + 1) [(3, .int (nI (i + 1))), (2, .int (nI ((cnE fc c0 i) + 1))), (0, .ref h), (1, .int c0)] dX3_threadsColoured_25 3 rfl (by rw [show Int32.ofInt 1 = nI 1 from by decide +kernel]; exact nI_add _ _) (by decide) rfl ?_
          refine x_goto C 4 dX3_threadsColoured_28 (by decide) ?_
          refine x_lv [(0, .ref h), (1, .int c0), (2, .int (nI (cnE fc c0 (i + 1)))), (3, .int (nI (i + 1)))] [2, 3, 1, 0] (by rw [show cnE fc c0 (i + 1) = (cnE fc c0 i) + 1 from by first | rfl | omega]; rfl) ?_
          exact ih_K_1 (i + 1) (by first | assumption | omega) (by omega)
  refine x_lv [(0, .ref h), (1, .int c0), (2, .int (nI (cnE fc c0 0))), (3, .int (nI 0))] [2, 3, 1, 0] (by rw [show cnE fc c0 0 = 0 from by first | rfl | omega]; rfl) ?_
  exact K_1 (n - 0 + 1) 0 (by first | assumption | omega) (Nat.lt_succ_self _)
abbrev rm_tr_dig : Room := { frames := 1, cells := 0, slots := 0, locals := 23 }
set_option maxRecDepth 100000 in
set_option maxHeartbeats 4000000 in
theorem c_tr_dig (l : Launch) (D : va_G) (tys : List (ClassId × FieldType)) (cI cJ : ClassId) (hI : tys[0]? = some (cI, .int)) (hJ : tys[1]? = some (cJ, .long)) (h : Nat) (qb : Nat) (qc : Nat) (n : Nat) (fb : Nat → Int32) (fc : Nat → Int32) (d : Int64) (hn : n ≤ 40) : ML l yX3_digestFrom wsX3_digestFrom rm_tr_dig D tys [.ref h, .long d] [(h, OB 3 [.ref qb, .ref qc, .int (nI n)]), (qb, AI cI 40 fb), (qc, AI cI 40 fc)] Unit (fun r (_ : Unit) => r = dgR fb fc (dgw d (nI n).toInt64) n) (fun (_ : Unit) => [(h, OB 3 [.ref qb, .ref qc, .int (nI n)]), (qb, AI cI 40 fb), (qc, AI cI 40 fc)]) 0 0 := by
  intro sz
  refine x_met (cc := cX3_digestFrom) (maxL := 6) (ret := (some .long)) (by decide +kernel) rfl (by show _ ≤ _; simp [lg_sl, Value.category]) [(0, .ref h), (1, .long d)] rfl ?_
  intro p e s m args below meth c Q A H0 C hK hNW hlk hrt hnm hQ hH0 hAA hA
  refine x_lload_n C dX3_digestFrom_0 rfl 1 rfl ?_
  refine x_aload_n C dX3_digestFrom_1 rfl 0 rfl ?_
  refine x_get C hK in_X3_digestFrom_X3 0 rfl rfl 2 (by decide) (by decide +kernel) rfl rfl dX3_digestFrom_2 ?_
  refine x_i2l C _ dX3_digestFrom_5 rfl ?_
  refine x_calll (x_runSN C hK hNW (c_digestWith l D tys cI cJ hI hJ d ((nI n).toInt64) ) ⟨va_cnB 2 C.2.2.2.2 gX3_digestFrom_X4_digestWith_n41 rfl rfl rfl (hNW.at 16 rfl) (C.2.2.2.2 (.initialized RX4) (by decide +kernel)) (by decide +kernel) ⟨by decide, by decide⟩, C.2.2.2.2 (.static yX4_digestWith) (by decide +kernel), trivial⟩ [] rfl (by decide) (st := []) rfl rfl (Nat.le_of_ble_eq_true rfl) dX3_digestFrom_6 ⟨by first | decide | omega, by first | decide | omega⟩) hA [] rfl [0, 1, 2] [(h, OB 3 [.ref qb, .ref qc, .int (nI n)]), (qb, AI cI 40 fb), (qc, AI cI 40 fc)] rfl (by decide) (by decide) [0, 1, 2] (by decide) (wf := (fun (u : Unit) => [(h, OB 3 [.ref qb, .ref qc, .int (nI n)]), (qb, AI cI 40 fb), (qc, AI cI 40 fc)])) (fun _ => rfl) (fun r_1 u h_2 => ?_)
  subst h_2
  refine x_lstore_n C [(3, .long (dgw d ((nI n).toInt64))), (0, .ref h), (1, .long d)] dX3_digestFrom_9 rfl (by decide) rfl ?_
  refine x_iconst C (nI 0) dX3_digestFrom_10 (by decide +kernel) ?_
  refine x_istore C [(5, .int (nI 0)), (3, .long (dgw d ((nI n).toInt64))), (0, .ref h), (1, .long d)] dX3_digestFrom_11 (by decide) rfl ?_
  have K_3 : ∀ (fuel : Nat) (i : Nat), (i ≤ n) → n - i < fuel → X_ p l e rm_tr_dig s m args below meth c Q D A H0 6 0 0 [(h, OB 3 [.ref qb, .ref qc, .int (nI n)]), (qb, AI cI 40 fb), (qc, AI cI 40 fc)] [(0, .ref h), (3, .long (dgR fb fc (dgw d (nI n).toInt64) i)), (5, .int (nI i))] 13 [] := by
    intro fuel
    induction fuel with
    | zero =>
      intros
      exact absurd (by assumption) (Nat.not_lt_zero _)
    | succ fuel ih_K_3 =>
      intro i hi hm_4
      refine x_iload C dX3_digestFrom_13 2 rfl ?_
      refine x_aload_n C dX3_digestFrom_15 rfl 0 rfl ?_
      refine x_get C hK in_X3_digestFrom_X3 0 rfl rfl 2 (by decide) (by decide +kernel) rfl rfl dX3_digestFrom_16 ?_
      refine xn_icmp_ge C 54 (by omega) (by omega) dX3_digestFrom_19 (by decide) (fun h_5 => ?_) (fun h_5 => ?_)
      ·
        have heq_i : n = i := by omega
        subst heq_i
        refine x_lload_n C dX3_digestFrom_54 rfl 1 rfl ?_
        refine x_lret C hK hlk hrt hQ hH0 hAA () ?_ [0, 1, 2] (by decide) rfl (by first | decide | omega) (by first | decide | omega) dX3_digestFrom_55
        first | rfl | (exact ⟨rfl, rfl⟩) | trivial | assumption | omega
      ·
        refine x_lload_n C dX3_digestFrom_22 rfl 1 rfl ?_
        refine x_aload_n C dX3_digestFrom_23 rfl 0 rfl ?_
        refine x_get C hK in_X3_digestFrom_X3 0 rfl rfl 0 (by decide) (by decide +kernel) rfl rfl dX3_digestFrom_24 ?_
        refine x_iload C dX3_digestFrom_27 2 rfl ?_
        refine x_iald C hK 1 0 rfl hI (by omega) (by omega) dX3_digestFrom_29 ?_
        refine x_i2l C _ dX3_digestFrom_30 rfl ?_
        refine x_calll (x_runSN C hK hNW (c_digestWith l D tys cI cJ hI hJ (dgR fb fc (dgw d (nI n).toInt64) i) ((fb i).toInt64) ) ⟨va_cnB 2 C.2.2.2.2 gX3_digestFrom_X4_digestWith_n41 rfl rfl rfl (hNW.at 16 rfl) (C.2.2.2.2 (.initialized RX4) (by decide +kernel)) (by decide +kernel) ⟨by decide, by decide⟩, C.2.2.2.2 (.static yX4_digestWith) (by decide +kernel), trivial⟩ [] rfl (by decide) (st := []) rfl rfl (Nat.le_of_ble_eq_true rfl) dX3_digestFrom_31 ⟨by first | decide | omega, by first | decide | omega⟩) hA [] rfl [0, 1, 2] [(h, OB 3 [.ref qb, .ref qc, .int (nI n)]), (qb, AI cI 40 fb), (qc, AI cI 40 fc)] rfl (by decide) (by decide) [0, 1, 2] (by decide) (wf := (fun (u : Unit) => [(h, OB 3 [.ref qb, .ref qc, .int (nI n)]), (qb, AI cI 40 fb), (qc, AI cI 40 fc)])) (fun _ => rfl) (fun r_6 u h_7 => ?_)
        subst h_7
        refine x_lstore_n C [(3, .long (dgw (dgR fb fc (dgw d (nI n).toInt64) i) ((fb i).toInt64))), (0, .ref h), (5, .int (nI i))] dX3_digestFrom_34 rfl (by decide) rfl ?_
        refine x_lload_n C dX3_digestFrom_35 rfl 0 rfl ?_
        refine x_aload_n C dX3_digestFrom_36 rfl 1 rfl ?_
        refine x_get C hK in_X3_digestFrom_X3 0 rfl rfl 1 (by decide) (by decide +kernel) rfl rfl dX3_digestFrom_37 ?_
        refine x_iload C dX3_digestFrom_40 2 rfl ?_
        refine x_iald C hK 2 0 rfl hI (by omega) (by omega) dX3_digestFrom_42 ?_
        refine x_i2l C _ dX3_digestFrom_43 rfl ?_
        refine x_calll (x_runSN C hK hNW (c_digestWith l D tys cI cJ hI hJ (dgw (dgR fb fc (dgw d (nI n).toInt64) i) ((fb i).toInt64)) ((fc i).toInt64) ) ⟨va_cnB 2 C.2.2.2.2 gX3_digestFrom_X4_digestWith_n41 rfl rfl rfl (hNW.at 16 rfl) (C.2.2.2.2 (.initialized RX4) (by decide +kernel)) (by decide +kernel) ⟨by decide, by decide⟩, C.2.2.2.2 (.static yX4_digestWith) (by decide +kernel), trivial⟩ [] rfl (by decide) (st := []) rfl rfl (Nat.le_of_ble_eq_true rfl) dX3_digestFrom_44 ⟨by first | decide | omega, by first | decide | omega⟩) hA [] rfl [0, 1, 2] [(h, OB 3 [.ref qb, .ref qc, .int (nI n)]), (qb, AI cI 40 fb), (qc, AI cI 40 fc)] rfl (by decide) (by decide) [0, 1, 2] (by decide) (wf := (fun (u : Unit) => [(h, OB 3 [.ref qb, .ref qc, .int (nI n)]), (qb, AI cI 40 fb), (qc, AI cI 40 fc)])) (fun _ => rfl) (fun r_8 u h_9 => ?_)
        subst h_9
        refine x_lstore_n C [(3, .long (dgw (dgw (dgR fb fc (dgw d (nI n).toInt64) i) ((fb i).toInt64)) ((fc i).toInt64))), (0, .ref h), (5, .int (nI i))] dX3_digestFrom_47 rfl (by decide) rfl ?_
        refine xn_iinc C (i + 1) [(5, .int (nI (i + 1))), (3, .long (dgw (dgw (dgR fb fc (dgw d (nI n).toInt64) i) ((fb i).toInt64)) ((fc i).toInt64))), (0, .ref h)] dX3_digestFrom_48 2 rfl (by rw [show Int32.ofInt 1 = nI 1 from by decide +kernel]; exact nI_add _ _) (by decide) rfl ?_
        refine x_goto C 13 dX3_digestFrom_51 (by decide) ?_
        refine x_lv [(0, .ref h), (3, .long (dgR fb fc (dgw d (nI n).toInt64) (i + 1))), (5, .int (nI (i + 1)))] [2, 1, 0] (by rw [show dgR fb fc (dgw d (nI n).toInt64) (i + 1) = dgw (dgw (dgR fb fc (dgw d (nI n).toInt64) i) ((fb i).toInt64)) ((fc i).toInt64) from by rfl]; rfl) ?_
        exact ih_K_3 (i + 1) (by first | assumption | omega) (by omega)
  refine x_lv [(0, .ref h), (3, .long (dgR fb fc (dgw d (nI n).toInt64) 0)), (5, .int (nI 0))] [2, 1, 0] (by rw [show dgR fb fc (dgw d (nI n).toInt64) 0 = dgw d ((nI n).toInt64) from by rfl]; rfl) ?_
  exact K_3 (n - 0 + 1) 0 (by first | assumption | omega) (Nat.lt_succ_self _)
