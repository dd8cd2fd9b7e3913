/-! the law, its loop -/
set_option maxRecDepth 100000 in
set_option maxHeartbeats 8000000 in
theorem law_loop {p : Program} {l : Launch} {e : Env} {s : State} {m : MethodId} {bel : List Frame} {meth : Method} {c : Code} {D : va_G} {tys : List (ClassId × FieldType)} {cI cJ cA cW : ClassId} {b0 L9 : Nat} {xs : Nat → Int32} (hl0 : l.stackTraces = false) (hI : tys[0]? = some (cI, .int)) (hJ : tys[1]? = some (cJ, .long)) (hR : tys[2]? = some (cA, .array .int)) (hB : tys[3]? = some (cW, .array .long)) (C : CallFix p m c cL_law 9 s #[Value.ref b0] wsL_law RL) (hK : va_K D vwCl tys s) (hNW : NW s) (hZ : ZQ (fun q : Nat => s.heap.size ≤ q) s s.heap) (hNC : NC3 s) (hX : va_X b0 L9 xs s s.heap) (hbl : b0 < s.heap.size) (hL : L9 ≤ 1536) (hr : meth.sig.returnType = ret) (hlocks : meth.locks = false) {x qw wa wo qv pa po qt qd dr dk ds dt qc ce cf ql le lp yo yt ys yf g0 g1 yc k0 k1 yd out : Nat} : ∀ (fuel : Nat) (t9 : Nat) (thr : Int32) (ri : Int32) (nw : Nat) (bw : Nat → Int32) (cw : Nat → Int32) (np : Nat) (bp : Nat → Int32) (cp : Nat → Int32) (ti : Nat → Int32) (co : Nat) (dn : Nat) (fr : Nat → Int64) (fk : Nat → Int64) (fs : Nat → Int32) (ft : Nat → Int32) (ven : Int32) (vpn : Int32) (fe : Nat → Int64) (ff : Nat → Int32) (vle : Int32) (vlt : Int32) (fle : Nat → Int64) (flp : Nat → Int64) (fo : Nat → Int64), (nw ≤ 40) → (np ≤ 40) → (co ≤ 40) → (dn ≤ 40) → (ri = 0 ∨ ri = 1) → (oc8 nw bw) → (oc8 nw cw) → (oc8 np cp) → t9 ≤ 512 → 512 - t9 < fuel → X_ p l e room_1 s m #[Value.ref b0] bel meth c (lw_Z bel #[Value.ref b0] s) D (fun q : Nat => s.heap.size ≤ q) s.heap 9 (40 + 90 * t9) (1000 + 300 * t9) [(x, OB 4 [.ref qw, .ref qv, .ref qt, .int ri, .ref qd, .ref qc, .ref ql]), (qw, OB 3 [.ref wa, .ref wo, .int (nI nw)]), (wa, AI cI 40 bw), (wo, AI cI 40 cw), (qv, OB 3 [.ref pa, .ref po, .int (nI np)]), (pa, AI cI 40 bp), (po, AI cI 40 cp), (qt, AI cI 10 ti), (qd, OB 1 [.ref dr, .ref dk, .ref ds, .ref dt, .int (nI co), .int (nI dn)]), (dr, AJ cJ 40 fr), (dk, AJ cJ 40 fk), (ds, AI cI 40 fs), (dt, AI cI 40 ft), (qc, OB 0 [.ref ce, .ref cf, .int ven, .int vpn]), (ce, AJ cJ 40 fe), (cf, AI cI 41 ff), (ql, OB 2 [.ref le, .ref lp, .int vle, .int vlt]), (le, AJ cJ 80 fle), (lp, AJ cJ 80 flp), (yo, OB 5 [.int thr, .int ri, .ref yt, .ref ys, .ref yf, .ref yc, .int (nI co), .int (nI dn), .ref yd]), (yt, AI cI 10 ti), (ys, AI cI 2 (sz2 nw np)), (yf, AR cA 2 (gr2 g0 g1)), (g0, AI cI 40 bw), (g1, AI cI 40 bp), (yc, AR cA 2 (gr2 k0 k1)), (k0, AI cI 40 cw), (k1, AI cI 40 cp), (yd, AJ cJ 40 fr), (out, AJ cJ 1 fo)] [(0, .ref b0), (1, .ref x), (2, .ref yo), (3, .ref out), (4, .int (nI (3 * t9)))] 23 [] := by
  have hH0 : s.heap = s.heap := rfl
  have hA : ∀ q : Nat, s.heap.size ≤ q → (fun q : Nat => s.heap.size ≤ q) q := fun _ h => h
  have hbA : ¬ (fun q : Nat => s.heap.size ≤ q) b0 := Nat.not_le.mpr hbl
  intro fuel
  induction fuel with
  | zero =>
    intros
    exact absurd (by assumption) (Nat.not_lt_zero _)
  | succ fuel ih =>
    intro t9 thr ri nw bw cw np bp cp ti co dn fr fk fs ft ven vpn fe ff vle vlt fle flp fo hnw hnp hco hdn hri hbw hcw hcp h512 hm9
    refine x_iload C dL_law_23 4 rfl ?_
    refine x_aload_n C dL_law_25 rfl 0 rfl ?_
    refine x_slen C hX hbl hbA dL_law_26 ?_
    refine x_iconst C (nI 3) dL_law_27 (by decide +kernel) ?_
    refine x_isub C _ dL_law_28 rfl ?_
    refine x_icmp_gt C 1596 dL_law_29 (by decide) (fun h_1 => ?_) (fun h_1 => ?_)
    ·
      refine x_iconst C (nI 1) dL_law_1596 (by decide +kernel) ?_
      exact x_lwret C.1 C.2.1 hr hlocks (by omega) (by omega) dL_law_1597
    ·
      have ht9 : 3 * t9 + 3 ≤ L9 := Nat.le_of_not_lt (fun q9 => absurd ((len3 (a := 3 * t9) (n := L9) (by omega) (by omega)).mpr q9) (by first | exact h_1 | exact Int32.not_lt.mpr h_1))
      refine x_aload_n C dL_law_32 rfl 0 rfl ?_
      refine x_iload C dL_law_33 4 rfl ?_
      refine x_sld C hX hbl hbA (j := 3 * t9) (by omega) (by omega) dL_law_35 ?_
      refine x_bipush C (nI 31) dL_law_36 (by decide +kernel) ?_
      refine x_iand C _ dL_law_38 rfl ?_
      obtain ⟨j9, hj9, he9⟩ := and31 (xs (3 * t9))
      refine x_topi (nI j9) (by exact he9) ?_
      rcases (show j9 = 0 ∨ j9 = 1 ∨ j9 = 2 ∨ j9 = 3 ∨ j9 = 4 ∨ j9 = 5 ∨ j9 = 6 ∨ j9 = 7 ∨ j9 = 8 ∨ j9 = 9 ∨ j9 = 10 ∨ j9 = 11 ∨ j9 = 12 ∨ j9 = 13 ∨ j9 = 14 ∨ j9 = 15 ∨ j9 = 16 ∨ j9 = 17 ∨ j9 = 18 ∨ j9 = 19 ∨ j9 = 20 ∨ j9 = 21 ∨ j9 = 22 ∨ j9 = 23 ∨ j9 = 24 ∨ j9 = 25 ∨ j9 = 26 ∨ j9 = 27 ∨ j9 = 28 ∨ j9 = 29 ∨ j9 = 30 ∨ j9 = 31 by omega) with rfl | rfl | rfl | rfl | rfl | rfl | rfl | rfl | rfl | rfl | rfl | rfl | rfl | rfl | rfl | rfl | rfl | rfl | rfl | rfl | rfl | rfl | rfl | rfl | rfl | rfl | rfl | rfl | rfl | rfl | rfl | rfl
      ·
        refine x_tsw (off := 117) C 156 dL_law_39 (by decide +kernel) (by decide +kernel) (by decide +kernel) (by decide) ?_
        exact op_thread hl0 hI hJ hR hB C hK hNW hH0 hA hZ hNC hX hbl hbA hL thr ri nw bw cw np bp cp ti co dn fr fk fs ft ven vpn fe ff vle vlt fle flp fo hnw hnp hco hdn hri hbw hcw hcp t9 ht9 (fun thr ri nw bw cw np bp cp ti co dn fr fk fs ft ven vpn fe ff vle vlt fle flp fo hnw hnp hco hdn hri hbw hcw hcp => ih (t9 + 1) thr ri nw bw cw np bp cp ti co dn fr fk fs ft ven vpn fe ff vle vlt fle flp fo hnw hnp hco hdn hri hbw hcw hcp (by omega) (by omega))
      ·
        refine x_tsw (off := 185) C 224 dL_law_39 (by decide +kernel) (by decide +kernel) (by decide +kernel) (by decide) ?_
        exact op_tread hl0 hI hJ hR hB C hK hNW hH0 hA hZ hNC hX hbl hbA hL thr ri nw bw cw np bp cp ti co dn fr fk fs ft ven vpn fe ff vle vlt fle flp fo hnw hnp hco hdn hri hbw hcw hcp t9 ht9 (fun thr ri nw bw cw np bp cp ti co dn fr fk fs ft ven vpn fe ff vle vlt fle flp fo hnw hnp hco hdn hri hbw hcw hcp => ih (t9 + 1) thr ri nw bw cw np bp cp ti co dn fr fk fs ft ven vpn fe ff vle vlt fle flp fo hnw hnp hco hdn hri hbw hcw hcp (by omega) (by omega))
      ·
        refine x_tsw (off := 253) C 292 dL_law_39 (by decide +kernel) (by decide +kernel) (by decide +kernel) (by decide) ?_
        exact op_tie hl0 hI hJ hR hB C hK hNW hH0 hA hZ hNC hX hbl hbA hL thr ri nw bw cw np bp cp ti co dn fr fk fs ft ven vpn fe ff vle vlt fle flp fo hnw hnp hco hdn hri hbw hcw hcp t9 ht9 (fun thr ri nw bw cw np bp cp ti co dn fr fk fs ft ven vpn fe ff vle vlt fle flp fo hnw hnp hco hdn hri hbw hcw hcp => ih (t9 + 1) thr ri nw bw cw np bp cp ti co dn fr fk fs ft ven vpn fe ff vle vlt fle flp fo hnw hnp hco hdn hri hbw hcw hcp (by omega) (by omega))
      ·
        refine x_tsw (off := 321) C 360 dL_law_39 (by decide +kernel) (by decide +kernel) (by decide +kernel) (by decide) ?_
        exact op_setRising hl0 hI hJ hR hB C hK hNW hH0 hA hZ hNC hX hbl hbA hL thr ri nw bw cw np bp cp ti co dn fr fk fs ft ven vpn fe ff vle vlt fle flp fo hnw hnp hco hdn hri hbw hcw hcp t9 ht9 (fun thr ri nw bw cw np bp cp ti co dn fr fk fs ft ven vpn fe ff vle vlt fle flp fo hnw hnp hco hdn hri hbw hcw hcp => ih (t9 + 1) thr ri nw bw cw np bp cp ti co dn fr fk fs ft ven vpn fe ff vle vlt fle flp fo hnw hnp hco hdn hri hbw hcw hcp (by omega) (by omega))
      ·
        refine x_tsw (off := 362) C 401 dL_law_39 (by decide +kernel) (by decide +kernel) (by decide +kernel) (by decide) ?_
        exact op_count hl0 hI hJ hR hB C hK hNW hH0 hA hZ hNC hX hbl hbA hL thr ri nw bw cw np bp cp ti co dn fr fk fs ft ven vpn fe ff vle vlt fle flp fo hnw hnp hco hdn hri hbw hcw hcp t9 ht9 (fun thr ri nw bw cw np bp cp ti co dn fr fk fs ft ven vpn fe ff vle vlt fle flp fo hnw hnp hco hdn hri hbw hcw hcp => ih (t9 + 1) thr ri nw bw cw np bp cp ti co dn fr fk fs ft ven vpn fe ff vle vlt fle flp fo hnw hnp hco hdn hri hbw hcw hcp (by omega) (by omega))
      ·
        refine x_tsw (off := 403) C 442 dL_law_39 (by decide +kernel) (by decide +kernel) (by decide +kernel) (by decide) ?_
        exact op_end hl0 hI hJ hR hB C hK hNW hH0 hA hZ hNC hX hbl hbA hL thr ri nw bw cw np bp cp ti co dn fr fk fs ft ven vpn fe ff vle vlt fle flp fo hnw hnp hco hdn hri hbw hcw hcp t9 ht9 (fun thr ri nw bw cw np bp cp ti co dn fr fk fs ft ven vpn fe ff vle vlt fle flp fo hnw hnp hco hdn hri hbw hcw hcp => ih (t9 + 1) thr ri nw bw cw np bp cp ti co dn fr fk fs ft ven vpn fe ff vle vlt fle flp fo hnw hnp hco hdn hri hbw hcw hcp (by omega) (by omega))
      ·
        refine x_tsw (off := 471) C 510 dL_law_39 (by decide +kernel) (by decide +kernel) (by decide +kernel) (by decide) ?_
        exact op_pick hl0 hI hJ hR hB C hK hNW hH0 hA hZ hNC hX hbl hbA hL thr ri nw bw cw np bp cp ti co dn fr fk fs ft ven vpn fe ff vle vlt fle flp fo hnw hnp hco hdn hri hbw hcw hcp t9 ht9 (fun thr ri nw bw cw np bp cp ti co dn fr fk fs ft ven vpn fe ff vle vlt fle flp fo hnw hnp hco hdn hri hbw hcw hcp => ih (t9 + 1) thr ri nw bw cw np bp cp ti co dn fr fk fs ft ven vpn fe ff vle vlt fle flp fo hnw hnp hco hdn hri hbw hcw hcp (by omega) (by omega))
      ·
        refine x_tsw (off := 539) C 578 dL_law_39 (by decide +kernel) (by decide +kernel) (by decide +kernel) (by decide) ?_
        exact op_reverse hl0 hI hJ hR hB C hK hNW hH0 hA hZ hNC hX hbl hbA hL thr ri nw bw cw np bp cp ti co dn fr fk fs ft ven vpn fe ff vle vlt fle flp fo hnw hnp hco hdn hri hbw hcw hcp t9 ht9 (fun thr ri nw bw cw np bp cp ti co dn fr fk fs ft ven vpn fe ff vle vlt fle flp fo hnw hnp hco hdn hri hbw hcw hcp => ih (t9 + 1) thr ri nw bw cw np bp cp ti co dn fr fk fs ft ven vpn fe ff vle vlt fle flp fo hnw hnp hco hdn hri hbw hcw hcp (by omega) (by omega))
      ·
        refine x_tsw (off := 580) C 619 dL_law_39 (by decide +kernel) (by decide +kernel) (by decide +kernel) (by decide) ?_
        exact op_rotate hl0 hI hJ hR hB C hK hNW hH0 hA hZ hNC hX hbl hbA hL thr ri nw bw cw np bp cp ti co dn fr fk fs ft ven vpn fe ff vle vlt fle flp fo hnw hnp hco hdn hri hbw hcw hcp t9 ht9 (fun thr ri nw bw cw np bp cp ti co dn fr fk fs ft ven vpn fe ff vle vlt fle flp fo hnw hnp hco hdn hri hbw hcw hcp => ih (t9 + 1) thr ri nw bw cw np bp cp ti co dn fr fk fs ft ven vpn fe ff vle vlt fle flp fo hnw hnp hco hdn hri hbw hcw hcp (by omega) (by omega))
      ·
        refine x_tsw (off := 664) C 703 dL_law_39 (by decide +kernel) (by decide +kernel) (by decide +kernel) (by decide) ?_
        exact op_repeat hl0 hI hJ hR hB C hK hNW hH0 hA hZ hNC hX hbl hbA hL thr ri nw bw cw np bp cp ti co dn fr fk fs ft ven vpn fe ff vle vlt fle flp fo hnw hnp hco hdn hri hbw hcw hcp t9 ht9 (fun thr ri nw bw cw np bp cp ti co dn fr fk fs ft ven vpn fe ff vle vlt fle flp fo hnw hnp hco hdn hri hbw hcw hcp => ih (t9 + 1) thr ri nw bw cw np bp cp ti co dn fr fk fs ft ven vpn fe ff vle vlt fle flp fo hnw hnp hco hdn hri hbw hcw hcp (by omega) (by omega))
      ·
        refine x_tsw (off := 736) C 775 dL_law_39 (by decide +kernel) (by decide +kernel) (by decide +kernel) (by decide) ?_
        exact op_cut hl0 hI hJ hR hB C hK hNW hH0 hA hZ hNC hX hbl hbA hL thr ri nw bw cw np bp cp ti co dn fr fk fs ft ven vpn fe ff vle vlt fle flp fo hnw hnp hco hdn hri hbw hcw hcp t9 ht9 (fun thr ri nw bw cw np bp cp ti co dn fr fk fs ft ven vpn fe ff vle vlt fle flp fo hnw hnp hco hdn hri hbw hcw hcp => ih (t9 + 1) thr ri nw bw cw np bp cp ti co dn fr fk fs ft ven vpn fe ff vle vlt fle flp fo hnw hnp hco hdn hri hbw hcw hcp (by omega) (by omega))
      ·
        refine x_tsw (off := 820) C 859 dL_law_39 (by decide +kernel) (by decide +kernel) (by decide +kernel) (by decide) ?_
        exact op_onTop hl0 hI hJ hR hB C hK hNW hH0 hA hZ hNC hX hbl hbA hL thr ri nw bw cw np bp cp ti co dn fr fk fs ft ven vpn fe ff vle vlt fle flp fo hnw hnp hco hdn hri hbw hcw hcp t9 ht9 (fun thr ri nw bw cw np bp cp ti co dn fr fk fs ft ven vpn fe ff vle vlt fle flp fo hnw hnp hco hdn hri hbw hcw hcp => ih (t9 + 1) thr ri nw bw cw np bp cp ti co dn fr fk fs ft ven vpn fe ff vle vlt fle flp fo hnw hnp hco hdn hri hbw hcw hcp (by omega) (by omega))
      ·
        refine x_tsw (off := 895) C 934 dL_law_39 (by decide +kernel) (by decide +kernel) (by decide +kernel) (by decide) ?_
        exact op_colour hl0 hI hJ hR hB C hK hNW hH0 hA hZ hNC hX hbl hbA hL thr ri nw bw cw np bp cp ti co dn fr fk fs ft ven vpn fe ff vle vlt fle flp fo hnw hnp hco hdn hri hbw hcw hcp t9 ht9 (fun thr ri nw bw cw np bp cp ti co dn fr fk fs ft ven vpn fe ff vle vlt fle flp fo hnw hnp hco hdn hri hbw hcw hcp => ih (t9 + 1) thr ri nw bw cw np bp cp ti co dn fr fk fs ft ven vpn fe ff vle vlt fle flp fo hnw hnp hco hdn hri hbw hcw hcp (by omega) (by omega))
      ·
        refine x_tsw (off := 963) C 1002 dL_law_39 (by decide +kernel) (by decide +kernel) (by decide +kernel) (by decide) ?_
        exact op_longest hl0 hI hJ hR hB C hK hNW hH0 hA hZ hNC hX hbl hbA hL thr ri nw bw cw np bp cp ti co dn fr fk fs ft ven vpn fe ff vle vlt fle flp fo hnw hnp hco hdn hri hbw hcw hcp t9 ht9 (fun thr ri nw bw cw np bp cp ti co dn fr fk fs ft ven vpn fe ff vle vlt fle flp fo hnw hnp hco hdn hri hbw hcw hcp => ih (t9 + 1) thr ri nw bw cw np bp cp ti co dn fr fk fs ft ven vpn fe ff vle vlt fle flp fo hnw hnp hco hdn hri hbw hcw hcp (by omega) (by omega))
      ·
        refine x_tsw (off := 1032) C 1071 dL_law_39 (by decide +kernel) (by decide +kernel) (by decide +kernel) (by decide) ?_
        exact op_floats hl0 hI hJ hR hB C hK hNW hH0 hA hZ hNC hX hbl hbA hL thr ri nw bw cw np bp cp ti co dn fr fk fs ft ven vpn fe ff vle vlt fle flp fo hnw hnp hco hdn hri hbw hcw hcp t9 ht9 (fun thr ri nw bw cw np bp cp ti co dn fr fk fs ft ven vpn fe ff vle vlt fle flp fo hnw hnp hco hdn hri hbw hcw hcp => ih (t9 + 1) thr ri nw bw cw np bp cp ti co dn fr fk fs ft ven vpn fe ff vle vlt fle flp fo hnw hnp hco hdn hri hbw hcw hcp (by omega) (by omega))
      ·
        refine x_tsw (off := 1116) C 1155 dL_law_39 (by decide +kernel) (by decide +kernel) (by decide +kernel) (by decide) ?_
        exact op_share hl0 hI hJ hR hB C hK hNW hH0 hA hZ hNC hX hbl hbA hL thr ri nw bw cw np bp cp ti co dn fr fk fs ft ven vpn fe ff vle vlt fle flp fo hnw hnp hco hdn hri hbw hcw hcp t9 ht9 (fun thr ri nw bw cw np bp cp ti co dn fr fk fs ft ven vpn fe ff vle vlt fle flp fo hnw hnp hco hdn hri hbw hcw hcp => ih (t9 + 1) thr ri nw bw cw np bp cp ti co dn fr fk fs ft ven vpn fe ff vle vlt fle flp fo hnw hnp hco hdn hri hbw hcw hcp (by omega) (by omega))
      ·
        refine x_tsw (off := 1157) C 1196 dL_law_39 (by decide +kernel) (by decide +kernel) (by decide +kernel) (by decide) ?_
        exact op_period hl0 hI hJ hR hB C hK hNW hH0 hA hZ hNC hX hbl hbA hL thr ri nw bw cw np bp cp ti co dn fr fk fs ft ven vpn fe ff vle vlt fle flp fo hnw hnp hco hdn hri hbw hcw hcp t9 ht9 (fun thr ri nw bw cw np bp cp ti co dn fr fk fs ft ven vpn fe ff vle vlt fle flp fo hnw hnp hco hdn hri hbw hcw hcp => ih (t9 + 1) thr ri nw bw cw np bp cp ti co dn fr fk fs ft ven vpn fe ff vle vlt fle flp fo hnw hnp hco hdn hri hbw hcw hcp (by omega) (by omega))
      ·
        refine x_tsw (off := 1198) C 1237 dL_law_39 (by decide +kernel) (by decide +kernel) (by decide +kernel) (by decide) ?_
        exact op_layers hl0 hI hJ hR hB C hK hNW hH0 hA hZ hNC hX hbl hbA hL thr ri nw bw cw np bp cp ti co dn fr fk fs ft ven vpn fe ff vle vlt fle flp fo hnw hnp hco hdn hri hbw hcw hcp t9 ht9 (fun thr ri nw bw cw np bp cp ti co dn fr fk fs ft ven vpn fe ff vle vlt fle flp fo hnw hnp hco hdn hri hbw hcw hcp => ih (t9 + 1) thr ri nw bw cw np bp cp ti co dn fr fk fs ft ven vpn fe ff vle vlt fle flp fo hnw hnp hco hdn hri hbw hcw hcp (by omega) (by omega))
      ·
        refine x_tsw (off := 1211) C 1250 dL_law_39 (by decide +kernel) (by decide +kernel) (by decide +kernel) (by decide) ?_
        exact op_hangs hl0 hI hJ hR hB C hK hNW hH0 hA hZ hNC hX hbl hbA hL thr ri nw bw cw np bp cp ti co dn fr fk fs ft ven vpn fe ff vle vlt fle flp fo hnw hnp hco hdn hri hbw hcw hcp t9 ht9 (fun thr ri nw bw cw np bp cp ti co dn fr fk fs ft ven vpn fe ff vle vlt fle flp fo hnw hnp hco hdn hri hbw hcw hcp => ih (t9 + 1) thr ri nw bw cw np bp cp ti co dn fr fk fs ft ven vpn fe ff vle vlt fle flp fo hnw hnp hco hdn hri hbw hcw hcp (by omega) (by omega))
      ·
        refine x_tsw (off := 1224) C 1263 dL_law_39 (by decide +kernel) (by decide +kernel) (by decide +kernel) (by decide) ?_
        exact op_colourAt hl0 hI hJ hR hB C hK hNW hH0 hA hZ hNC hX hbl hbA hL thr ri nw bw cw np bp cp ti co dn fr fk fs ft ven vpn fe ff vle vlt fle flp fo hnw hnp hco hdn hri hbw hcw hcp t9 ht9 (fun thr ri nw bw cw np bp cp ti co dn fr fk fs ft ven vpn fe ff vle vlt fle flp fo hnw hnp hco hdn hri hbw hcw hcp => ih (t9 + 1) thr ri nw bw cw np bp cp ti co dn fr fk fs ft ven vpn fe ff vle vlt fle flp fo hnw hnp hco hdn hri hbw hcw hcp (by omega) (by omega))
      ·
        refine x_tsw (off := 1280) C 1319 dL_law_39 (by decide +kernel) (by decide +kernel) (by decide +kernel) (by decide) ?_
        exact op_threadsOf hl0 hI hJ hR hB C hK hNW hH0 hA hZ hNC hX hbl hbA hL thr ri nw bw cw np bp cp ti co dn fr fk fs ft ven vpn fe ff vle vlt fle flp fo hnw hnp hco hdn hri hbw hcw hcp t9 ht9 (fun thr ri nw bw cw np bp cp ti co dn fr fk fs ft ven vpn fe ff vle vlt fle flp fo hnw hnp hco hdn hri hbw hcw hcp => ih (t9 + 1) thr ri nw bw cw np bp cp ti co dn fr fk fs ft ven vpn fe ff vle vlt fle flp fo hnw hnp hco hdn hri hbw hcw hcp (by omega) (by omega))
      ·
        refine x_tsw (off := 1336) C 1375 dL_law_39 (by decide +kernel) (by decide +kernel) (by decide +kernel) (by decide) ?_
        exact op_draw hl0 hI hJ hR hB C hK hNW hH0 hA hZ hNC hX hbl hbA hL thr ri nw bw cw np bp cp ti co dn fr fk fs ft ven vpn fe ff vle vlt fle flp fo hnw hnp hco hdn hri hbw hcw hcp t9 ht9 (fun thr ri nw bw cw np bp cp ti co dn fr fk fs ft ven vpn fe ff vle vlt fle flp fo hnw hnp hco hdn hri hbw hcw hcp => ih (t9 + 1) thr ri nw bw cw np bp cp ti co dn fr fk fs ft ven vpn fe ff vle vlt fle flp fo hnw hnp hco hdn hri hbw hcw hcp (by omega) (by omega))
      ·
        refine x_tsw (off := 1392) C 1431 dL_law_39 (by decide +kernel) (by decide +kernel) (by decide +kernel) (by decide) ?_
        exact op_row hl0 hI hJ hR hB C hK hNW hH0 hA hZ hNC hX hbl hbA hL thr ri nw bw cw np bp cp ti co dn fr fk fs ft ven vpn fe ff vle vlt fle flp fo hnw hnp hco hdn hri hbw hcw hcp t9 ht9 (fun thr ri nw bw cw np bp cp ti co dn fr fk fs ft ven vpn fe ff vle vlt fle flp fo hnw hnp hco hdn hri hbw hcw hcp => ih (t9 + 1) thr ri nw bw cw np bp cp ti co dn fr fk fs ft ven vpn fe ff vle vlt fle flp fo hnw hnp hco hdn hri hbw hcw hcp (by omega) (by omega))
      ·
        refine x_tsw (off := 1480) C 1519 dL_law_39 (by decide +kernel) (by decide +kernel) (by decide +kernel) (by decide) ?_
        exact op_fit hl0 hI hJ hR hB C hK hNW hH0 hA hZ hNC hX hbl hbA hL thr ri nw bw cw np bp cp ti co dn fr fk fs ft ven vpn fe ff vle vlt fle flp fo hnw hnp hco hdn hri hbw hcw hcp t9 ht9 (fun thr ri nw bw cw np bp cp ti co dn fr fk fs ft ven vpn fe ff vle vlt fle flp fo hnw hnp hco hdn hri hbw hcw hcp => ih (t9 + 1) thr ri nw bw cw np bp cp ti co dn fr fk fs ft ven vpn fe ff vle vlt fle flp fo hnw hnp hco hdn hri hbw hcw hcp (by omega) (by omega))
      ·
        refine x_tsw (off := 1524) C 1563 dL_law_39 (by decide +kernel) (by decide +kernel) (by decide +kernel) (by decide) ?_
        exact op_diff hl0 hI hJ hR hB C hK hNW hH0 hA hZ hNC hX hbl hbA hL thr ri nw bw cw np bp cp ti co dn fr fk fs ft ven vpn fe ff vle vlt fle flp fo hnw hnp hco hdn hri hbw hcw hcp t9 ht9 (fun thr ri nw bw cw np bp cp ti co dn fr fk fs ft ven vpn fe ff vle vlt fle flp fo hnw hnp hco hdn hri hbw hcw hcp => ih (t9 + 1) thr ri nw bw cw np bp cp ti co dn fr fk fs ft ven vpn fe ff vle vlt fle flp fo hnw hnp hco hdn hri hbw hcw hcp (by omega) (by omega))
      ·
        refine x_tsw (off := 1537) C 1576 dL_law_39 (by decide +kernel) (by decide +kernel) (by decide +kernel) (by decide) ?_
        exact op_digest hl0 hI hJ hR hB C hK hNW hH0 hA hZ hNC hX hbl hbA hL thr ri nw bw cw np bp cp ti co dn fr fk fs ft ven vpn fe ff vle vlt fle flp fo hnw hnp hco hdn hri hbw hcw hcp t9 ht9 (fun thr ri nw bw cw np bp cp ti co dn fr fk fs ft ven vpn fe ff vle vlt fle flp fo hnw hnp hco hdn hri hbw hcw hcp => ih (t9 + 1) thr ri nw bw cw np bp cp ti co dn fr fk fs ft ven vpn fe ff vle vlt fle flp fo hnw hnp hco hdn hri hbw hcw hcp (by omega) (by omega))
      ·
        refine x_tswO C 1590 dL_law_39 (Or.inr (by decide +kernel)) (by decide) ?_
        refine xn_iinc C ((3 * t9) + 3) [(4, .int (nI ((3 * t9) + 3))), (0, .ref b0), (1, .ref x), (2, .ref yo), (3, .ref out)] dL_law_1590 4 rfl (by rw [show Int32.ofInt 3 = nI 3 from by decide +kernel]; exact nI_add _ _) (by decide) rfl ?_
        refine x_goto C 23 dL_law_1593 (by decide) ?_
        refine x_lv [(0, .ref b0), (1, .ref x), (2, .ref yo), (3, .ref out), (4, .int (nI (3 * (t9 + 1))))] [1, 2, 3, 4, 0] (by rw [show 3 * (t9 + 1) = (3 * t9) + 3 from by first | rfl | omega]; rfl) ?_
        refine x_widen (40 + 90 * (t9 + 1)) (1000 + 300 * (t9 + 1)) (by first | decide | omega) (by first | decide | omega) ?_
        exact ih (t9 + 1) thr ri nw bw cw np bp cp ti co dn fr fk fs ft ven vpn fe ff vle vlt fle flp fo (by first | assumption | omega) (by first | assumption | omega) (by first | assumption | omega) (by first | assumption | omega) (by first | assumption | omega) (by assumption) (by assumption) (by assumption) (by omega) (by omega)
      ·
        refine x_tswO C 1590 dL_law_39 (Or.inr (by decide +kernel)) (by decide) ?_
        refine xn_iinc C ((3 * t9) + 3) [(4, .int (nI ((3 * t9) + 3))), (0, .ref b0), (1, .ref x), (2, .ref yo), (3, .ref out)] dL_law_1590 4 rfl (by rw [show Int32.ofInt 3 = nI 3 from by decide +kernel]; exact nI_add _ _) (by decide) rfl ?_
        refine x_goto C 23 dL_law_1593 (by decide) ?_
        refine x_lv [(0, .ref b0), (1, .ref x), (2, .ref yo), (3, .ref out), (4, .int (nI (3 * (t9 + 1))))] [1, 2, 3, 4, 0] (by rw [show 3 * (t9 + 1) = (3 * t9) + 3 from by first | rfl | omega]; rfl) ?_
        refine x_widen (40 + 90 * (t9 + 1)) (1000 + 300 * (t9 + 1)) (by first | decide | omega) (by first | decide | omega) ?_
        exact ih (t9 + 1) thr ri nw bw cw np bp cp ti co dn fr fk fs ft ven vpn fe ff vle vlt fle flp fo (by first | assumption | omega) (by first | assumption | omega) (by first | assumption | omega) (by first | assumption | omega) (by first | assumption | omega) (by assumption) (by assumption) (by assumption) (by omega) (by omega)
      ·
        refine x_tswO C 1590 dL_law_39 (Or.inr (by decide +kernel)) (by decide) ?_
        refine xn_iinc C ((3 * t9) + 3) [(4, .int (nI ((3 * t9) + 3))), (0, .ref b0), (1, .ref x), (2, .ref yo), (3, .ref out)] dL_law_1590 4 rfl (by rw [show Int32.ofInt 3 = nI 3 from by decide +kernel]; exact nI_add _ _) (by decide) rfl ?_
        refine x_goto C 23 dL_law_1593 (by decide) ?_
        refine x_lv [(0, .ref b0), (1, .ref x), (2, .ref yo), (3, .ref out), (4, .int (nI (3 * (t9 + 1))))] [1, 2, 3, 4, 0] (by rw [show 3 * (t9 + 1) = (3 * t9) + 3 from by first | rfl | omega]; rfl) ?_
        refine x_widen (40 + 90 * (t9 + 1)) (1000 + 300 * (t9 + 1)) (by first | decide | omega) (by first | decide | omega) ?_
        exact ih (t9 + 1) thr ri nw bw cw np bp cp ti co dn fr fk fs ft ven vpn fe ff vle vlt fle flp fo (by first | assumption | omega) (by first | assumption | omega) (by first | assumption | omega) (by first | assumption | omega) (by first | assumption | omega) (by assumption) (by assumption) (by assumption) (by omega) (by omega)
      ·
        refine x_tswO C 1590 dL_law_39 (Or.inr (by decide +kernel)) (by decide) ?_
        refine xn_iinc C ((3 * t9) + 3) [(4, .int (nI ((3 * t9) + 3))), (0, .ref b0), (1, .ref x), (2, .ref yo), (3, .ref out)] dL_law_1590 4 rfl (by rw [show Int32.ofInt 3 = nI 3 from by decide +kernel]; exact nI_add _ _) (by decide) rfl ?_
        refine x_goto C 23 dL_law_1593 (by decide) ?_
        refine x_lv [(0, .ref b0), (1, .ref x), (2, .ref yo), (3, .ref out), (4, .int (nI (3 * (t9 + 1))))] [1, 2, 3, 4, 0] (by rw [show 3 * (t9 + 1) = (3 * t9) + 3 from by first | rfl | omega]; rfl) ?_
        refine x_widen (40 + 90 * (t9 + 1)) (1000 + 300 * (t9 + 1)) (by first | decide | omega) (by first | decide | omega) ?_
        exact ih (t9 + 1) thr ri nw bw cw np bp cp ti co dn fr fk fs ft ven vpn fe ff vle vlt fle flp fo (by first | assumption | omega) (by first | assumption | omega) (by first | assumption | omega) (by first | assumption | omega) (by first | assumption | omega) (by assumption) (by assumption) (by assumption) (by omega) (by omega)
      ·
        refine x_tswO C 1590 dL_law_39 (Or.inr (by decide +kernel)) (by decide) ?_
        refine xn_iinc C ((3 * t9) + 3) [(4, .int (nI ((3 * t9) + 3))), (0, .ref b0), (1, .ref x), (2, .ref yo), (3, .ref out)] dL_law_1590 4 rfl (by rw [show Int32.ofInt 3 = nI 3 from by decide +kernel]; exact nI_add _ _) (by decide) rfl ?_
        refine x_goto C 23 dL_law_1593 (by decide) ?_
        refine x_lv [(0, .ref b0), (1, .ref x), (2, .ref yo), (3, .ref out), (4, .int (nI (3 * (t9 + 1))))] [1, 2, 3, 4, 0] (by rw [show 3 * (t9 + 1) = (3 * t9) + 3 from by first | rfl | omega]; rfl) ?_
        refine x_widen (40 + 90 * (t9 + 1)) (1000 + 300 * (t9 + 1)) (by first | decide | omega) (by first | decide | omega) ?_
        exact ih (t9 + 1) thr ri nw bw cw np bp cp ti co dn fr fk fs ft ven vpn fe ff vle vlt fle flp fo (by first | assumption | omega) (by first | assumption | omega) (by first | assumption | omega) (by first | assumption | omega) (by first | assumption | omega) (by assumption) (by assumption) (by assumption) (by omega) (by omega)
      ·
        refine x_tswO C 1590 dL_law_39 (Or.inr (by decide +kernel)) (by decide) ?_
        refine xn_iinc C ((3 * t9) + 3) [(4, .int (nI ((3 * t9) + 3))), (0, .ref b0), (1, .ref x), (2, .ref yo), (3, .ref out)] dL_law_1590 4 rfl (by rw [show Int32.ofInt 3 = nI 3 from by decide +kernel]; exact nI_add _ _) (by decide) rfl ?_
        refine x_goto C 23 dL_law_1593 (by decide) ?_
        refine x_lv [(0, .ref b0), (1, .ref x), (2, .ref yo), (3, .ref out), (4, .int (nI (3 * (t9 + 1))))] [1, 2, 3, 4, 0] (by rw [show 3 * (t9 + 1) = (3 * t9) + 3 from by first | rfl | omega]; rfl) ?_
        refine x_widen (40 + 90 * (t9 + 1)) (1000 + 300 * (t9 + 1)) (by first | decide | omega) (by first | decide | omega) ?_
        exact ih (t9 + 1) thr ri nw bw cw np bp cp ti co dn fr fk fs ft ven vpn fe ff vle vlt fle flp fo (by first | assumption | omega) (by first | assumption | omega) (by first | assumption | omega) (by first | assumption | omega) (by first | assumption | omega) (by assumption) (by assumption) (by assumption) (by omega) (by omega)
