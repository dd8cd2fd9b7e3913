/-! the law, call by call -/
set_option maxRecDepth 100000 in
set_option maxHeartbeats 8000000 in
theorem op_reverse {p : Program} {l : Launch} {e : Env} {s : State} {m : MethodId} {args : Array Value} {bel : List Frame} {meth : Method} {c : Code} {Q : State → Prop} {D : va_G} {A : Nat → Prop} {H0 : Heap} {tys : List (ClassId × FieldType)} {cI cJ cA cW : ClassId} {b0 L9 : Nat} {xs : Nat → Int32} (hl0 : l.stackTraces = false) (hI : tys[0]? = some (cI, .int)) (hJ : tys[1]? = some (cJ, .long)) (hR : tys[2]? = some (cA, .array .int)) (hB : tys[3]? = some (cW, .array .long)) (C : CallFix p m c cL_law 9 s args wsL_law RL) (hK : va_K D vwCl tys s) (hNW : NW s) (hH0 : H0 = s.heap) (hA : ∀ q, H0.size ≤ q → A q) (hZ : ZQ A s s.heap) (hNC : NC3 s) (hX : va_X b0 L9 xs s H0) (hbl : b0 < H0.size) (hbA : ¬ A b0) (hL : L9 ≤ 1536) {x qw wa wo qv pa po qt qd dr dk ds dt qc ce cf ql le lp yo yt ys yf g0 g1 yc k0 k1 yd out : Nat} (thr : Int32) (ri : Int32) (nw : Nat) (bw : Nat → Int32) (cw : Nat → Int32) (np : Nat) (bp : Nat → Int32) (cp : Nat → Int32) (ti : Nat → Int32) (co : Nat) (dn : Nat) (fr : Nat → Int64) (fk : Nat → Int64) (fs : Nat → Int32) (ft : Nat → Int32) (ven : Int32) (vpn : Int32) (fe : Nat → Int64) (ff : Nat → Int32) (vle : Int32) (vlt : Int32) (fle : Nat → Int64) (flp : Nat → Int64) (fo : Nat → Int64) (hnw : nw ≤ 40) (hnp : np ≤ 40) (hco : co ≤ 40) (hdn : dn ≤ 40) (hri : ri = 0 ∨ ri = 1) (hbw : oc8 nw bw) (hcw : oc8 nw cw) (hcp : oc8 np cp) (t9 : Nat) (ht9 : 3 * t9 + 3 ≤ L9) (IH : ∀ (thr : Int32) (ri : Int32) (nw : Nat) (bw : Nat → Int32) (cw : Nat → Int32) (np : Nat) (bp : Nat → Int32) (cp : Nat → Int32) (ti : Nat → Int32) (co : Nat) (dn : Nat) (fr : Nat → Int64) (fk : Nat → Int64) (fs : Nat → Int32) (ft : Nat → Int32) (ven : Int32) (vpn : Int32) (fe : Nat → Int64) (ff : Nat → Int32) (vle : Int32) (vlt : Int32) (fle : Nat → Int64) (flp : Nat → Int64) (fo : Nat → Int64), (nw ≤ 40) → (np ≤ 40) → (co ≤ 40) → (dn ≤ 40) → (ri = 0 ∨ ri = 1) → (oc8 nw bw) → (oc8 nw cw) → (oc8 np cp) → X_ p l e room_1 s m args bel meth c Q D A H0 9 (40 + 90 * (t9 + 1)) (1000 + 300 * (t9 + 1)) [(x, OB 4 [.ref qw, .ref qv, .ref qt, .int ri, .ref qd, .ref qc, .ref ql]), (qw, OB 3 [.ref wa, .ref wo, .int (nI nw)]), (wa, AI cI 40 bw), (wo, AI cI 40 cw), (qv, OB 3 [.ref pa, .ref po, .int (nI np)]), (pa, AI cI 40 bp), (po, AI cI 40 cp), (qt, AI cI 10 ti), (qd, OB 1 [.ref dr, .ref dk, .ref ds, .ref dt, .int (nI co), .int (nI dn)]), (dr, AJ cJ 40 fr), (dk, AJ cJ 40 fk), (ds, AI cI 40 fs), (dt, AI cI 40 ft), (qc, OB 0 [.ref ce, .ref cf, .int ven, .int vpn]), (ce, AJ cJ 40 fe), (cf, AI cI 41 ff), (ql, OB 2 [.ref le, .ref lp, .int vle, .int vlt]), (le, AJ cJ 80 fle), (lp, AJ cJ 80 flp), (yo, OB 5 [.int thr, .int ri, .ref yt, .ref ys, .ref yf, .ref yc, .int (nI co), .int (nI dn), .ref yd]), (yt, AI cI 10 ti), (ys, AI cI 2 (sz2 nw np)), (yf, AR cA 2 (gr2 g0 g1)), (g0, AI cI 40 bw), (g1, AI cI 40 bp), (yc, AR cA 2 (gr2 k0 k1)), (k0, AI cI 40 cw), (k1, AI cI 40 cp), (yd, AJ cJ 40 fr), (out, AJ cJ 1 fo)] [(0, .ref b0), (1, .ref x), (2, .ref yo), (3, .ref out), (4, .int (nI (3 * (t9 + 1))))] 23 []) : X_ p l e room_1 s m args bel meth c Q D A H0 9 (40 + 90 * t9) (1000 + 300 * t9) [(x, OB 4 [.ref qw, .ref qv, .ref qt, .int ri, .ref qd, .ref qc, .ref ql]), (qw, OB 3 [.ref wa, .ref wo, .int (nI nw)]), (wa, AI cI 40 bw), (wo, AI cI 40 cw), (qv, OB 3 [.ref pa, .ref po, .int (nI np)]), (pa, AI cI 40 bp), (po, AI cI 40 cp), (qt, AI cI 10 ti), (qd, OB 1 [.ref dr, .ref dk, .ref ds, .ref dt, .int (nI co), .int (nI dn)]), (dr, AJ cJ 40 fr), (dk, AJ cJ 40 fk), (ds, AI cI 40 fs), (dt, AI cI 40 ft), (qc, OB 0 [.ref ce, .ref cf, .int ven, .int vpn]), (ce, AJ cJ 40 fe), (cf, AI cI 41 ff), (ql, OB 2 [.ref le, .ref lp, .int vle, .int vlt]), (le, AJ cJ 80 fle), (lp, AJ cJ 80 flp), (yo, OB 5 [.int thr, .int ri, .ref yt, .ref ys, .ref yf, .ref yc, .int (nI co), .int (nI dn), .ref yd]), (yt, AI cI 10 ti), (ys, AI cI 2 (sz2 nw np)), (yf, AR cA 2 (gr2 g0 g1)), (g0, AI cI 40 bw), (g1, AI cI 40 bp), (yc, AR cA 2 (gr2 k0 k1)), (k0, AI cI 40 cw), (k1, AI cI 40 cp), (yd, AJ cJ 40 fr), (out, AJ cJ 1 fo)] [(0, .ref b0), (1, .ref x), (2, .ref yo), (3, .ref out), (4, .int (nI (3 * t9)))] 578 [] := by
  by_cases hb : xs (3 * t9 + 1) = 0
  ·
    rcases Nat.eq_zero_or_pos np with hz | hz
    ·
      subst hz
      refine x_aload_n C dL_law_578 rfl 1 rfl ?_
      refine x_aload_n C dL_law_579 rfl 0 rfl ?_
      refine x_iload C dL_law_580 4 rfl ?_
      refine x_iconst C (nI 1) dL_law_582 (by decide +kernel) ?_
      refine xn_iadd C dL_law_583 ?_
      refine x_sld C hX hbl hbA (j := 3 * t9 + 1) (by omega) (by omega) dL_law_584 ?_
      refine x_if_eq C 592 dL_law_585 (by decide) (fun h_1 => ?_) (fun h_1 => ?_)
      ·
        refine x_iconst C (nI 0) dL_law_592 (by decide +kernel) ?_
        refine x_calli (x_runV C hK hNW (c_reverseZ0 l D tys cI cJ hI hJ x qw qv qt ri qd qc ql pa po bp cp ) (cwV 1 C.2.2.2.2 gL_law_X4_reverse rfl rfl rfl (by decide +kernel) ⟨by decide, by decide⟩) [0, 4, 5, 6] rfl (by decide) 0 4 rfl rfl rfl (st := []) rfl rfl (Nat.le_of_ble_eq_true rfl) dL_law_593 ⟨by first | decide | omega | exact (show _ ≤ 719372 by omega), by first | decide | omega | exact (show _ ≤ 6937989 by omega)⟩) hA [0, 4, 5, 6] rfl [1, 2, 3, 7, 8, 9, 10, 11, 12, 13, 14, 15, 16, 17, 18, 19, 20, 21, 22, 23, 24, 25, 26, 27, 28, 29] [(qw, OB 3 [.ref wa, .ref wo, .int (nI nw)]), (wa, AI cI 40 bw), (wo, AI cI 40 cw), (qt, AI cI 10 ti), (qd, OB 1 [.ref dr, .ref dk, .ref ds, .ref dt, .int (nI co), .int (nI dn)]), (dr, AJ cJ 40 fr), (dk, AJ cJ 40 fk), (ds, AI cI 40 fs), (dt, AI cI 40 ft), (qc, OB 0 [.ref ce, .ref cf, .int ven, .int vpn]), (ce, AJ cJ 40 fe), (cf, AI cI 41 ff), (ql, OB 2 [.ref le, .ref lp, .int vle, .int vlt]), (le, AJ cJ 80 fle), (lp, AJ cJ 80 flp), (yo, OB 5 [.int thr, .int ri, .ref yt, .ref ys, .ref yf, .ref yc, .int (nI co), .int (nI dn), .ref yd]), (yt, AI cI 10 ti), (ys, AI cI 2 (sz2 nw 0)), (yf, AR cA 2 (gr2 g0 g1)), (g0, AI cI 40 bw), (g1, AI cI 40 bp), (yc, AR cA 2 (gr2 k0 k1)), (k0, AI cI 40 cw), (k1, AI cI 40 cp), (yd, AJ cJ 40 fr), (out, AJ cJ 1 fo)] rfl (by decide) (by decide) [26, 0, 1, 2, 27, 28, 29, 3, 4, 5, 6, 7, 8, 9, 10, 11, 12, 13, 14, 15, 16, 17, 18, 19, 20, 21, 22, 23, 24, 25] (by decide) (wf := (fun (u : Unit) => [(x, OB 4 [.ref qw, .ref qv, .ref qt, .int ri, .ref qd, .ref qc, .ref ql]), (qw, OB 3 [.ref wa, .ref wo, .int (nI nw)]), (wa, AI cI 40 bw), (wo, AI cI 40 cw), (qv, OB 3 [.ref pa, .ref po, .int (nI 0)]), (pa, AI cI 40 bp), (po, AI cI 40 cp), (qt, AI cI 10 ti), (qd, OB 1 [.ref dr, .ref dk, .ref ds, .ref dt, .int (nI co), .int (nI dn)]), (dr, AJ cJ 40 fr), (dk, AJ cJ 40 fk), (ds, AI cI 40 fs), (dt, AI cI 40 ft), (qc, OB 0 [.ref ce, .ref cf, .int ven, .int vpn]), (ce, AJ cJ 40 fe), (cf, AI cI 41 ff), (ql, OB 2 [.ref le, .ref lp, .int vle, .int vlt]), (le, AJ cJ 80 fle), (lp, AJ cJ 80 flp), (yo, OB 5 [.int thr, .int ri, .ref yt, .ref ys, .ref yf, .ref yc, .int (nI co), .int (nI dn), .ref yd]), (yt, AI cI 10 ti), (ys, AI cI 2 (sz2 nw 0)), (yf, AR cA 2 (gr2 g0 g1)), (g0, AI cI 40 bw), (g1, AI cI 40 bp), (yc, AR cA 2 (gr2 k0 k1)), (k0, AI cI 40 cw), (k1, AI cI 40 cp), (yd, AJ cJ 40 fr), (out, AJ cJ 1 fo)])) (fun _ => rfl) (fun r_2 u h_3 => ?_)
        refine x_widen (40 + 90 * t9) (1000 + 300 * t9) (by first | decide | omega) (by first | decide | omega) ?_
        subst h_3
        refine x_aload_n C dL_law_596 rfl 2 rfl ?_
        refine x_aload_n C dL_law_597 rfl 0 rfl ?_
        refine x_iload C dL_law_598 4 rfl ?_
        refine x_iconst C (nI 1) dL_law_600 (by decide +kernel) ?_
        refine xn_iadd C dL_law_601 ?_
        refine x_sld C hX hbl hbA (j := 3 * t9 + 1) (by omega) (by omega) dL_law_602 ?_
        refine x_if_eq C 610 dL_law_603 (by decide) (fun h_4 => ?_) (fun h_4 => ?_)
        ·
          refine x_iconst C (nI 0) dL_law_610 (by decide +kernel) ?_
          refine x_calli (x_runV C hK hNW (c_m_reverseZ0 l D tys cI cJ cA hI hJ hR yo thr ri yt ys yf yc co dn yd nw g0 g1 bw bp k0 k1 cw cp ) (cwV 1 C.2.2.2.2 gL_law_X5_reverse rfl rfl rfl (by decide +kernel) ⟨by decide, by decide⟩) [19, 21, 22, 23, 24, 25, 26, 27] rfl (by decide) 19 5 rfl rfl rfl (st := [.int (nI 0)]) rfl rfl (Nat.le_of_ble_eq_true rfl) dL_law_611 ⟨by first | decide | omega | exact (show _ ≤ 719372 by omega), by first | decide | omega | exact (show _ ≤ 6937989 by omega)⟩) hA [19, 21, 22, 23, 24, 25, 26, 27] rfl [0, 1, 2, 3, 4, 5, 6, 7, 8, 9, 10, 11, 12, 13, 14, 15, 16, 17, 18, 20, 28, 29] [(x, OB 4 [.ref qw, .ref qv, .ref qt, .int ri, .ref qd, .ref qc, .ref ql]), (qw, OB 3 [.ref wa, .ref wo, .int (nI nw)]), (wa, AI cI 40 bw), (wo, AI cI 40 cw), (qv, OB 3 [.ref pa, .ref po, .int (nI 0)]), (pa, AI cI 40 bp), (po, AI cI 40 cp), (qt, AI cI 10 ti), (qd, OB 1 [.ref dr, .ref dk, .ref ds, .ref dt, .int (nI co), .int (nI dn)]), (dr, AJ cJ 40 fr), (dk, AJ cJ 40 fk), (ds, AI cI 40 fs), (dt, AI cI 40 ft), (qc, OB 0 [.ref ce, .ref cf, .int ven, .int vpn]), (ce, AJ cJ 40 fe), (cf, AI cI 41 ff), (ql, OB 2 [.ref le, .ref lp, .int vle, .int vlt]), (le, AJ cJ 80 fle), (lp, AJ cJ 80 flp), (yt, AI cI 10 ti), (yd, AJ cJ 40 fr), (out, AJ cJ 1 fo)] rfl (by decide) (by decide) [0, 1, 2, 3, 4, 5, 6, 7, 8, 9, 10, 11, 12, 13, 14, 15, 16, 17, 18, 22, 19, 23, 24, 25, 26, 27, 28, 29, 20, 21] (by decide) (wf := (fun (u : Unit) => [(x, OB 4 [.ref qw, .ref qv, .ref qt, .int ri, .ref qd, .ref qc, .ref ql]), (qw, OB 3 [.ref wa, .ref wo, .int (nI nw)]), (wa, AI cI 40 bw), (wo, AI cI 40 cw), (qv, OB 3 [.ref pa, .ref po, .int (nI 0)]), (pa, AI cI 40 bp), (po, AI cI 40 cp), (qt, AI cI 10 ti), (qd, OB 1 [.ref dr, .ref dk, .ref ds, .ref dt, .int (nI co), .int (nI dn)]), (dr, AJ cJ 40 fr), (dk, AJ cJ 40 fk), (ds, AI cI 40 fs), (dt, AI cI 40 ft), (qc, OB 0 [.ref ce, .ref cf, .int ven, .int vpn]), (ce, AJ cJ 40 fe), (cf, AI cI 41 ff), (ql, OB 2 [.ref le, .ref lp, .int vle, .int vlt]), (le, AJ cJ 80 fle), (lp, AJ cJ 80 flp), (yo, OB 5 [.int (nI 0), .int ri, .ref yt, .ref ys, .ref yf, .ref yc, .int (nI co), .int (nI dn), .ref yd]), (yt, AI cI 10 ti), (ys, AI cI 2 (sz2 nw 0)), (yf, AR cA 2 (gr2 g0 g1)), (g0, AI cI 40 bw), (g1, AI cI 40 bp), (yc, AR cA 2 (gr2 k0 k1)), (k0, AI cI 40 cw), (k1, AI cI 40 cp), (yd, AJ cJ 40 fr), (out, AJ cJ 1 fo)])) (fun _ => rfl) (fun r_5 u h_6 => ?_)
          refine x_widen ((40 + 90 * t9) + 3) ((1000 + 300 * t9) + 120) (by first | decide | omega) (by first | decide | omega) ?_
          subst h_6
          refine xn_icmp_eq C 1590 (by omega) (by omega) dL_law_614 (by decide) (fun h_7 => ?_) (fun h_7 => ?_)
          ·
            refine xn_iinc C ((3 * t9) + 3) [(4, .int (nI ((3 * t9) + 3))), (0, .ref b0), (1, .ref x), (2, .ref yo), (3, .ref out)] dL_law_1590 4 rfl (by rw [show Int32.ofInt 3 = nI 3 from by decide +kernel]; exact nI_add _ _) (by decide) rfl ?_
            refine x_goto C 23 dL_law_1593 (by decide) ?_
            refine x_lv [(0, .ref b0), (1, .ref x), (2, .ref yo), (3, .ref out), (4, .int (nI (3 * (t9 + 1))))] [1, 2, 3, 4, 0] (by rw [show 3 * (t9 + 1) = (3 * t9) + 3 from by first | rfl | omega]; rfl) ?_
            refine x_widen (40 + 90 * (t9 + 1)) (1000 + 300 * (t9 + 1)) (by first | decide | omega) (by first | decide | omega) ?_
            exact IH (nI 0) ri nw bw cw 0 bp cp ti co dn fr fk fs ft ven vpn fe ff vle vlt fle flp fo (by first | assumption | omega) (by first | assumption | omega) (by first | assumption | omega) (by first | assumption | omega) (by first | assumption | omega) (by first | assumption) (by first | assumption) (by first | assumption)
          ·
            exact absurd h_7 (by first | decide | omega)
        ·
          exact absurd hb h_4
      ·
        exact absurd hb h_1
    ·
      refine x_aload_n C dL_law_578 rfl 1 rfl ?_
      refine x_aload_n C dL_law_579 rfl 0 rfl ?_
      refine x_iload C dL_law_580 4 rfl ?_
      refine x_iconst C (nI 1) dL_law_582 (by decide +kernel) ?_
      refine xn_iadd C dL_law_583 ?_
      refine x_sld C hX hbl hbA (j := 3 * t9 + 1) (by omega) (by omega) dL_law_584 ?_
      refine x_if_eq C 592 dL_law_585 (by decide) (fun h_8 => ?_) (fun h_8 => ?_)
      ·
        refine x_iconst C (nI 0) dL_law_592 (by decide +kernel) ?_
        refine x_calli (x_runV C hK hNW (c_reverse0 l D tys cI cJ hI hJ x qw qv qt ri qd qc ql pa po np bp cp (by first | omega | assumption) (by first | omega | assumption)) (cwV 1 C.2.2.2.2 gL_law_X4_reverse rfl rfl rfl (by decide +kernel) ⟨by decide, by decide⟩) [0, 4, 5, 6] rfl (by decide) 0 4 rfl rfl rfl (st := []) rfl rfl (Nat.le_of_ble_eq_true rfl) dL_law_593 ⟨by first | decide | omega | exact (show _ ≤ 719372 by omega), by first | decide | omega | exact (show _ ≤ 6937989 by omega)⟩) hA [0, 4, 5, 6] rfl [1, 2, 3, 7, 8, 9, 10, 11, 12, 13, 14, 15, 16, 17, 18, 19, 20, 21, 22, 23, 24, 25, 26, 27, 28, 29] [(qw, OB 3 [.ref wa, .ref wo, .int (nI nw)]), (wa, AI cI 40 bw), (wo, AI cI 40 cw), (qt, AI cI 10 ti), (qd, OB 1 [.ref dr, .ref dk, .ref ds, .ref dt, .int (nI co), .int (nI dn)]), (dr, AJ cJ 40 fr), (dk, AJ cJ 40 fk), (ds, AI cI 40 fs), (dt, AI cI 40 ft), (qc, OB 0 [.ref ce, .ref cf, .int ven, .int vpn]), (ce, AJ cJ 40 fe), (cf, AI cI 41 ff), (ql, OB 2 [.ref le, .ref lp, .int vle, .int vlt]), (le, AJ cJ 80 fle), (lp, AJ cJ 80 flp), (yo, OB 5 [.int thr, .int ri, .ref yt, .ref ys, .ref yf, .ref yc, .int (nI co), .int (nI dn), .ref yd]), (yt, AI cI 10 ti), (ys, AI cI 2 (sz2 nw np)), (yf, AR cA 2 (gr2 g0 g1)), (g0, AI cI 40 bw), (g1, AI cI 40 bp), (yc, AR cA 2 (gr2 k0 k1)), (k0, AI cI 40 cw), (k1, AI cI 40 cp), (yd, AJ cJ 40 fr), (out, AJ cJ 1 fo)] rfl (by decide) (by decide) [26, 0, 1, 2, 27, 28, 29, 3, 4, 5, 6, 7, 8, 9, 10, 11, 12, 13, 14, 15, 16, 17, 18, 19, 20, 21, 22, 23, 24, 25] (by decide) (wf := (fun (u : Unit) => [(x, OB 4 [.ref qw, .ref qv, .ref qt, .int ri, .ref qd, .ref qc, .ref ql]), (qw, OB 3 [.ref wa, .ref wo, .int (nI nw)]), (wa, AI cI 40 bw), (wo, AI cI 40 cw), (qv, OB 3 [.ref pa, .ref po, .int (nI np)]), (pa, AI cI 40 (rvF bp 0 np)), (po, AI cI 40 (rvF cp 0 np)), (qt, AI cI 10 ti), (qd, OB 1 [.ref dr, .ref dk, .ref ds, .ref dt, .int (nI co), .int (nI dn)]), (dr, AJ cJ 40 fr), (dk, AJ cJ 40 fk), (ds, AI cI 40 fs), (dt, AI cI 40 ft), (qc, OB 0 [.ref ce, .ref cf, .int ven, .int vpn]), (ce, AJ cJ 40 fe), (cf, AI cI 41 ff), (ql, OB 2 [.ref le, .ref lp, .int vle, .int vlt]), (le, AJ cJ 80 fle), (lp, AJ cJ 80 flp), (yo, OB 5 [.int thr, .int ri, .ref yt, .ref ys, .ref yf, .ref yc, .int (nI co), .int (nI dn), .ref yd]), (yt, AI cI 10 ti), (ys, AI cI 2 (sz2 nw np)), (yf, AR cA 2 (gr2 g0 g1)), (g0, AI cI 40 bw), (g1, AI cI 40 bp), (yc, AR cA 2 (gr2 k0 k1)), (k0, AI cI 40 cw), (k1, AI cI 40 cp), (yd, AJ cJ 40 fr), (out, AJ cJ 1 fo)])) (fun _ => rfl) (fun r_9 u h_10 => ?_)
        refine x_widen (40 + 90 * t9) (1000 + 300 * t9) (by first | decide | omega) (by first | decide | omega) ?_
        subst h_10
        refine x_aload_n C dL_law_596 rfl 2 rfl ?_
        refine x_aload_n C dL_law_597 rfl 0 rfl ?_
        refine x_iload C dL_law_598 4 rfl ?_
        refine x_iconst C (nI 1) dL_law_600 (by decide +kernel) ?_
        refine xn_iadd C dL_law_601 ?_
        refine x_sld C hX hbl hbA (j := 3 * t9 + 1) (by omega) (by omega) dL_law_602 ?_
        refine x_if_eq C 610 dL_law_603 (by decide) (fun h_11 => ?_) (fun h_11 => ?_)
        ·
          refine x_iconst C (nI 0) dL_law_610 (by decide +kernel) ?_
          refine x_calli (x_runV C hK hNW (c_m_reverse0 l D tys cI cJ cA hI hJ hR yo thr ri yt ys yf yc co dn yd nw np g0 g1 bw bp k0 k1 cw cp (by first | omega | assumption)) (cwV 1 C.2.2.2.2 gL_law_X5_reverse rfl rfl rfl (by decide +kernel) ⟨by decide, by decide⟩) [19, 21, 22, 23, 24, 25, 26, 27] rfl (by decide) 19 5 rfl rfl rfl (st := [.int (nI np)]) rfl rfl (Nat.le_of_ble_eq_true rfl) dL_law_611 ⟨by first | decide | omega | exact (show _ ≤ 719372 by omega), by first | decide | omega | exact (show _ ≤ 6937989 by omega)⟩) hA [19, 21, 22, 23, 24, 25, 26, 27] rfl [0, 1, 2, 3, 4, 5, 6, 7, 8, 9, 10, 11, 12, 13, 14, 15, 16, 17, 18, 20, 28, 29] [(x, OB 4 [.ref qw, .ref qv, .ref qt, .int ri, .ref qd, .ref qc, .ref ql]), (qw, OB 3 [.ref wa, .ref wo, .int (nI nw)]), (wa, AI cI 40 bw), (wo, AI cI 40 cw), (qv, OB 3 [.ref pa, .ref po, .int (nI np)]), (pa, AI cI 40 (rvF bp 0 np)), (po, AI cI 40 (rvF cp 0 np)), (qt, AI cI 10 ti), (qd, OB 1 [.ref dr, .ref dk, .ref ds, .ref dt, .int (nI co), .int (nI dn)]), (dr, AJ cJ 40 fr), (dk, AJ cJ 40 fk), (ds, AI cI 40 fs), (dt, AI cI 40 ft), (qc, OB 0 [.ref ce, .ref cf, .int ven, .int vpn]), (ce, AJ cJ 40 fe), (cf, AI cI 41 ff), (ql, OB 2 [.ref le, .ref lp, .int vle, .int vlt]), (le, AJ cJ 80 fle), (lp, AJ cJ 80 flp), (yt, AI cI 10 ti), (yd, AJ cJ 40 fr), (out, AJ cJ 1 fo)] rfl (by decide) (by decide) [0, 1, 2, 3, 4, 5, 6, 7, 8, 9, 10, 11, 12, 13, 14, 15, 16, 17, 18, 22, 19, 23, 24, 25, 26, 27, 28, 29, 20, 21] (by decide) (wf := (fun (u : Unit) => [(x, OB 4 [.ref qw, .ref qv, .ref qt, .int ri, .ref qd, .ref qc, .ref ql]), (qw, OB 3 [.ref wa, .ref wo, .int (nI nw)]), (wa, AI cI 40 bw), (wo, AI cI 40 cw), (qv, OB 3 [.ref pa, .ref po, .int (nI np)]), (pa, AI cI 40 (rvF bp 0 np)), (po, AI cI 40 (rvF cp 0 np)), (qt, AI cI 10 ti), (qd, OB 1 [.ref dr, .ref dk, .ref ds, .ref dt, .int (nI co), .int (nI dn)]), (dr, AJ cJ 40 fr), (dk, AJ cJ 40 fk), (ds, AI cI 40 fs), (dt, AI cI 40 ft), (qc, OB 0 [.ref ce, .ref cf, .int ven, .int vpn]), (ce, AJ cJ 40 fe), (cf, AI cI 41 ff), (ql, OB 2 [.ref le, .ref lp, .int vle, .int vlt]), (le, AJ cJ 80 fle), (lp, AJ cJ 80 flp), (yo, OB 5 [.int (nI 0), .int ri, .ref yt, .ref ys, .ref yf, .ref yc, .int (nI co), .int (nI dn), .ref yd]), (yt, AI cI 10 ti), (ys, AI cI 2 (sz2 nw np)), (yf, AR cA 2 (gr2 g0 g1)), (g0, AI cI 40 bw), (g1, AI cI 40 (rvF bp 0 np)), (yc, AR cA 2 (gr2 k0 k1)), (k0, AI cI 40 cw), (k1, AI cI 40 (rvF cp 0 np)), (yd, AJ cJ 40 fr), (out, AJ cJ 1 fo)])) (fun _ => rfl) (fun r_12 u h_13 => ?_)
          refine x_widen ((40 + 90 * t9) + 3) ((1000 + 300 * t9) + 120) (by first | decide | omega) (by first | decide | omega) ?_
          subst h_13
          refine xn_icmp_eq C 1590 (by omega) (by omega) dL_law_614 (by decide) (fun h_14 => ?_) (fun h_14 => ?_)
          ·
            refine xn_iinc C ((3 * t9) + 3) [(4, .int (nI ((3 * t9) + 3))), (0, .ref b0), (1, .ref x), (2, .ref yo), (3, .ref out)] dL_law_1590 4 rfl (by rw [show Int32.ofInt 3 = nI 3 from by decide +kernel]; exact nI_add _ _) (by decide) rfl ?_
            refine x_goto C 23 dL_law_1593 (by decide) ?_
            refine x_lv [(0, .ref b0), (1, .ref x), (2, .ref yo), (3, .ref out), (4, .int (nI (3 * (t9 + 1))))] [1, 2, 3, 4, 0] (by rw [show 3 * (t9 + 1) = (3 * t9) + 3 from by first | rfl | omega]; rfl) ?_
            refine x_widen (40 + 90 * (t9 + 1)) (1000 + 300 * (t9 + 1)) (by first | decide | omega) (by first | decide | omega) ?_
            exact IH (nI 0) ri nw bw cw np (rvF bp 0 np) (rvF cp 0 np) ti co dn fr fk fs ft ven vpn fe ff vle vlt fle flp fo (by first | assumption | omega) (by first | assumption | omega) (by first | assumption | omega) (by first | assumption | omega) (by first | assumption | omega) (by first | assumption) (by first | assumption) (by exact oc_rv hcp (Nat.le_refl _))
          ·
            exact absurd (rfl) h_14
        ·
          exact absurd hb h_11
      ·
        exact absurd hb h_8
  ·
    rcases Nat.eq_zero_or_pos nw with hz | hz
    ·
      subst hz
      refine x_aload_n C dL_law_578 rfl 1 rfl ?_
      refine x_aload_n C dL_law_579 rfl 0 rfl ?_
      refine x_iload C dL_law_580 4 rfl ?_
      refine x_iconst C (nI 1) dL_law_582 (by decide +kernel) ?_
      refine xn_iadd C dL_law_583 ?_
      refine x_sld C hX hbl hbA (j := 3 * t9 + 1) (by omega) (by omega) dL_law_584 ?_
      refine x_if_eq C 592 dL_law_585 (by decide) (fun h_15 => ?_) (fun h_15 => ?_)
      ·
        exact absurd h_15 hb
      ·
        refine x_iconst C (nI 1) dL_law_588 (by decide +kernel) ?_
        refine x_goto C 593 dL_law_589 (by decide) ?_
        refine x_calli (x_runV C hK hNW (c_reverseZ1 l D tys cI cJ hI hJ x qw qv qt ri qd qc ql wa wo bw cw ) (cwV 1 C.2.2.2.2 gL_law_X4_reverse rfl rfl rfl (by decide +kernel) ⟨by decide, by decide⟩) [0, 1, 2, 3] rfl (by decide) 0 4 rfl rfl rfl (st := []) rfl rfl (Nat.le_of_ble_eq_true rfl) dL_law_593 ⟨by first | decide | omega | exact (show _ ≤ 719372 by omega), by first | decide | omega | exact (show _ ≤ 6937989 by omega)⟩) hA [0, 1, 2, 3] rfl [4, 5, 6, 7, 8, 9, 10, 11, 12, 13, 14, 15, 16, 17, 18, 19, 20, 21, 22, 23, 24, 25, 26, 27, 28, 29] [(qv, OB 3 [.ref pa, .ref po, .int (nI np)]), (pa, AI cI 40 bp), (po, AI cI 40 cp), (qt, AI cI 10 ti), (qd, OB 1 [.ref dr, .ref dk, .ref ds, .ref dt, .int (nI co), .int (nI dn)]), (dr, AJ cJ 40 fr), (dk, AJ cJ 40 fk), (ds, AI cI 40 fs), (dt, AI cI 40 ft), (qc, OB 0 [.ref ce, .ref cf, .int ven, .int vpn]), (ce, AJ cJ 40 fe), (cf, AI cI 41 ff), (ql, OB 2 [.ref le, .ref lp, .int vle, .int vlt]), (le, AJ cJ 80 fle), (lp, AJ cJ 80 flp), (yo, OB 5 [.int thr, .int ri, .ref yt, .ref ys, .ref yf, .ref yc, .int (nI co), .int (nI dn), .ref yd]), (yt, AI cI 10 ti), (ys, AI cI 2 (sz2 0 np)), (yf, AR cA 2 (gr2 g0 g1)), (g0, AI cI 40 bw), (g1, AI cI 40 bp), (yc, AR cA 2 (gr2 k0 k1)), (k0, AI cI 40 cw), (k1, AI cI 40 cp), (yd, AJ cJ 40 fr), (out, AJ cJ 1 fo)] rfl (by decide) (by decide) [26, 27, 28, 29, 0, 1, 2, 3, 4, 5, 6, 7, 8, 9, 10, 11, 12, 13, 14, 15, 16, 17, 18, 19, 20, 21, 22, 23, 24, 25] (by decide) (wf := (fun (u : Unit) => [(x, OB 4 [.ref qw, .ref qv, .ref qt, .int ri, .ref qd, .ref qc, .ref ql]), (qw, OB 3 [.ref wa, .ref wo, .int (nI 0)]), (wa, AI cI 40 bw), (wo, AI cI 40 cw), (qv, OB 3 [.ref pa, .ref po, .int (nI np)]), (pa, AI cI 40 bp), (po, AI cI 40 cp), (qt, AI cI 10 ti), (qd, OB 1 [.ref dr, .ref dk, .ref ds, .ref dt, .int (nI co), .int (nI dn)]), (dr, AJ cJ 40 fr), (dk, AJ cJ 40 fk), (ds, AI cI 40 fs), (dt, AI cI 40 ft), (qc, OB 0 [.ref ce, .ref cf, .int ven, .int vpn]), (ce, AJ cJ 40 fe), (cf, AI cI 41 ff), (ql, OB 2 [.ref le, .ref lp, .int vle, .int vlt]), (le, AJ cJ 80 fle), (lp, AJ cJ 80 flp), (yo, OB 5 [.int thr, .int ri, .ref yt, .ref ys, .ref yf, .ref yc, .int (nI co), .int (nI dn), .ref yd]), (yt, AI cI 10 ti), (ys, AI cI 2 (sz2 0 np)), (yf, AR cA 2 (gr2 g0 g1)), (g0, AI cI 40 bw), (g1, AI cI 40 bp), (yc, AR cA 2 (gr2 k0 k1)), (k0, AI cI 40 cw), (k1, AI cI 40 cp), (yd, AJ cJ 40 fr), (out, AJ cJ 1 fo)])) (fun _ => rfl) (fun r_16 u h_17 => ?_)
        refine x_widen (40 + 90 * t9) (1000 + 300 * t9) (by first | decide | omega) (by first | decide | omega) ?_
        subst h_17
        refine x_aload_n C dL_law_596 rfl 2 rfl ?_
        refine x_aload_n C dL_law_597 rfl 0 rfl ?_
        refine x_iload C dL_law_598 4 rfl ?_
        refine x_iconst C (nI 1) dL_law_600 (by decide +kernel) ?_
        refine xn_iadd C dL_law_601 ?_
        refine x_sld C hX hbl hbA (j := 3 * t9 + 1) (by omega) (by omega) dL_law_602 ?_
        refine x_if_eq C 610 dL_law_603 (by decide) (fun h_18 => ?_) (fun h_18 => ?_)
        ·
          exact absurd h_18 hb
        ·
          refine x_iconst C (nI 1) dL_law_606 (by decide +kernel) ?_
          refine x_goto C 611 dL_law_607 (by decide) ?_
          refine x_calli (x_runV C hK hNW (c_m_reverseZ1 l D tys cI cJ cA hI hJ hR yo thr ri yt ys yf yc co dn yd np g0 g1 bw bp k0 k1 cw cp ) (cwV 1 C.2.2.2.2 gL_law_X5_reverse rfl rfl rfl (by decide +kernel) ⟨by decide, by decide⟩) [19, 21, 22, 23, 24, 25, 26, 27] rfl (by decide) 19 5 rfl rfl rfl (st := [.int (nI 0)]) rfl rfl (Nat.le_of_ble_eq_true rfl) dL_law_611 ⟨by first | decide | omega | exact (show _ ≤ 719372 by omega), by first | decide | omega | exact (show _ ≤ 6937989 by omega)⟩) hA [19, 21, 22, 23, 24, 25, 26, 27] rfl [0, 1, 2, 3, 4, 5, 6, 7, 8, 9, 10, 11, 12, 13, 14, 15, 16, 17, 18, 20, 28, 29] [(x, OB 4 [.ref qw, .ref qv, .ref qt, .int ri, .ref qd, .ref qc, .ref ql]), (qw, OB 3 [.ref wa, .ref wo, .int (nI 0)]), (wa, AI cI 40 bw), (wo, AI cI 40 cw), (qv, OB 3 [.ref pa, .ref po, .int (nI np)]), (pa, AI cI 40 bp), (po, AI cI 40 cp), (qt, AI cI 10 ti), (qd, OB 1 [.ref dr, .ref dk, .ref ds, .ref dt, .int (nI co), .int (nI dn)]), (dr, AJ cJ 40 fr), (dk, AJ cJ 40 fk), (ds, AI cI 40 fs), (dt, AI cI 40 ft), (qc, OB 0 [.ref ce, .ref cf, .int ven, .int vpn]), (ce, AJ cJ 40 fe), (cf, AI cI 41 ff), (ql, OB 2 [.ref le, .ref lp, .int vle, .int vlt]), (le, AJ cJ 80 fle), (lp, AJ cJ 80 flp), (yt, AI cI 10 ti), (yd, AJ cJ 40 fr), (out, AJ cJ 1 fo)] rfl (by decide) (by decide) [0, 1, 2, 3, 4, 5, 6, 7, 8, 9, 10, 11, 12, 13, 14, 15, 16, 17, 18, 22, 19, 23, 24, 25, 26, 27, 28, 29, 20, 21] (by decide) (wf := (fun (u : Unit) => [(x, OB 4 [.ref qw, .ref qv, .ref qt, .int ri, .ref qd, .ref qc, .ref ql]), (qw, OB 3 [.ref wa, .ref wo, .int (nI 0)]), (wa, AI cI 40 bw), (wo, AI cI 40 cw), (qv, OB 3 [.ref pa, .ref po, .int (nI np)]), (pa, AI cI 40 bp), (po, AI cI 40 cp), (qt, AI cI 10 ti), (qd, OB 1 [.ref dr, .ref dk, .ref ds, .ref dt, .int (nI co), .int (nI dn)]), (dr, AJ cJ 40 fr), (dk, AJ cJ 40 fk), (ds, AI cI 40 fs), (dt, AI cI 40 ft), (qc, OB 0 [.ref ce, .ref cf, .int ven, .int vpn]), (ce, AJ cJ 40 fe), (cf, AI cI 41 ff), (ql, OB 2 [.ref le, .ref lp, .int vle, .int vlt]), (le, AJ cJ 80 fle), (lp, AJ cJ 80 flp), (yo, OB 5 [.int (nI 0), .int ri, .ref yt, .ref ys, .ref yf, .ref yc, .int (nI co), .int (nI dn), .ref yd]), (yt, AI cI 10 ti), (ys, AI cI 2 (sz2 0 np)), (yf, AR cA 2 (gr2 g0 g1)), (g0, AI cI 40 bw), (g1, AI cI 40 bp), (yc, AR cA 2 (gr2 k0 k1)), (k0, AI cI 40 cw), (k1, AI cI 40 cp), (yd, AJ cJ 40 fr), (out, AJ cJ 1 fo)])) (fun _ => rfl) (fun r_19 u h_20 => ?_)
          refine x_widen ((40 + 90 * t9) + 3) ((1000 + 300 * t9) + 120) (by first | decide | omega) (by first | decide | omega) ?_
          subst h_20
          refine xn_icmp_eq C 1590 (by omega) (by omega) dL_law_614 (by decide) (fun h_21 => ?_) (fun h_21 => ?_)
          ·
            refine xn_iinc C ((3 * t9) + 3) [(4, .int (nI ((3 * t9) + 3))), (0, .ref b0), (1, .ref x), (2, .ref yo), (3, .ref out)] dL_law_1590 4 rfl (by rw [show Int32.ofInt 3 = nI 3 from by decide +kernel]; exact nI_add _ _) (by decide) rfl ?_
            refine x_goto C 23 dL_law_1593 (by decide) ?_
            refine x_lv [(0, .ref b0), (1, .ref x), (2, .ref yo), (3, .ref out), (4, .int (nI (3 * (t9 + 1))))] [1, 2, 3, 4, 0] (by rw [show 3 * (t9 + 1) = (3 * t9) + 3 from by first | rfl | omega]; rfl) ?_
            refine x_widen (40 + 90 * (t9 + 1)) (1000 + 300 * (t9 + 1)) (by first | decide | omega) (by first | decide | omega) ?_
            exact IH (nI 0) ri 0 bw cw np bp cp ti co dn fr fk fs ft ven vpn fe ff vle vlt fle flp fo (by first | assumption | omega) (by first | assumption | omega) (by first | assumption | omega) (by first | assumption | omega) (by first | assumption | omega) (by first | assumption) (by first | assumption) (by first | assumption)
          ·
            exact absurd h_21 (by first | decide | omega)
    ·
      refine x_aload_n C dL_law_578 rfl 1 rfl ?_
      refine x_aload_n C dL_law_579 rfl 0 rfl ?_
      refine x_iload C dL_law_580 4 rfl ?_
      refine x_iconst C (nI 1) dL_law_582 (by decide +kernel) ?_
      refine xn_iadd C dL_law_583 ?_
      refine x_sld C hX hbl hbA (j := 3 * t9 + 1) (by omega) (by omega) dL_law_584 ?_
      refine x_if_eq C 592 dL_law_585 (by decide) (fun h_22 => ?_) (fun h_22 => ?_)
      ·
        exact absurd h_22 hb
      ·
        refine x_iconst C (nI 1) dL_law_588 (by decide +kernel) ?_
        refine x_goto C 593 dL_law_589 (by decide) ?_
        refine x_calli (x_runV C hK hNW (c_reverse1 l D tys cI cJ hI hJ x qw qv qt ri qd qc ql wa wo nw bw cw (by first | omega | assumption) (by first | omega | assumption)) (cwV 1 C.2.2.2.2 gL_law_X4_reverse rfl rfl rfl (by decide +kernel) ⟨by decide, by decide⟩) [0, 1, 2, 3] rfl (by decide) 0 4 rfl rfl rfl (st := []) rfl rfl (Nat.le_of_ble_eq_true rfl) dL_law_593 ⟨by first | decide | omega | exact (show _ ≤ 719372 by omega), by first | decide | omega | exact (show _ ≤ 6937989 by omega)⟩) hA [0, 1, 2, 3] rfl [4, 5, 6, 7, 8, 9, 10, 11, 12, 13, 14, 15, 16, 17, 18, 19, 20, 21, 22, 23, 24, 25, 26, 27, 28, 29] [(qv, OB 3 [.ref pa, .ref po, .int (nI np)]), (pa, AI cI 40 bp), (po, AI cI 40 cp), (qt, AI cI 10 ti), (qd, OB 1 [.ref dr, .ref dk, .ref ds, .ref dt, .int (nI co), .int (nI dn)]), (dr, AJ cJ 40 fr), (dk, AJ cJ 40 fk), (ds, AI cI 40 fs), (dt, AI cI 40 ft), (qc, OB 0 [.ref ce, .ref cf, .int ven, .int vpn]), (ce, AJ cJ 40 fe), (cf, AI cI 41 ff), (ql, OB 2 [.ref le, .ref lp, .int vle, .int vlt]), (le, AJ cJ 80 fle), (lp, AJ cJ 80 flp), (yo, OB 5 [.int thr, .int ri, .ref yt, .ref ys, .ref yf, .ref yc, .int (nI co), .int (nI dn), .ref yd]), (yt, AI cI 10 ti), (ys, AI cI 2 (sz2 nw np)), (yf, AR cA 2 (gr2 g0 g1)), (g0, AI cI 40 bw), (g1, AI cI 40 bp), (yc, AR cA 2 (gr2 k0 k1)), (k0, AI cI 40 cw), (k1, AI cI 40 cp), (yd, AJ cJ 40 fr), (out, AJ cJ 1 fo)] rfl (by decide) (by decide) [26, 27, 28, 29, 0, 1, 2, 3, 4, 5, 6, 7, 8, 9, 10, 11, 12, 13, 14, 15, 16, 17, 18, 19, 20, 21, 22, 23, 24, 25] (by decide) (wf := (fun (u : Unit) => [(x, OB 4 [.ref qw, .ref qv, .ref qt, .int ri, .ref qd, .ref qc, .ref ql]), (qw, OB 3 [.ref wa, .ref wo, .int (nI nw)]), (wa, AI cI 40 (rvF bw 0 nw)), (wo, AI cI 40 (rvF cw 0 nw)), (qv, OB 3 [.ref pa, .ref po, .int (nI np)]), (pa, AI cI 40 bp), (po, AI cI 40 cp), (qt, AI cI 10 ti), (qd, OB 1 [.ref dr, .ref dk, .ref ds, .ref dt, .int (nI co), .int (nI dn)]), (dr, AJ cJ 40 fr), (dk, AJ cJ 40 fk), (ds, AI cI 40 fs), (dt, AI cI 40 ft), (qc, OB 0 [.ref ce, .ref cf, .int ven, .int vpn]), (ce, AJ cJ 40 fe), (cf, AI cI 41 ff), (ql, OB 2 [.ref le, .ref lp, .int vle, .int vlt]), (le, AJ cJ 80 fle), (lp, AJ cJ 80 flp), (yo, OB 5 [.int thr, .int ri, .ref yt, .ref ys, .ref yf, .ref yc, .int (nI co), .int (nI dn), .ref yd]), (yt, AI cI 10 ti), (ys, AI cI 2 (sz2 nw np)), (yf, AR cA 2 (gr2 g0 g1)), (g0, AI cI 40 bw), (g1, AI cI 40 bp), (yc, AR cA 2 (gr2 k0 k1)), (k0, AI cI 40 cw), (k1, AI cI 40 cp), (yd, AJ cJ 40 fr), (out, AJ cJ 1 fo)])) (fun _ => rfl) (fun r_23 u h_24 => ?_)
        refine x_widen (40 + 90 * t9) (1000 + 300 * t9) (by first | decide | omega) (by first | decide | omega) ?_
        subst h_24
        refine x_aload_n C dL_law_596 rfl 2 rfl ?_
        refine x_aload_n C dL_law_597 rfl 0 rfl ?_
        refine x_iload C dL_law_598 4 rfl ?_
        refine x_iconst C (nI 1) dL_law_600 (by decide +kernel) ?_
        refine xn_iadd C dL_law_601 ?_
        refine x_sld C hX hbl hbA (j := 3 * t9 + 1) (by omega) (by omega) dL_law_602 ?_
        refine x_if_eq C 610 dL_law_603 (by decide) (fun h_25 => ?_) (fun h_25 => ?_)
        ·
          exact absurd h_25 hb
        ·
          refine x_iconst C (nI 1) dL_law_606 (by decide +kernel) ?_
          refine x_goto C 611 dL_law_607 (by decide) ?_
          refine x_calli (x_runV C hK hNW (c_m_reverse1 l D tys cI cJ cA hI hJ hR yo thr ri yt ys yf yc co dn yd nw np g0 g1 bw bp k0 k1 cw cp (by first | omega | assumption)) (cwV 1 C.2.2.2.2 gL_law_X5_reverse rfl rfl rfl (by decide +kernel) ⟨by decide, by decide⟩) [19, 21, 22, 23, 24, 25, 26, 27] rfl (by decide) 19 5 rfl rfl rfl (st := [.int (nI nw)]) rfl rfl (Nat.le_of_ble_eq_true rfl) dL_law_611 ⟨by first | decide | omega | exact (show _ ≤ 719372 by omega), by first | decide | omega | exact (show _ ≤ 6937989 by omega)⟩) hA [19, 21, 22, 23, 24, 25, 26, 27] rfl [0, 1, 2, 3, 4, 5, 6, 7, 8, 9, 10, 11, 12, 13, 14, 15, 16, 17, 18, 20, 28, 29] [(x, OB 4 [.ref qw, .ref qv, .ref qt, .int ri, .ref qd, .ref qc, .ref ql]), (qw, OB 3 [.ref wa, .ref wo, .int (nI nw)]), (wa, AI cI 40 (rvF bw 0 nw)), (wo, AI cI 40 (rvF cw 0 nw)), (qv, OB 3 [.ref pa, .ref po, .int (nI np)]), (pa, AI cI 40 bp), (po, AI cI 40 cp), (qt, AI cI 10 ti), (qd, OB 1 [.ref dr, .ref dk, .ref ds, .ref dt, .int (nI co), .int (nI dn)]), (dr, AJ cJ 40 fr), (dk, AJ cJ 40 fk), (ds, AI cI 40 fs), (dt, AI cI 40 ft), (qc, OB 0 [.ref ce, .ref cf, .int ven, .int vpn]), (ce, AJ cJ 40 fe), (cf, AI cI 41 ff), (ql, OB 2 [.ref le, .ref lp, .int vle, .int vlt]), (le, AJ cJ 80 fle), (lp, AJ cJ 80 flp), (yt, AI cI 10 ti), (yd, AJ cJ 40 fr), (out, AJ cJ 1 fo)] rfl (by decide) (by decide) [0, 1, 2, 3, 4, 5, 6, 7, 8, 9, 10, 11, 12, 13, 14, 15, 16, 17, 18, 22, 19, 23, 24, 25, 26, 27, 28, 29, 20, 21] (by decide) (wf := (fun (u : Unit) => [(x, OB 4 [.ref qw, .ref qv, .ref qt, .int ri, .ref qd, .ref qc, .ref ql]), (qw, OB 3 [.ref wa, .ref wo, .int (nI nw)]), (wa, AI cI 40 (rvF bw 0 nw)), (wo, AI cI 40 (rvF cw 0 nw)), (qv, OB 3 [.ref pa, .ref po, .int (nI np)]), (pa, AI cI 40 bp), (po, AI cI 40 cp), (qt, AI cI 10 ti), (qd, OB 1 [.ref dr, .ref dk, .ref ds, .ref dt, .int (nI co), .int (nI dn)]), (dr, AJ cJ 40 fr), (dk, AJ cJ 40 fk), (ds, AI cI 40 fs), (dt, AI cI 40 ft), (qc, OB 0 [.ref ce, .ref cf, .int ven, .int vpn]), (ce, AJ cJ 40 fe), (cf, AI cI 41 ff), (ql, OB 2 [.ref le, .ref lp, .int vle, .int vlt]), (le, AJ cJ 80 fle), (lp, AJ cJ 80 flp), (yo, OB 5 [.int (nI 0), .int ri, .ref yt, .ref ys, .ref yf, .ref yc, .int (nI co), .int (nI dn), .ref yd]), (yt, AI cI 10 ti), (ys, AI cI 2 (sz2 nw np)), (yf, AR cA 2 (gr2 g0 g1)), (g0, AI cI 40 (rvF bw 0 nw)), (g1, AI cI 40 bp), (yc, AR cA 2 (gr2 k0 k1)), (k0, AI cI 40 (rvF cw 0 nw)), (k1, AI cI 40 cp), (yd, AJ cJ 40 fr), (out, AJ cJ 1 fo)])) (fun _ => rfl) (fun r_26 u h_27 => ?_)
          refine x_widen ((40 + 90 * t9) + 3) ((1000 + 300 * t9) + 120) (by first | decide | omega) (by first | decide | omega) ?_
          subst h_27
          refine xn_icmp_eq C 1590 (by omega) (by omega) dL_law_614 (by decide) (fun h_28 => ?_) (fun h_28 => ?_)
          ·
            refine xn_iinc C ((3 * t9) + 3) [(4, .int (nI ((3 * t9) + 3))), (0, .ref b0), (1, .ref x), (2, .ref yo), (3, .ref out)] dL_law_1590 4 rfl (by rw [show Int32.ofInt 3 = nI 3 from by decide +kernel]; exact nI_add _ _) (by decide) rfl ?_
            refine x_goto C 23 dL_law_1593 (by decide) ?_
            refine x_lv [(0, .ref b0), (1, .ref x), (2, .ref yo), (3, .ref out), (4, .int (nI (3 * (t9 + 1))))] [1, 2, 3, 4, 0] (by rw [show 3 * (t9 + 1) = (3 * t9) + 3 from by first | rfl | omega]; rfl) ?_
            refine x_widen (40 + 90 * (t9 + 1)) (1000 + 300 * (t9 + 1)) (by first | decide | omega) (by first | decide | omega) ?_
            exact IH (nI 0) ri nw (rvF bw 0 nw) (rvF cw 0 nw) np bp cp ti co dn fr fk fs ft ven vpn fe ff vle vlt fle flp fo (by first | assumption | omega) (by first | assumption | omega) (by first | assumption | omega) (by first | assumption | omega) (by first | assumption | omega) (by exact oc_rv hbw (Nat.le_refl _)) (by exact oc_rv hcw (Nat.le_refl _)) (by first | assumption)
          ·
            exact absurd (rfl) h_28
set_option maxRecDepth 100000 in
set_option maxHeartbeats 8000000 in
theorem op_rotate {p : Program} {l : Launch} {e : Env} {s : State} {m : MethodId} {args : Array Value} {bel : List Frame} {meth : Method} {c : Code} {Q : State → Prop} {D : va_G} {A : Nat → Prop} {H0 : Heap} {tys : List (ClassId × FieldType)} {cI cJ cA cW : ClassId} {b0 L9 : Nat} {xs : Nat → Int32} (hl0 : l.stackTraces = false) (hI : tys[0]? = some (cI, .int)) (hJ : tys[1]? = some (cJ, .long)) (hR : tys[2]? = some (cA, .array .int)) (hB : tys[3]? = some (cW, .array .long)) (C : CallFix p m c cL_law 9 s args wsL_law RL) (hK : va_K D vwCl tys s) (hNW : NW s) (hH0 : H0 = s.heap) (hA : ∀ q, H0.size ≤ q → A q) (hZ : ZQ A s s.heap) (hNC : NC3 s) (hX : va_X b0 L9 xs s H0) (hbl : b0 < H0.size) (hbA : ¬ A b0) (hL : L9 ≤ 1536) {x qw wa wo qv pa po qt qd dr dk ds dt qc ce cf ql le lp yo yt ys yf g0 g1 yc k0 k1 yd out : Nat} (thr : Int32) (ri : Int32) (nw : Nat) (bw : Nat → Int32) (cw : Nat → Int32) (np : Nat) (bp : Nat → Int32) (cp : Nat → Int32) (ti : Nat → Int32) (co : Nat) (dn : Nat) (fr : Nat → Int64) (fk : Nat → Int64) (fs : Nat → Int32) (ft : Nat → Int32) (ven : Int32) (vpn : Int32) (fe : Nat → Int64) (ff : Nat → Int32) (vle : Int32) (vlt : Int32) (fle : Nat → Int64) (flp : Nat → Int64) (fo : Nat → Int64) (hnw : nw ≤ 40) (hnp : np ≤ 40) (hco : co ≤ 40) (hdn : dn ≤ 40) (hri : ri = 0 ∨ ri = 1) (hbw : oc8 nw bw) (hcw : oc8 nw cw) (hcp : oc8 np cp) (t9 : Nat) (ht9 : 3 * t9 + 3 ≤ L9) (IH : ∀ (thr : Int32) (ri : Int32) (nw : Nat) (bw : Nat → Int32) (cw : Nat → Int32) (np : Nat) (bp : Nat → Int32) (cp : Nat → Int32) (ti : Nat → Int32) (co : Nat) (dn : Nat) (fr : Nat → Int64) (fk : Nat → Int64) (fs : Nat → Int32) (ft : Nat → Int32) (ven : Int32) (vpn : Int32) (fe : Nat → Int64) (ff : Nat → Int32) (vle : Int32) (vlt : Int32) (fle : Nat → Int64) (flp : Nat → Int64) (fo : Nat → Int64), (nw ≤ 40) → (np ≤ 40) → (co ≤ 40) → (dn ≤ 40) → (ri = 0 ∨ ri = 1) → (oc8 nw bw) → (oc8 nw cw) → (oc8 np cp) → X_ p l e room_1 s m args bel meth c Q D A H0 9 (40 + 90 * (t9 + 1)) (1000 + 300 * (t9 + 1)) [(x, OB 4 [.ref qw, .ref qv, .ref qt, .int ri, .ref qd, .ref qc, .ref ql]), (qw, OB 3 [.ref wa, .ref wo, .int (nI nw)]), (wa, AI cI 40 bw), (wo, AI cI 40 cw), (qv, OB 3 [.ref pa, .ref po, .int (nI np)]), (pa, AI cI 40 bp), (po, AI cI 40 cp), (qt, AI cI 10 ti), (qd, OB 1 [.ref dr, .ref dk, .ref ds, .ref dt, .int (nI co), .int (nI dn)]), (dr, AJ cJ 40 fr), (dk, AJ cJ 40 fk), (ds, AI cI 40 fs), (dt, AI cI 40 ft), (qc, OB 0 [.ref ce, .ref cf, .int ven, .int vpn]), (ce, AJ cJ 40 fe), (cf, AI cI 41 ff), (ql, OB 2 [.ref le, .ref lp, .int vle, .int vlt]), (le, AJ cJ 80 fle), (lp, AJ cJ 80 flp), (yo, OB 5 [.int thr, .int ri, .ref yt, .ref ys, .ref yf, .ref yc, .int (nI co), .int (nI dn), .ref yd]), (yt, AI cI 10 ti), (ys, AI cI 2 (sz2 nw np)), (yf, AR cA 2 (gr2 g0 g1)), (g0, AI cI 40 bw), (g1, AI cI 40 bp), (yc, AR cA 2 (gr2 k0 k1)), (k0, AI cI 40 cw), (k1, AI cI 40 cp), (yd, AJ cJ 40 fr), (out, AJ cJ 1 fo)] [(0, .ref b0), (1, .ref x), (2, .ref yo), (3, .ref out), (4, .int (nI (3 * (t9 + 1))))] 23 []) : X_ p l e room_1 s m args bel meth c Q D A H0 9 (40 + 90 * t9) (1000 + 300 * t9) [(x, OB 4 [.ref qw, .ref qv, .ref qt, .int ri, .ref qd, .ref qc, .ref ql]), (qw, OB 3 [.ref wa, .ref wo, .int (nI nw)]), (wa, AI cI 40 bw), (wo, AI cI 40 cw), (qv, OB 3 [.ref pa, .ref po, .int (nI np)]), (pa, AI cI 40 bp), (po, AI cI 40 cp), (qt, AI cI 10 ti), (qd, OB 1 [.ref dr, .ref dk, .ref ds, .ref dt, .int (nI co), .int (nI dn)]), (dr, AJ cJ 40 fr), (dk, AJ cJ 40 fk), (ds, AI cI 40 fs), (dt, AI cI 40 ft), (qc, OB 0 [.ref ce, .ref cf, .int ven, .int vpn]), (ce, AJ cJ 40 fe), (cf, AI cI 41 ff), (ql, OB 2 [.ref le, .ref lp, .int vle, .int vlt]), (le, AJ cJ 80 fle), (lp, AJ cJ 80 flp), (yo, OB 5 [.int thr, .int ri, .ref yt, .ref ys, .ref yf, .ref yc, .int (nI co), .int (nI dn), .ref yd]), (yt, AI cI 10 ti), (ys, AI cI 2 (sz2 nw np)), (yf, AR cA 2 (gr2 g0 g1)), (g0, AI cI 40 bw), (g1, AI cI 40 bp), (yc, AR cA 2 (gr2 k0 k1)), (k0, AI cI 40 cw), (k1, AI cI 40 cp), (yd, AJ cJ 40 fr), (out, AJ cJ 1 fo)] [(0, .ref b0), (1, .ref x), (2, .ref yo), (3, .ref out), (4, .int (nI (3 * t9)))] 619 [] := by
  by_cases hb : xs (3 * t9 + 1) = 0
  ·
    cases h2 : below (xs (3 * t9 + 2)) 41
    ·
      refine x_aload_n C dL_law_619 rfl 1 rfl ?_
      refine x_aload_n C dL_law_620 rfl 0 rfl ?_
      refine x_iload C dL_law_621 4 rfl ?_
      refine x_iconst C (nI 1) dL_law_623 (by decide +kernel) ?_
      refine xn_iadd C dL_law_624 ?_
      refine x_sld C hX hbl hbA (j := 3 * t9 + 1) (by omega) (by omega) dL_law_625 ?_
      refine x_if_eq C 633 dL_law_626 (by decide) (fun h_1 => ?_) (fun h_1 => ?_)
      ·
        refine x_iconst C (nI 0) dL_law_633 (by decide +kernel) ?_
        refine x_aload_n C dL_law_634 rfl 0 rfl ?_
        refine x_iload C dL_law_635 4 rfl ?_
        refine x_iconst C (nI 2) dL_law_637 (by decide +kernel) ?_
        refine xn_iadd C dL_law_638 ?_
        refine x_sld C hX hbl hbA (j := 3 * t9 + 2) (by omega) (by omega) dL_law_639 ?_
        refine x_aload_n C dL_law_640 rfl 3 rfl ?_
        refine x_calliW (x_runSWW C hK hNW hH0 hZ hNC hA (c_w_rotateX l hl0 D tys cI cJ hI hJ x qw qv qt ri qd qc ql (nI 0) (xs (3 * t9 + 2)) out fo (by first | omega | assumption)) (vx_cwSW 4 C.2.2.2.2 gL_law_L_rotate rfl rfl rfl (by decide +kernel) ⟨by decide, by decide⟩) [0, 29] rfl (by decide) (st := []) rfl rfl (Nat.le_of_ble_eq_true rfl) dL_law_641 ⟨by first | decide | omega | exact (show _ ≤ 719372 by omega), by first | decide | omega | exact (show _ ≤ 6937989 by omega)⟩) hA [0, 29] rfl [1, 2, 3, 4, 5, 6, 7, 8, 9, 10, 11, 12, 13, 14, 15, 16, 17, 18, 19, 20, 21, 22, 23, 24, 25, 26, 27, 28] [(qw, OB 3 [.ref wa, .ref wo, .int (nI nw)]), (wa, AI cI 40 bw), (wo, AI cI 40 cw), (qv, OB 3 [.ref pa, .ref po, .int (nI np)]), (pa, AI cI 40 bp), (po, AI cI 40 cp), (qt, AI cI 10 ti), (qd, OB 1 [.ref dr, .ref dk, .ref ds, .ref dt, .int (nI co), .int (nI dn)]), (dr, AJ cJ 40 fr), (dk, AJ cJ 40 fk), (ds, AI cI 40 fs), (dt, AI cI 40 ft), (qc, OB 0 [.ref ce, .ref cf, .int ven, .int vpn]), (ce, AJ cJ 40 fe), (cf, AI cI 41 ff), (ql, OB 2 [.ref le, .ref lp, .int vle, .int vlt]), (le, AJ cJ 80 fle), (lp, AJ cJ 80 flp), (yo, OB 5 [.int thr, .int ri, .ref yt, .ref ys, .ref yf, .ref yc, .int (nI co), .int (nI dn), .ref yd]), (yt, AI cI 10 ti), (ys, AI cI 2 (sz2 nw np)), (yf, AR cA 2 (gr2 g0 g1)), (g0, AI cI 40 bw), (g1, AI cI 40 bp), (yc, AR cA 2 (gr2 k0 k1)), (k0, AI cI 40 cw), (k1, AI cI 40 cp), (yd, AJ cJ 40 fr)] rfl (by decide) (by decide) [28, 0, 1, 2, 3, 4, 5, 6, 7, 8, 9, 10, 11, 12, 13, 14, 15, 16, 17, 18, 19, 20, 21, 22, 23, 24, 25, 26, 27, 29] (by decide) (wf := (fun (u : Unit) => [(x, OB 4 [.ref qw, .ref qv, .ref qt, .int ri, .ref qd, .ref qc, .ref ql]), (qw, OB 3 [.ref wa, .ref wo, .int (nI nw)]), (wa, AI cI 40 bw), (wo, AI cI 40 cw), (qv, OB 3 [.ref pa, .ref po, .int (nI np)]), (pa, AI cI 40 bp), (po, AI cI 40 cp), (qt, AI cI 10 ti), (qd, OB 1 [.ref dr, .ref dk, .ref ds, .ref dt, .int (nI co), .int (nI dn)]), (dr, AJ cJ 40 fr), (dk, AJ cJ 40 fk), (ds, AI cI 40 fs), (dt, AI cI 40 ft), (qc, OB 0 [.ref ce, .ref cf, .int ven, .int vpn]), (ce, AJ cJ 40 fe), (cf, AI cI 41 ff), (ql, OB 2 [.ref le, .ref lp, .int vle, .int vlt]), (le, AJ cJ 80 fle), (lp, AJ cJ 80 flp), (yo, OB 5 [.int thr, .int ri, .ref yt, .ref ys, .ref yf, .ref yc, .int (nI co), .int (nI dn), .ref yd]), (yt, AI cI 10 ti), (ys, AI cI 2 (sz2 nw np)), (yf, AR cA 2 (gr2 g0 g1)), (g0, AI cI 40 bw), (g1, AI cI 40 bp), (yc, AR cA 2 (gr2 k0 k1)), (k0, AI cI 40 cw), (k1, AI cI 40 cp), (yd, AJ cJ 40 fr), (out, AJ cJ 1 fo)])) (fun _ => rfl) (fun r_2 u h_3 => ?_)
        refine x_widen ((40 + 90 * t9) + 1) ((1000 + 300 * t9) + 6) (by first | decide | omega) (by first | decide | omega) ?_
        subst h_3
        refine x_istore C [(5, .int (nI 1)), (0, .ref b0), (1, .ref x), (2, .ref yo), (3, .ref out), (4, .int (nI (3 * t9)))] dL_law_644 (by decide) rfl ?_
        refine x_aload_n C dL_law_646 rfl 3 rfl ?_
        refine x_aload_n C dL_law_647 rfl 1 rfl ?_
        refine x_iload C dL_law_648 5 rfl ?_
        refine x_iconst C (nI 1) dL_law_650 (by decide +kernel) ?_
        refine xn_iadd C dL_law_651 ?_
        refine x_sld C hX hbl hbA (j := 3 * t9 + 1) (by omega) (by omega) dL_law_652 ?_
        refine x_if_eq C 660 dL_law_653 (by decide) (fun h_4 => ?_) (fun h_4 => ?_)
        ·
          refine x_iconst C (nI 0) dL_law_660 (by decide +kernel) ?_
          refine x_aload_n C dL_law_661 rfl 1 rfl ?_
          refine x_iload C dL_law_662 5 rfl ?_
          refine x_iconst C (nI 2) dL_law_664 (by decide +kernel) ?_
          refine xn_iadd C dL_law_665 ?_
          refine x_sld C hX hbl hbA (j := 3 * t9 + 2) (by omega) (by omega) dL_law_666 ?_
          refine x_calli (x_runV C hK hNW (c_m_rotateX l D tys cI cJ cA hI hJ hR yo thr ri yt ys yf yc co dn yd (nI 0) (xs (3 * t9 + 2)) (by first | omega | assumption)) (cwV 2 C.2.2.2.2 gL_law_X5_rotate rfl rfl rfl (by decide +kernel) ⟨by decide, by decide⟩) [19] rfl (by decide) 19 5 rfl rfl rfl (st := []) rfl rfl (Nat.le_of_ble_eq_true rfl) dL_law_667 ⟨by first | decide | omega | exact (show _ ≤ 719372 by omega), by first | decide | omega | exact (show _ ≤ 6937989 by omega)⟩) hA [19] rfl [0, 1, 2, 3, 4, 5, 6, 7, 8, 9, 10, 11, 12, 13, 14, 15, 16, 17, 18, 20, 21, 22, 23, 24, 25, 26, 27, 28, 29] [(x, OB 4 [.ref qw, .ref qv, .ref qt, .int ri, .ref qd, .ref qc, .ref ql]), (qw, OB 3 [.ref wa, .ref wo, .int (nI nw)]), (wa, AI cI 40 bw), (wo, AI cI 40 cw), (qv, OB 3 [.ref pa, .ref po, .int (nI np)]), (pa, AI cI 40 bp), (po, AI cI 40 cp), (qt, AI cI 10 ti), (qd, OB 1 [.ref dr, .ref dk, .ref ds, .ref dt, .int (nI co), .int (nI dn)]), (dr, AJ cJ 40 fr), (dk, AJ cJ 40 fk), (ds, AI cI 40 fs), (dt, AI cI 40 ft), (qc, OB 0 [.ref ce, .ref cf, .int ven, .int vpn]), (ce, AJ cJ 40 fe), (cf, AI cI 41 ff), (ql, OB 2 [.ref le, .ref lp, .int vle, .int vlt]), (le, AJ cJ 80 fle), (lp, AJ cJ 80 flp), (yt, AI cI 10 ti), (ys, AI cI 2 (sz2 nw np)), (yf, AR cA 2 (gr2 g0 g1)), (g0, AI cI 40 bw), (g1, AI cI 40 bp), (yc, AR cA 2 (gr2 k0 k1)), (k0, AI cI 40 cw), (k1, AI cI 40 cp), (yd, AJ cJ 40 fr), (out, AJ cJ 1 fo)] rfl (by decide) (by decide) [0, 1, 2, 3, 4, 5, 6, 7, 8, 9, 10, 11, 12, 13, 14, 15, 16, 17, 18, 29, 19, 20, 21, 22, 23, 24, 25, 26, 27, 28] (by decide) (wf := (fun (u : Unit) => [(x, OB 4 [.ref qw, .ref qv, .ref qt, .int ri, .ref qd, .ref qc, .ref ql]), (qw, OB 3 [.ref wa, .ref wo, .int (nI nw)]), (wa, AI cI 40 bw), (wo, AI cI 40 cw), (qv, OB 3 [.ref pa, .ref po, .int (nI np)]), (pa, AI cI 40 bp), (po, AI cI 40 cp), (qt, AI cI 10 ti), (qd, OB 1 [.ref dr, .ref dk, .ref ds, .ref dt, .int (nI co), .int (nI dn)]), (dr, AJ cJ 40 fr), (dk, AJ cJ 40 fk), (ds, AI cI 40 fs), (dt, AI cI 40 ft), (qc, OB 0 [.ref ce, .ref cf, .int ven, .int vpn]), (ce, AJ cJ 40 fe), (cf, AI cI 41 ff), (ql, OB 2 [.ref le, .ref lp, .int vle, .int vlt]), (le, AJ cJ 80 fle), (lp, AJ cJ 80 flp), (yo, OB 5 [.int (nI 1), .int ri, .ref yt, .ref ys, .ref yf, .ref yc, .int (nI co), .int (nI dn), .ref yd]), (yt, AI cI 10 ti), (ys, AI cI 2 (sz2 nw np)), (yf, AR cA 2 (gr2 g0 g1)), (g0, AI cI 40 bw), (g1, AI cI 40 bp), (yc, AR cA 2 (gr2 k0 k1)), (k0, AI cI 40 cw), (k1, AI cI 40 cp), (yd, AJ cJ 40 fr), (out, AJ cJ 1 fo)])) (fun _ => rfl) (fun r_5 u h_6 => ?_)
          refine x_widen ((40 + 90 * t9) + 1) ((1000 + 300 * t9) + 6) (by first | decide | omega) (by first | decide | omega) ?_
          subst h_6
          refine x_istore C [(6, .int (nI 0)), (5, .int (nI 1)), (0, .ref b0), (1, .ref x), (2, .ref yo), (3, .ref out), (4, .int (nI (3 * t9)))] dL_law_670 (by decide) rfl ?_
          refine x_aload_n C dL_law_672 rfl 4 rfl ?_
          refine x_calli (x_runV C hK hNW (c_m_thrown l D tys cI cJ cA hI hJ hR yo (nI 1) ri yt ys yf yc co dn yd ) (cwV 0 C.2.2.2.2 gL_law_X5_thrown rfl rfl rfl (by decide +kernel) ⟨by decide, by decide⟩) [19] rfl (by decide) 19 5 rfl rfl rfl (st := []) rfl rfl (Nat.le_of_ble_eq_true rfl) dL_law_673 ⟨by first | decide | omega | exact (show _ ≤ 719372 by omega), by first | decide | omega | exact (show _ ≤ 6937989 by omega)⟩) hA [19] rfl [0, 1, 2, 3, 4, 5, 6, 7, 8, 9, 10, 11, 12, 13, 14, 15, 16, 17, 18, 20, 21, 22, 23, 24, 25, 26, 27, 28, 29] [(x, OB 4 [.ref qw, .ref qv, .ref qt, .int ri, .ref qd, .ref qc, .ref ql]), (qw, OB 3 [.ref wa, .ref wo, .int (nI nw)]), (wa, AI cI 40 bw), (wo, AI cI 40 cw), (qv, OB 3 [.ref pa, .ref po, .int (nI np)]), (pa, AI cI 40 bp), (po, AI cI 40 cp), (qt, AI cI 10 ti), (qd, OB 1 [.ref dr, .ref dk, .ref ds, .ref dt, .int (nI co), .int (nI dn)]), (dr, AJ cJ 40 fr), (dk, AJ cJ 40 fk), (ds, AI cI 40 fs), (dt, AI cI 40 ft), (qc, OB 0 [.ref ce, .ref cf, .int ven, .int vpn]), (ce, AJ cJ 40 fe), (cf, AI cI 41 ff), (ql, OB 2 [.ref le, .ref lp, .int vle, .int vlt]), (le, AJ cJ 80 fle), (lp, AJ cJ 80 flp), (yt, AI cI 10 ti), (ys, AI cI 2 (sz2 nw np)), (yf, AR cA 2 (gr2 g0 g1)), (g0, AI cI 40 bw), (g1, AI cI 40 bp), (yc, AR cA 2 (gr2 k0 k1)), (k0, AI cI 40 cw), (k1, AI cI 40 cp), (yd, AJ cJ 40 fr), (out, AJ cJ 1 fo)] rfl (by decide) (by decide) [0, 1, 2, 3, 4, 5, 6, 7, 8, 9, 10, 11, 12, 13, 14, 15, 16, 17, 18, 29, 19, 20, 21, 22, 23, 24, 25, 26, 27, 28] (by decide) (wf := (fun (u : Unit) => [(x, OB 4 [.ref qw, .ref qv, .ref qt, .int ri, .ref qd, .ref qc, .ref ql]), (qw, OB 3 [.ref wa, .ref wo, .int (nI nw)]), (wa, AI cI 40 bw), (wo, AI cI 40 cw), (qv, OB 3 [.ref pa, .ref po, .int (nI np)]), (pa, AI cI 40 bp), (po, AI cI 40 cp), (qt, AI cI 10 ti), (qd, OB 1 [.ref dr, .ref dk, .ref ds, .ref dt, .int (nI co), .int (nI dn)]), (dr, AJ cJ 40 fr), (dk, AJ cJ 40 fk), (ds, AI cI 40 fs), (dt, AI cI 40 ft), (qc, OB 0 [.ref ce, .ref cf, .int ven, .int vpn]), (ce, AJ cJ 40 fe), (cf, AI cI 41 ff), (ql, OB 2 [.ref le, .ref lp, .int vle, .int vlt]), (le, AJ cJ 80 fle), (lp, AJ cJ 80 flp), (yo, OB 5 [.int (nI 1), .int ri, .ref yt, .ref ys, .ref yf, .ref yc, .int (nI co), .int (nI dn), .ref yd]), (yt, AI cI 10 ti), (ys, AI cI 2 (sz2 nw np)), (yf, AR cA 2 (gr2 g0 g1)), (g0, AI cI 40 bw), (g1, AI cI 40 bp), (yc, AR cA 2 (gr2 k0 k1)), (k0, AI cI 40 cw), (k1, AI cI 40 cp), (yd, AJ cJ 40 fr), (out, AJ cJ 1 fo)])) (fun _ => rfl) (fun r_7 u h_8 => ?_)
          refine x_widen ((40 + 90 * t9) + 1) ((1000 + 300 * t9) + 6) (by first | decide | omega) (by first | decide | omega) ?_
          subst h_8
          refine x_iload C dL_law_676 1 rfl ?_
          refine xn_icmp_eq C 683 (by omega) (by omega) dL_law_678 (by decide) (fun h_9 => ?_) (fun h_9 => ?_)
          ·
            refine x_iload C dL_law_683 1 rfl ?_
            refine xn_if_ne C 700 (by omega) dL_law_685 (by decide) (fun h_10 => ?_) (fun h_10 => ?_)
            ·
              refine x_goto C 1590 dL_law_700 (by decide) ?_
              refine xn_iinc C ((3 * t9) + 3) [(4, .int (nI ((3 * t9) + 3))), (6, .int (nI 0)), (5, .int (nI 1)), (0, .ref b0), (1, .ref x), (2, .ref yo), (3, .ref out)] dL_law_1590 6 rfl (by rw [show Int32.ofInt 3 = nI 3 from by decide +kernel]; exact nI_add _ _) (by decide) rfl ?_
              refine x_goto C 23 dL_law_1593 (by decide) ?_
              refine x_lv [(0, .ref b0), (1, .ref x), (2, .ref yo), (3, .ref out), (4, .int (nI (3 * (t9 + 1))))] [3, 4, 5, 6, 0] (by rw [show 3 * (t9 + 1) = (3 * t9) + 3 from by first | rfl | omega]; rfl) ?_
              refine x_widen (40 + 90 * (t9 + 1)) (1000 + 300 * (t9 + 1)) (by first | decide | omega) (by first | decide | omega) ?_
              exact IH (nI 1) ri nw bw cw np bp cp ti co dn fr fk fs ft ven vpn fe ff vle vlt fle flp fo (by first | assumption | omega) (by first | assumption | omega) (by first | assumption | omega) (by first | assumption | omega) (by first | assumption | omega) (by first | assumption) (by first | assumption) (by first | assumption)
            ·
              exact absurd h_10 (by first | decide | omega)
          ·
            exact absurd h_9 (by first | decide | omega)
        ·
          exact absurd hb h_4
      ·
        exact absurd hb h_1
    ·
      obtain ⟨pl, hpl41, -, hpl⟩ := below_j h2
      rcases Nat.eq_zero_or_pos np with hz | hz
      ·
        subst hz
        refine x_aload_n C dL_law_619 rfl 1 rfl ?_
        refine x_aload_n C dL_law_620 rfl 0 rfl ?_
        refine x_iload C dL_law_621 4 rfl ?_
        refine x_iconst C (nI 1) dL_law_623 (by decide +kernel) ?_
        refine xn_iadd C dL_law_624 ?_
        refine x_sld C hX hbl hbA (j := 3 * t9 + 1) (by omega) (by omega) dL_law_625 ?_
        refine x_if_eq C 633 dL_law_626 (by decide) (fun h_11 => ?_) (fun h_11 => ?_)
        ·
          refine x_iconst C (nI 0) dL_law_633 (by decide +kernel) ?_
          refine x_aload_n C dL_law_634 rfl 0 rfl ?_
          refine x_iload C dL_law_635 4 rfl ?_
          refine x_iconst C (nI 2) dL_law_637 (by decide +kernel) ?_
          refine xn_iadd C dL_law_638 ?_
          refine x_sld C hX hbl hbA (j := 3 * t9 + 2) (by omega) (by omega) dL_law_639 ?_
          refine x_topi (nI pl) (by exact hpl) ?_
          refine x_aload_n C dL_law_640 rfl 3 rfl ?_
          refine x_calliW (x_runSWW C hK hNW hH0 hZ hNC hA (c_w_rotateZ0 l hl0 D tys cI cJ hI hJ x qw qv qt ri qd qc ql pa po bp cp pl out fo (by first | omega | assumption)) (vx_cwSW 4 C.2.2.2.2 gL_law_L_rotate rfl rfl rfl (by decide +kernel) ⟨by decide, by decide⟩) [0, 4, 5, 6, 29] rfl (by decide) (st := []) rfl rfl (Nat.le_of_ble_eq_true rfl) dL_law_641 ⟨by first | decide | omega | exact (show _ ≤ 719372 by omega), by first | decide | omega | exact (show _ ≤ 6937989 by omega)⟩) hA [0, 4, 5, 6, 29] rfl [1, 2, 3, 7, 8, 9, 10, 11, 12, 13, 14, 15, 16, 17, 18, 19, 20, 21, 22, 23, 24, 25, 26, 27, 28] [(qw, OB 3 [.ref wa, .ref wo, .int (nI nw)]), (wa, AI cI 40 bw), (wo, AI cI 40 cw), (qt, AI cI 10 ti), (qd, OB 1 [.ref dr, .ref dk, .ref ds, .ref dt, .int (nI co), .int (nI dn)]), (dr, AJ cJ 40 fr), (dk, AJ cJ 40 fk), (ds, AI cI 40 fs), (dt, AI cI 40 ft), (qc, OB 0 [.ref ce, .ref cf, .int ven, .int vpn]), (ce, AJ cJ 40 fe), (cf, AI cI 41 ff), (ql, OB 2 [.ref le, .ref lp, .int vle, .int vlt]), (le, AJ cJ 80 fle), (lp, AJ cJ 80 flp), (yo, OB 5 [.int thr, .int ri, .ref yt, .ref ys, .ref yf, .ref yc, .int (nI co), .int (nI dn), .ref yd]), (yt, AI cI 10 ti), (ys, AI cI 2 (sz2 nw 0)), (yf, AR cA 2 (gr2 g0 g1)), (g0, AI cI 40 bw), (g1, AI cI 40 bp), (yc, AR cA 2 (gr2 k0 k1)), (k0, AI cI 40 cw), (k1, AI cI 40 cp), (yd, AJ cJ 40 fr)] rfl (by decide) (by decide) [25, 0, 1, 2, 26, 27, 28, 3, 4, 5, 6, 7, 8, 9, 10, 11, 12, 13, 14, 15, 16, 17, 18, 19, 20, 21, 22, 23, 24, 29] (by decide) (wf := (fun (u : Unit) => [(x, OB 4 [.ref qw, .ref qv, .ref qt, .int ri, .ref qd, .ref qc, .ref ql]), (qw, OB 3 [.ref wa, .ref wo, .int (nI nw)]), (wa, AI cI 40 bw), (wo, AI cI 40 cw), (qv, OB 3 [.ref pa, .ref po, .int (nI 0)]), (pa, AI cI 40 bp), (po, AI cI 40 cp), (qt, AI cI 10 ti), (qd, OB 1 [.ref dr, .ref dk, .ref ds, .ref dt, .int (nI co), .int (nI dn)]), (dr, AJ cJ 40 fr), (dk, AJ cJ 40 fk), (ds, AI cI 40 fs), (dt, AI cI 40 ft), (qc, OB 0 [.ref ce, .ref cf, .int ven, .int vpn]), (ce, AJ cJ 40 fe), (cf, AI cI 41 ff), (ql, OB 2 [.ref le, .ref lp, .int vle, .int vlt]), (le, AJ cJ 80 fle), (lp, AJ cJ 80 flp), (yo, OB 5 [.int thr, .int ri, .ref yt, .ref ys, .ref yf, .ref yc, .int (nI co), .int (nI dn), .ref yd]), (yt, AI cI 10 ti), (ys, AI cI 2 (sz2 nw 0)), (yf, AR cA 2 (gr2 g0 g1)), (g0, AI cI 40 bw), (g1, AI cI 40 bp), (yc, AR cA 2 (gr2 k0 k1)), (k0, AI cI 40 cw), (k1, AI cI 40 cp), (yd, AJ cJ 40 fr), (out, AJ cJ 1 (vp_updL fo 0 (nI 0).toInt64))])) (fun _ => rfl) (fun r_12 u h_13 => ?_)
          refine x_widen ((40 + 90 * t9) + 1) ((1000 + 300 * t9) + 6) (by first | decide | omega) (by first | decide | omega) ?_
          subst h_13
          refine x_istore C [(5, .int (nI 0)), (0, .ref b0), (1, .ref x), (2, .ref yo), (3, .ref out), (4, .int (nI (3 * t9)))] dL_law_644 (by decide) rfl ?_
          refine x_aload_n C dL_law_646 rfl 3 rfl ?_
          refine x_aload_n C dL_law_647 rfl 1 rfl ?_
          refine x_iload C dL_law_648 5 rfl ?_
          refine x_iconst C (nI 1) dL_law_650 (by decide +kernel) ?_
          refine xn_iadd C dL_law_651 ?_
          refine x_sld C hX hbl hbA (j := 3 * t9 + 1) (by omega) (by omega) dL_law_652 ?_
          refine x_if_eq C 660 dL_law_653 (by decide) (fun h_14 => ?_) (fun h_14 => ?_)
          ·
            refine x_iconst C (nI 0) dL_law_660 (by decide +kernel) ?_
            refine x_aload_n C dL_law_661 rfl 1 rfl ?_
            refine x_iload C dL_law_662 5 rfl ?_
            refine x_iconst C (nI 2) dL_law_664 (by decide +kernel) ?_
            refine xn_iadd C dL_law_665 ?_
            refine x_sld C hX hbl hbA (j := 3 * t9 + 2) (by omega) (by omega) dL_law_666 ?_
            refine x_topi (nI pl) (by exact hpl) ?_
            refine x_calli (x_runV C hK hNW (c_m_rotateZ0 l D tys cI cJ cA hI hJ hR yo thr ri yt ys yf yc co dn yd nw g0 g1 bw bp k0 k1 cw cp pl (by first | omega | assumption)) (cwV 2 C.2.2.2.2 gL_law_X5_rotate rfl rfl rfl (by decide +kernel) ⟨by decide, by decide⟩) [19, 21, 22, 23, 24, 25, 26, 27] rfl (by decide) 19 5 rfl rfl rfl (st := []) rfl rfl (Nat.le_of_ble_eq_true rfl) dL_law_667 ⟨by first | decide | omega | exact (show _ ≤ 719372 by omega), by first | decide | omega | exact (show _ ≤ 6937989 by omega)⟩) hA [19, 21, 22, 23, 24, 25, 26, 27] rfl [0, 1, 2, 3, 4, 5, 6, 7, 8, 9, 10, 11, 12, 13, 14, 15, 16, 17, 18, 20, 28, 29] [(x, OB 4 [.ref qw, .ref qv, .ref qt, .int ri, .ref qd, .ref qc, .ref ql]), (qw, OB 3 [.ref wa, .ref wo, .int (nI nw)]), (wa, AI cI 40 bw), (wo, AI cI 40 cw), (qv, OB 3 [.ref pa, .ref po, .int (nI 0)]), (pa, AI cI 40 bp), (po, AI cI 40 cp), (qt, AI cI 10 ti), (qd, OB 1 [.ref dr, .ref dk, .ref ds, .ref dt, .int (nI co), .int (nI dn)]), (dr, AJ cJ 40 fr), (dk, AJ cJ 40 fk), (ds, AI cI 40 fs), (dt, AI cI 40 ft), (qc, OB 0 [.ref ce, .ref cf, .int ven, .int vpn]), (ce, AJ cJ 40 fe), (cf, AI cI 41 ff), (ql, OB 2 [.ref le, .ref lp, .int vle, .int vlt]), (le, AJ cJ 80 fle), (lp, AJ cJ 80 flp), (yt, AI cI 10 ti), (yd, AJ cJ 40 fr), (out, AJ cJ 1 (vp_updL fo 0 (nI 0).toInt64))] rfl (by decide) (by decide) [0, 1, 2, 3, 4, 5, 6, 7, 8, 9, 10, 11, 12, 13, 14, 15, 16, 17, 18, 22, 19, 23, 24, 25, 26, 27, 28, 29, 20, 21] (by decide) (wf := (fun (u : Unit) => [(x, OB 4 [.ref qw, .ref qv, .ref qt, .int ri, .ref qd, .ref qc, .ref ql]), (qw, OB 3 [.ref wa, .ref wo, .int (nI nw)]), (wa, AI cI 40 bw), (wo, AI cI 40 cw), (qv, OB 3 [.ref pa, .ref po, .int (nI 0)]), (pa, AI cI 40 bp), (po, AI cI 40 cp), (qt, AI cI 10 ti), (qd, OB 1 [.ref dr, .ref dk, .ref ds, .ref dt, .int (nI co), .int (nI dn)]), (dr, AJ cJ 40 fr), (dk, AJ cJ 40 fk), (ds, AI cI 40 fs), (dt, AI cI 40 ft), (qc, OB 0 [.ref ce, .ref cf, .int ven, .int vpn]), (ce, AJ cJ 40 fe), (cf, AI cI 41 ff), (ql, OB 2 [.ref le, .ref lp, .int vle, .int vlt]), (le, AJ cJ 80 fle), (lp, AJ cJ 80 flp), (yo, OB 5 [.int (nI 0), .int ri, .ref yt, .ref ys, .ref yf, .ref yc, .int (nI co), .int (nI dn), .ref yd]), (yt, AI cI 10 ti), (ys, AI cI 2 (sz2 nw 0)), (yf, AR cA 2 (gr2 g0 g1)), (g0, AI cI 40 bw), (g1, AI cI 40 bp), (yc, AR cA 2 (gr2 k0 k1)), (k0, AI cI 40 cw), (k1, AI cI 40 cp), (yd, AJ cJ 40 fr), (out, AJ cJ 1 (vp_updL fo 0 (nI 0).toInt64))])) (fun _ => rfl) (fun r_15 u h_16 => ?_)
            refine x_widen (((40 + 90 * t9) + 1) + 3) (((1000 + 300 * t9) + 6) + 120) (by first | decide | omega) (by first | decide | omega) ?_
            subst h_16
            refine x_istore C [(6, .int (nI 0)), (5, .int (nI 0)), (0, .ref b0), (1, .ref x), (2, .ref yo), (3, .ref out), (4, .int (nI (3 * t9)))] dL_law_670 (by decide) rfl ?_
            refine x_aload_n C dL_law_672 rfl 4 rfl ?_
            refine x_calli (x_runV C hK hNW (c_m_thrown l D tys cI cJ cA hI hJ hR yo (nI 0) ri yt ys yf yc co dn yd ) (cwV 0 C.2.2.2.2 gL_law_X5_thrown rfl rfl rfl (by decide +kernel) ⟨by decide, by decide⟩) [19] rfl (by decide) 19 5 rfl rfl rfl (st := []) rfl rfl (Nat.le_of_ble_eq_true rfl) dL_law_673 ⟨by first | decide | omega | exact (show _ ≤ 719372 by omega), by first | decide | omega | exact (show _ ≤ 6937989 by omega)⟩) hA [19] rfl [0, 1, 2, 3, 4, 5, 6, 7, 8, 9, 10, 11, 12, 13, 14, 15, 16, 17, 18, 20, 21, 22, 23, 24, 25, 26, 27, 28, 29] [(x, OB 4 [.ref qw, .ref qv, .ref qt, .int ri, .ref qd, .ref qc, .ref ql]), (qw, OB 3 [.ref wa, .ref wo, .int (nI nw)]), (wa, AI cI 40 bw), (wo, AI cI 40 cw), (qv, OB 3 [.ref pa, .ref po, .int (nI 0)]), (pa, AI cI 40 bp), (po, AI cI 40 cp), (qt, AI cI 10 ti), (qd, OB 1 [.ref dr, .ref dk, .ref ds, .ref dt, .int (nI co), .int (nI dn)]), (dr, AJ cJ 40 fr), (dk, AJ cJ 40 fk), (ds, AI cI 40 fs), (dt, AI cI 40 ft), (qc, OB 0 [.ref ce, .ref cf, .int ven, .int vpn]), (ce, AJ cJ 40 fe), (cf, AI cI 41 ff), (ql, OB 2 [.ref le, .ref lp, .int vle, .int vlt]), (le, AJ cJ 80 fle), (lp, AJ cJ 80 flp), (yt, AI cI 10 ti), (ys, AI cI 2 (sz2 nw 0)), (yf, AR cA 2 (gr2 g0 g1)), (g0, AI cI 40 bw), (g1, AI cI 40 bp), (yc, AR cA 2 (gr2 k0 k1)), (k0, AI cI 40 cw), (k1, AI cI 40 cp), (yd, AJ cJ 40 fr), (out, AJ cJ 1 (vp_updL fo 0 (nI 0).toInt64))] rfl (by decide) (by decide) [0, 1, 2, 3, 4, 5, 6, 7, 8, 9, 10, 11, 12, 13, 14, 15, 16, 17, 18, 29, 19, 20, 21, 22, 23, 24, 25, 26, 27, 28] (by decide) (wf := (fun (u : Unit) => [(x, OB 4 [.ref qw, .ref qv, .ref qt, .int ri, .ref qd, .ref qc, .ref ql]), (qw, OB 3 [.ref wa, .ref wo, .int (nI nw)]), (wa, AI cI 40 bw), (wo, AI cI 40 cw), (qv, OB 3 [.ref pa, .ref po, .int (nI 0)]), (pa, AI cI 40 bp), (po, AI cI 40 cp), (qt, AI cI 10 ti), (qd, OB 1 [.ref dr, .ref dk, .ref ds, .ref dt, .int (nI co), .int (nI dn)]), (dr, AJ cJ 40 fr), (dk, AJ cJ 40 fk), (ds, AI cI 40 fs), (dt, AI cI 40 ft), (qc, OB 0 [.ref ce, .ref cf, .int ven, .int vpn]), (ce, AJ cJ 40 fe), (cf, AI cI 41 ff), (ql, OB 2 [.ref le, .ref lp, .int vle, .int vlt]), (le, AJ cJ 80 fle), (lp, AJ cJ 80 flp), (yo, OB 5 [.int (nI 0), .int ri, .ref yt, .ref ys, .ref yf, .ref yc, .int (nI co), .int (nI dn), .ref yd]), (yt, AI cI 10 ti), (ys, AI cI 2 (sz2 nw 0)), (yf, AR cA 2 (gr2 g0 g1)), (g0, AI cI 40 bw), (g1, AI cI 40 bp), (yc, AR cA 2 (gr2 k0 k1)), (k0, AI cI 40 cw), (k1, AI cI 40 cp), (yd, AJ cJ 40 fr), (out, AJ cJ 1 (vp_updL fo 0 (nI 0).toInt64))])) (fun _ => rfl) (fun r_17 u h_18 => ?_)
            refine x_widen (((40 + 90 * t9) + 1) + 3) (((1000 + 300 * t9) + 6) + 120) (by first | decide | omega) (by first | decide | omega) ?_
            subst h_18
            refine x_iload C dL_law_676 1 rfl ?_
            refine xn_icmp_eq C 683 (by omega) (by omega) dL_law_678 (by decide) (fun h_19 => ?_) (fun h_19 => ?_)
            ·
              refine x_iload C dL_law_683 1 rfl ?_
              refine xn_if_ne C 700 (by omega) dL_law_685 (by decide) (fun h_20 => ?_) (fun h_20 => ?_)
              ·
                exact absurd h_20 (by first | decide | omega)
              ·
                refine x_aload_n C dL_law_688 rfl 5 rfl ?_
                refine x_iconst C (nI 0) dL_law_689 (by decide +kernel) ?_
                refine x_lald C hK 29 1 rfl hJ (by omega) (by omega) dL_law_690 ?_
                refine x_topl (nI 0).toInt64 (by exact pk_uLs) ?_
                refine x_iload C dL_law_691 0 rfl ?_
                refine x_i2l C _ dL_law_693 rfl ?_
                refine x_lcmp C dL_law_694 ?_
                refine x_if_eq C 700 dL_law_695 (by decide) (fun h_21 => ?_) (fun h_21 => ?_)
                ·
                  refine x_goto C 1590 dL_law_700 (by decide) ?_
                  refine xn_iinc C ((3 * t9) + 3) [(4, .int (nI ((3 * t9) + 3))), (6, .int (nI 0)), (5, .int (nI 0)), (0, .ref b0), (1, .ref x), (2, .ref yo), (3, .ref out)] dL_law_1590 6 rfl (by rw [show Int32.ofInt 3 = nI 3 from by decide +kernel]; exact nI_add _ _) (by decide) rfl ?_
                  refine x_goto C 23 dL_law_1593 (by decide) ?_
                  refine x_lv [(0, .ref b0), (1, .ref x), (2, .ref yo), (3, .ref out), (4, .int (nI (3 * (t9 + 1))))] [3, 4, 5, 6, 0] (by rw [show 3 * (t9 + 1) = (3 * t9) + 3 from by first | rfl | omega]; rfl) ?_
                  refine x_widen (40 + 90 * (t9 + 1)) (1000 + 300 * (t9 + 1)) (by first | decide | omega) (by first | decide | omega) ?_
                  exact IH (nI 0) ri nw bw cw 0 bp cp ti co dn fr fk fs ft ven vpn fe ff vle vlt fle flp (vp_updL fo 0 (nI 0).toInt64) (by first | assumption | omega) (by first | assumption | omega) (by first | assumption | omega) (by first | assumption | omega) (by first | assumption | omega) (by first | assumption) (by first | assumption) (by first | assumption)
                ·
                  exact absurd ((lg_cmp_eq _ _).mpr (rfl)) h_21
            ·
              exact absurd h_19 (by first | decide | omega)
          ·
            exact absurd hb h_14
        ·
          exact absurd hb h_11
      ·
        rcases Nat.eq_zero_or_pos (pl % np) with hm | hm
        ·
          refine x_aload_n C dL_law_619 rfl 1 rfl ?_
          refine x_aload_n C dL_law_620 rfl 0 rfl ?_
          refine x_iload C dL_law_621 4 rfl ?_
          refine x_iconst C (nI 1) dL_law_623 (by decide +kernel) ?_
          refine xn_iadd C dL_law_624 ?_
          refine x_sld C hX hbl hbA (j := 3 * t9 + 1) (by omega) (by omega) dL_law_625 ?_
          refine x_if_eq C 633 dL_law_626 (by decide) (fun h_22 => ?_) (fun h_22 => ?_)
          ·
            refine x_iconst C (nI 0) dL_law_633 (by decide +kernel) ?_
            refine x_aload_n C dL_law_634 rfl 0 rfl ?_
            refine x_iload C dL_law_635 4 rfl ?_
            refine x_iconst C (nI 2) dL_law_637 (by decide +kernel) ?_
            refine xn_iadd C dL_law_638 ?_
            refine x_sld C hX hbl hbA (j := 3 * t9 + 2) (by omega) (by omega) dL_law_639 ?_
            refine x_topi (nI pl) (by exact hpl) ?_
            refine x_aload_n C dL_law_640 rfl 3 rfl ?_
            refine x_calliW (x_runSWW C hK hNW hH0 hZ hNC hA (c_w_rotateB0 l hl0 D tys cI cJ hI hJ x qw qv qt ri qd qc ql pa po np bp cp pl out fo (by first | omega | assumption) (by first | omega | assumption) (by first | omega | assumption) (by first | omega | assumption)) (vx_cwSW 4 C.2.2.2.2 gL_law_L_rotate rfl rfl rfl (by decide +kernel) ⟨by decide, by decide⟩) [0, 4, 5, 6, 29] rfl (by decide) (st := []) rfl rfl (Nat.le_of_ble_eq_true rfl) dL_law_641 ⟨by first | decide | omega | exact (show _ ≤ 719372 by omega), by first | decide | omega | exact (show _ ≤ 6937989 by omega)⟩) hA [0, 4, 5, 6, 29] rfl [1, 2, 3, 7, 8, 9, 10, 11, 12, 13, 14, 15, 16, 17, 18, 19, 20, 21, 22, 23, 24, 25, 26, 27, 28] [(qw, OB 3 [.ref wa, .ref wo, .int (nI nw)]), (wa, AI cI 40 bw), (wo, AI cI 40 cw), (qt, AI cI 10 ti), (qd, OB 1 [.ref dr, .ref dk, .ref ds, .ref dt, .int (nI co), .int (nI dn)]), (dr, AJ cJ 40 fr), (dk, AJ cJ 40 fk), (ds, AI cI 40 fs), (dt, AI cI 40 ft), (qc, OB 0 [.ref ce, .ref cf, .int ven, .int vpn]), (ce, AJ cJ 40 fe), (cf, AI cI 41 ff), (ql, OB 2 [.ref le, .ref lp, .int vle, .int vlt]), (le, AJ cJ 80 fle), (lp, AJ cJ 80 flp), (yo, OB 5 [.int thr, .int ri, .ref yt, .ref ys, .ref yf, .ref yc, .int (nI co), .int (nI dn), .ref yd]), (yt, AI cI 10 ti), (ys, AI cI 2 (sz2 nw np)), (yf, AR cA 2 (gr2 g0 g1)), (g0, AI cI 40 bw), (g1, AI cI 40 bp), (yc, AR cA 2 (gr2 k0 k1)), (k0, AI cI 40 cw), (k1, AI cI 40 cp), (yd, AJ cJ 40 fr)] rfl (by decide) (by decide) [25, 0, 1, 2, 26, 27, 28, 3, 4, 5, 6, 7, 8, 9, 10, 11, 12, 13, 14, 15, 16, 17, 18, 19, 20, 21, 22, 23, 24, 29] (by decide) (wf := (fun (u : Unit) => [(x, OB 4 [.ref qw, .ref qv, .ref qt, .int ri, .ref qd, .ref qc, .ref ql]), (qw, OB 3 [.ref wa, .ref wo, .int (nI nw)]), (wa, AI cI 40 bw), (wo, AI cI 40 cw), (qv, OB 3 [.ref pa, .ref po, .int (nI np)]), (pa, AI cI 40 (rvF (rvF bp 0 np) 0 np)), (po, AI cI 40 (rvF (rvF cp 0 np) 0 np)), (qt, AI cI 10 ti), (qd, OB 1 [.ref dr, .ref dk, .ref ds, .ref dt, .int (nI co), .int (nI dn)]), (dr, AJ cJ 40 fr), (dk, AJ cJ 40 fk), (ds, AI cI 40 fs), (dt, AI cI 40 ft), (qc, OB 0 [.ref ce, .ref cf, .int ven, .int vpn]), (ce, AJ cJ 40 fe), (cf, AI cI 41 ff), (ql, OB 2 [.ref le, .ref lp, .int vle, .int vlt]), (le, AJ cJ 80 fle), (lp, AJ cJ 80 flp), (yo, OB 5 [.int thr, .int ri, .ref yt, .ref ys, .ref yf, .ref yc, .int (nI co), .int (nI dn), .ref yd]), (yt, AI cI 10 ti), (ys, AI cI 2 (sz2 nw np)), (yf, AR cA 2 (gr2 g0 g1)), (g0, AI cI 40 bw), (g1, AI cI 40 bp), (yc, AR cA 2 (gr2 k0 k1)), (k0, AI cI 40 cw), (k1, AI cI 40 cp), (yd, AJ cJ 40 fr), (out, AJ cJ 1 (vp_updL fo 0 (nI np).toInt64))])) (fun _ => rfl) (fun r_23 u h_24 => ?_)
            refine x_widen ((40 + 90 * t9) + 1) ((1000 + 300 * t9) + 6) (by first | decide | omega) (by first | decide | omega) ?_
            subst h_24
            refine x_istore C [(5, .int (nI 0)), (0, .ref b0), (1, .ref x), (2, .ref yo), (3, .ref out), (4, .int (nI (3 * t9)))] dL_law_644 (by decide) rfl ?_
            refine x_aload_n C dL_law_646 rfl 3 rfl ?_
            refine x_aload_n C dL_law_647 rfl 1 rfl ?_
            refine x_iload C dL_law_648 5 rfl ?_
            refine x_iconst C (nI 1) dL_law_650 (by decide +kernel) ?_
            refine xn_iadd C dL_law_651 ?_
            refine x_sld C hX hbl hbA (j := 3 * t9 + 1) (by omega) (by omega) dL_law_652 ?_
            refine x_if_eq C 660 dL_law_653 (by decide) (fun h_25 => ?_) (fun h_25 => ?_)
            ·
              refine x_iconst C (nI 0) dL_law_660 (by decide +kernel) ?_
              refine x_aload_n C dL_law_661 rfl 1 rfl ?_
              refine x_iload C dL_law_662 5 rfl ?_
              refine x_iconst C (nI 2) dL_law_664 (by decide +kernel) ?_
              refine xn_iadd C dL_law_665 ?_
              refine x_sld C hX hbl hbA (j := 3 * t9 + 2) (by omega) (by omega) dL_law_666 ?_
              refine x_topi (nI pl) (by exact hpl) ?_
              refine x_calli (x_runV C hK hNW (c_m_rotateB0 l D tys cI cJ cA hI hJ hR yo thr ri yt ys yf yc co dn yd nw np g0 g1 bw bp k0 k1 cw cp pl (by first | omega | assumption) (by first | omega | assumption) (by first | omega | assumption) (by first | omega | assumption)) (cwV 2 C.2.2.2.2 gL_law_X5_rotate rfl rfl rfl (by decide +kernel) ⟨by decide, by decide⟩) [19, 21, 22, 23, 24, 25, 26, 27] rfl (by decide) 19 5 rfl rfl rfl (st := []) rfl rfl (Nat.le_of_ble_eq_true rfl) dL_law_667 ⟨by first | decide | omega | exact (show _ ≤ 719372 by omega), by first | decide | omega | exact (show _ ≤ 6937989 by omega)⟩) hA [19, 21, 22, 23, 24, 25, 26, 27] rfl [0, 1, 2, 3, 4, 5, 6, 7, 8, 9, 10, 11, 12, 13, 14, 15, 16, 17, 18, 20, 28, 29] [(x, OB 4 [.ref qw, .ref qv, .ref qt, .int ri, .ref qd, .ref qc, .ref ql]), (qw, OB 3 [.ref wa, .ref wo, .int (nI nw)]), (wa, AI cI 40 bw), (wo, AI cI 40 cw), (qv, OB 3 [.ref pa, .ref po, .int (nI np)]), (pa, AI cI 40 (rvF (rvF bp 0 np) 0 np)), (po, AI cI 40 (rvF (rvF cp 0 np) 0 np)), (qt, AI cI 10 ti), (qd, OB 1 [.ref dr, .ref dk, .ref ds, .ref dt, .int (nI co), .int (nI dn)]), (dr, AJ cJ 40 fr), (dk, AJ cJ 40 fk), (ds, AI cI 40 fs), (dt, AI cI 40 ft), (qc, OB 0 [.ref ce, .ref cf, .int ven, .int vpn]), (ce, AJ cJ 40 fe), (cf, AI cI 41 ff), (ql, OB 2 [.ref le, .ref lp, .int vle, .int vlt]), (le, AJ cJ 80 fle), (lp, AJ cJ 80 flp), (yt, AI cI 10 ti), (yd, AJ cJ 40 fr), (out, AJ cJ 1 (vp_updL fo 0 (nI np).toInt64))] rfl (by decide) (by decide) [0, 1, 2, 3, 4, 5, 6, 7, 8, 9, 10, 11, 12, 13, 14, 15, 16, 17, 18, 22, 19, 23, 24, 25, 26, 27, 28, 29, 20, 21] (by decide) (wf := (fun (u : Unit) => [(x, OB 4 [.ref qw, .ref qv, .ref qt, .int ri, .ref qd, .ref qc, .ref ql]), (qw, OB 3 [.ref wa, .ref wo, .int (nI nw)]), (wa, AI cI 40 bw), (wo, AI cI 40 cw), (qv, OB 3 [.ref pa, .ref po, .int (nI np)]), (pa, AI cI 40 (rvF (rvF bp 0 np) 0 np)), (po, AI cI 40 (rvF (rvF cp 0 np) 0 np)), (qt, AI cI 10 ti), (qd, OB 1 [.ref dr, .ref dk, .ref ds, .ref dt, .int (nI co), .int (nI dn)]), (dr, AJ cJ 40 fr), (dk, AJ cJ 40 fk), (ds, AI cI 40 fs), (dt, AI cI 40 ft), (qc, OB 0 [.ref ce, .ref cf, .int ven, .int vpn]), (ce, AJ cJ 40 fe), (cf, AI cI 41 ff), (ql, OB 2 [.ref le, .ref lp, .int vle, .int vlt]), (le, AJ cJ 80 fle), (lp, AJ cJ 80 flp), (yo, OB 5 [.int (nI 0), .int ri, .ref yt, .ref ys, .ref yf, .ref yc, .int (nI co), .int (nI dn), .ref yd]), (yt, AI cI 10 ti), (ys, AI cI 2 (sz2 nw np)), (yf, AR cA 2 (gr2 g0 g1)), (g0, AI cI 40 bw), (g1, AI cI 40 (rvF (rvF bp 0 np) 0 np)), (yc, AR cA 2 (gr2 k0 k1)), (k0, AI cI 40 cw), (k1, AI cI 40 (rvF (rvF cp 0 np) 0 np)), (yd, AJ cJ 40 fr), (out, AJ cJ 1 (vp_updL fo 0 (nI np).toInt64))])) (fun _ => rfl) (fun r_26 u h_27 => ?_)
              refine x_widen (((40 + 90 * t9) + 1) + 3) (((1000 + 300 * t9) + 6) + 120) (by first | decide | omega) (by first | decide | omega) ?_
              subst h_27
              refine x_istore C [(6, .int (nI np)), (5, .int (nI 0)), (0, .ref b0), (1, .ref x), (2, .ref yo), (3, .ref out), (4, .int (nI (3 * t9)))] dL_law_670 (by decide) rfl ?_
              refine x_aload_n C dL_law_672 rfl 4 rfl ?_
              refine x_calli (x_runV C hK hNW (c_m_thrown l D tys cI cJ cA hI hJ hR yo (nI 0) ri yt ys yf yc co dn yd ) (cwV 0 C.2.2.2.2 gL_law_X5_thrown rfl rfl rfl (by decide +kernel) ⟨by decide, by decide⟩) [19] rfl (by decide) 19 5 rfl rfl rfl (st := []) rfl rfl (Nat.le_of_ble_eq_true rfl) dL_law_673 ⟨by first | decide | omega | exact (show _ ≤ 719372 by omega), by first | decide | omega | exact (show _ ≤ 6937989 by omega)⟩) hA [19] rfl [0, 1, 2, 3, 4, 5, 6, 7, 8, 9, 10, 11, 12, 13, 14, 15, 16, 17, 18, 20, 21, 22, 23, 24, 25, 26, 27, 28, 29] [(x, OB 4 [.ref qw, .ref qv, .ref qt, .int ri, .ref qd, .ref qc, .ref ql]), (qw, OB 3 [.ref wa, .ref wo, .int (nI nw)]), (wa, AI cI 40 bw), (wo, AI cI 40 cw), (qv, OB 3 [.ref pa, .ref po, .int (nI np)]), (pa, AI cI 40 (rvF (rvF bp 0 np) 0 np)), (po, AI cI 40 (rvF (rvF cp 0 np) 0 np)), (qt, AI cI 10 ti), (qd, OB 1 [.ref dr, .ref dk, .ref ds, .ref dt, .int (nI co), .int (nI dn)]), (dr, AJ cJ 40 fr), (dk, AJ cJ 40 fk), (ds, AI cI 40 fs), (dt, AI cI 40 ft), (qc, OB 0 [.ref ce, .ref cf, .int ven, .int vpn]), (ce, AJ cJ 40 fe), (cf, AI cI 41 ff), (ql, OB 2 [.ref le, .ref lp, .int vle, .int vlt]), (le, AJ cJ 80 fle), (lp, AJ cJ 80 flp), (yt, AI cI 10 ti), (ys, AI cI 2 (sz2 nw np)), (yf, AR cA 2 (gr2 g0 g1)), (g0, AI cI 40 bw), (g1, AI cI 40 (rvF (rvF bp 0 np) 0 np)), (yc, AR cA 2 (gr2 k0 k1)), (k0, AI cI 40 cw), (k1, AI cI 40 (rvF (rvF cp 0 np) 0 np)), (yd, AJ cJ 40 fr), (out, AJ cJ 1 (vp_updL fo 0 (nI np).toInt64))] rfl (by decide) (by decide) [0, 1, 2, 3, 4, 5, 6, 7, 8, 9, 10, 11, 12, 13, 14, 15, 16, 17, 18, 29, 19, 20, 21, 22, 23, 24, 25, 26, 27, 28] (by decide) (wf := (fun (u : Unit) => [(x, OB 4 [.ref qw, .ref qv, .ref qt, .int ri, .ref qd, .ref qc, .ref ql]), (qw, OB 3 [.ref wa, .ref wo, .int (nI nw)]), (wa, AI cI 40 bw), (wo, AI cI 40 cw), (qv, OB 3 [.ref pa, .ref po, .int (nI np)]), (pa, AI cI 40 (rvF (rvF bp 0 np) 0 np)), (po, AI cI 40 (rvF (rvF cp 0 np) 0 np)), (qt, AI cI 10 ti), (qd, OB 1 [.ref dr, .ref dk, .ref ds, .ref dt, .int (nI co), .int (nI dn)]), (dr, AJ cJ 40 fr), (dk, AJ cJ 40 fk), (ds, AI cI 40 fs), (dt, AI cI 40 ft), (qc, OB 0 [.ref ce, .ref cf, .int ven, .int vpn]), (ce, AJ cJ 40 fe), (cf, AI cI 41 ff), (ql, OB 2 [.ref le, .ref lp, .int vle, .int vlt]), (le, AJ cJ 80 fle), (lp, AJ cJ 80 flp), (yo, OB 5 [.int (nI 0), .int ri, .ref yt, .ref ys, .ref yf, .ref yc, .int (nI co), .int (nI dn), .ref yd]), (yt, AI cI 10 ti), (ys, AI cI 2 (sz2 nw np)), (yf, AR cA 2 (gr2 g0 g1)), (g0, AI cI 40 bw), (g1, AI cI 40 (rvF (rvF bp 0 np) 0 np)), (yc, AR cA 2 (gr2 k0 k1)), (k0, AI cI 40 cw), (k1, AI cI 40 (rvF (rvF cp 0 np) 0 np)), (yd, AJ cJ 40 fr), (out, AJ cJ 1 (vp_updL fo 0 (nI np).toInt64))])) (fun _ => rfl) (fun r_28 u h_29 => ?_)
              refine x_widen (((40 + 90 * t9) + 1) + 3) (((1000 + 300 * t9) + 6) + 120) (by first | decide | omega) (by first | decide | omega) ?_
              subst h_29
              refine x_iload C dL_law_676 1 rfl ?_
              refine xn_icmp_eq C 683 (by omega) (by omega) dL_law_678 (by decide) (fun h_30 => ?_) (fun h_30 => ?_)
              ·
                refine x_iload C dL_law_683 1 rfl ?_
                refine xn_if_ne C 700 (by omega) dL_law_685 (by decide) (fun h_31 => ?_) (fun h_31 => ?_)
                ·
                  exact absurd h_31 (by first | decide | omega)
                ·
                  refine x_aload_n C dL_law_688 rfl 5 rfl ?_
                  refine x_iconst C (nI 0) dL_law_689 (by decide +kernel) ?_
                  refine x_lald C hK 29 1 rfl hJ (by omega) (by omega) dL_law_690 ?_
                  refine x_topl (nI np).toInt64 (by exact pk_uLs) ?_
                  refine x_iload C dL_law_691 0 rfl ?_
                  refine x_i2l C _ dL_law_693 rfl ?_
                  refine x_lcmp C dL_law_694 ?_
                  refine x_if_eq C 700 dL_law_695 (by decide) (fun h_32 => ?_) (fun h_32 => ?_)
                  ·
                    refine x_goto C 1590 dL_law_700 (by decide) ?_
                    refine xn_iinc C ((3 * t9) + 3) [(4, .int (nI ((3 * t9) + 3))), (6, .int (nI np)), (5, .int (nI 0)), (0, .ref b0), (1, .ref x), (2, .ref yo), (3, .ref out)] dL_law_1590 6 rfl (by rw [show Int32.ofInt 3 = nI 3 from by decide +kernel]; exact nI_add _ _) (by decide) rfl ?_
                    refine x_goto C 23 dL_law_1593 (by decide) ?_
                    refine x_lv [(0, .ref b0), (1, .ref x), (2, .ref yo), (3, .ref out), (4, .int (nI (3 * (t9 + 1))))] [3, 4, 5, 6, 0] (by rw [show 3 * (t9 + 1) = (3 * t9) + 3 from by first | rfl | omega]; rfl) ?_
                    refine x_widen (40 + 90 * (t9 + 1)) (1000 + 300 * (t9 + 1)) (by first | decide | omega) (by first | decide | omega) ?_
                    exact IH (nI 0) ri nw bw cw np (rvF (rvF bp 0 np) 0 np) (rvF (rvF cp 0 np) 0 np) ti co dn fr fk fs ft ven vpn fe ff vle vlt fle flp (vp_updL fo 0 (nI np).toInt64) (by first | assumption | omega) (by first | assumption | omega) (by first | assumption | omega) (by first | assumption | omega) (by first | assumption | omega) (by first | assumption) (by first | assumption) (by exact oc_rv (oc_rv hcp (Nat.le_refl _)) (Nat.le_refl _))
                  ·
                    exact absurd ((lg_cmp_eq _ _).mpr (rfl)) h_32
              ·
                exact absurd h_30 (by first | decide | omega)
            ·
              exact absurd hb h_25
          ·
            exact absurd hb h_22
        ·
          refine x_aload_n C dL_law_619 rfl 1 rfl ?_
          refine x_aload_n C dL_law_620 rfl 0 rfl ?_
          refine x_iload C dL_law_621 4 rfl ?_
          refine x_iconst C (nI 1) dL_law_623 (by decide +kernel) ?_
          refine xn_iadd C dL_law_624 ?_
          refine x_sld C hX hbl hbA (j := 3 * t9 + 1) (by omega) (by omega) dL_law_625 ?_
          refine x_if_eq C 633 dL_law_626 (by decide) (fun h_33 => ?_) (fun h_33 => ?_)
          ·
            refine x_iconst C (nI 0) dL_law_633 (by decide +kernel) ?_
            refine x_aload_n C dL_law_634 rfl 0 rfl ?_
            refine x_iload C dL_law_635 4 rfl ?_
            refine x_iconst C (nI 2) dL_law_637 (by decide +kernel) ?_
            refine xn_iadd C dL_law_638 ?_
            refine x_sld C hX hbl hbA (j := 3 * t9 + 2) (by omega) (by omega) dL_law_639 ?_
            refine x_topi (nI pl) (by exact hpl) ?_
            refine x_aload_n C dL_law_640 rfl 3 rfl ?_
            refine x_calliW (x_runSWW C hK hNW hH0 hZ hNC hA (c_w_rotateA0 l hl0 D tys cI cJ hI hJ x qw qv qt ri qd qc ql pa po np bp cp pl out fo (by first | omega | assumption) (by first | omega | assumption) (by first | omega | assumption) (by first | omega | assumption)) (vx_cwSW 4 C.2.2.2.2 gL_law_L_rotate rfl rfl rfl (by decide +kernel) ⟨by decide, by decide⟩) [0, 4, 5, 6, 29] rfl (by decide) (st := []) rfl rfl (Nat.le_of_ble_eq_true rfl) dL_law_641 ⟨by first | decide | omega | exact (show _ ≤ 719372 by omega), by first | decide | omega | exact (show _ ≤ 6937989 by omega)⟩) hA [0, 4, 5, 6, 29] rfl [1, 2, 3, 7, 8, 9, 10, 11, 12, 13, 14, 15, 16, 17, 18, 19, 20, 21, 22, 23, 24, 25, 26, 27, 28] [(qw, OB 3 [.ref wa, .ref wo, .int (nI nw)]), (wa, AI cI 40 bw), (wo, AI cI 40 cw), (qt, AI cI 10 ti), (qd, OB 1 [.ref dr, .ref dk, .ref ds, .ref dt, .int (nI co), .int (nI dn)]), (dr, AJ cJ 40 fr), (dk, AJ cJ 40 fk), (ds, AI cI 40 fs), (dt, AI cI 40 ft), (qc, OB 0 [.ref ce, .ref cf, .int ven, .int vpn]), (ce, AJ cJ 40 fe), (cf, AI cI 41 ff), (ql, OB 2 [.ref le, .ref lp, .int vle, .int vlt]), (le, AJ cJ 80 fle), (lp, AJ cJ 80 flp), (yo, OB 5 [.int thr, .int ri, .ref yt, .ref ys, .ref yf, .ref yc, .int (nI co), .int (nI dn), .ref yd]), (yt, AI cI 10 ti), (ys, AI cI 2 (sz2 nw np)), (yf, AR cA 2 (gr2 g0 g1)), (g0, AI cI 40 bw), (g1, AI cI 40 bp), (yc, AR cA 2 (gr2 k0 k1)), (k0, AI cI 40 cw), (k1, AI cI 40 cp), (yd, AJ cJ 40 fr)] rfl (by decide) (by decide) [25, 0, 1, 2, 26, 27, 28, 3, 4, 5, 6, 7, 8, 9, 10, 11, 12, 13, 14, 15, 16, 17, 18, 19, 20, 21, 22, 23, 24, 29] (by decide) (wf := (fun (u : Unit) => [(x, OB 4 [.ref qw, .ref qv, .ref qt, .int ri, .ref qd, .ref qc, .ref ql]), (qw, OB 3 [.ref wa, .ref wo, .int (nI nw)]), (wa, AI cI 40 bw), (wo, AI cI 40 cw), (qv, OB 3 [.ref pa, .ref po, .int (nI np)]), (pa, AI cI 40 (rvF (rvF (rvF bp 0 np) 0 (pl % np)) (pl % np) np)), (po, AI cI 40 (rvF (rvF (rvF cp 0 np) 0 (pl % np)) (pl % np) np)), (qt, AI cI 10 ti), (qd, OB 1 [.ref dr, .ref dk, .ref ds, .ref dt, .int (nI co), .int (nI dn)]), (dr, AJ cJ 40 fr), (dk, AJ cJ 40 fk), (ds, AI cI 40 fs), (dt, AI cI 40 ft), (qc, OB 0 [.ref ce, .ref cf, .int ven, .int vpn]), (ce, AJ cJ 40 fe), (cf, AI cI 41 ff), (ql, OB 2 [.ref le, .ref lp, .int vle, .int vlt]), (le, AJ cJ 80 fle), (lp, AJ cJ 80 flp), (yo, OB 5 [.int thr, .int ri, .ref yt, .ref ys, .ref yf, .ref yc, .int (nI co), .int (nI dn), .ref yd]), (yt, AI cI 10 ti), (ys, AI cI 2 (sz2 nw np)), (yf, AR cA 2 (gr2 g0 g1)), (g0, AI cI 40 bw), (g1, AI cI 40 bp), (yc, AR cA 2 (gr2 k0 k1)), (k0, AI cI 40 cw), (k1, AI cI 40 cp), (yd, AJ cJ 40 fr), (out, AJ cJ 1 (vp_updL fo 0 (nI np).toInt64))])) (fun _ => rfl) (fun r_34 u h_35 => ?_)
            refine x_widen ((40 + 90 * t9) + 1) ((1000 + 300 * t9) + 6) (by first | decide | omega) (by first | decide | omega) ?_
            subst h_35
            refine x_istore C [(5, .int (nI 0)), (0, .ref b0), (1, .ref x), (2, .ref yo), (3, .ref out), (4, .int (nI (3 * t9)))] dL_law_644 (by decide) rfl ?_
            refine x_aload_n C dL_law_646 rfl 3 rfl ?_
            refine x_aload_n C dL_law_647 rfl 1 rfl ?_
            refine x_iload C dL_law_648 5 rfl ?_
            refine x_iconst C (nI 1) dL_law_650 (by decide +kernel) ?_
            refine xn_iadd C dL_law_651 ?_
            refine x_sld C hX hbl hbA (j := 3 * t9 + 1) (by omega) (by omega) dL_law_652 ?_
            refine x_if_eq C 660 dL_law_653 (by decide) (fun h_36 => ?_) (fun h_36 => ?_)
            ·
              refine x_iconst C (nI 0) dL_law_660 (by decide +kernel) ?_
              refine x_aload_n C dL_law_661 rfl 1 rfl ?_
              refine x_iload C dL_law_662 5 rfl ?_
              refine x_iconst C (nI 2) dL_law_664 (by decide +kernel) ?_
              refine xn_iadd C dL_law_665 ?_
              refine x_sld C hX hbl hbA (j := 3 * t9 + 2) (by omega) (by omega) dL_law_666 ?_
              refine x_topi (nI pl) (by exact hpl) ?_
              refine x_calli (x_runV C hK hNW (c_m_rotateA0 l D tys cI cJ cA hI hJ hR yo thr ri yt ys yf yc co dn yd nw np g0 g1 bw bp k0 k1 cw cp pl (by first | omega | assumption) (by first | omega | assumption) (by first | omega | assumption) (by first | omega | assumption)) (cwV 2 C.2.2.2.2 gL_law_X5_rotate rfl rfl rfl (by decide +kernel) ⟨by decide, by decide⟩) [19, 21, 22, 23, 24, 25, 26, 27] rfl (by decide) 19 5 rfl rfl rfl (st := []) rfl rfl (Nat.le_of_ble_eq_true rfl) dL_law_667 ⟨by first | decide | omega | exact (show _ ≤ 719372 by omega), by first | decide | omega | exact (show _ ≤ 6937989 by omega)⟩) hA [19, 21, 22, 23, 24, 25, 26, 27] rfl [0, 1, 2, 3, 4, 5, 6, 7, 8, 9, 10, 11, 12, 13, 14, 15, 16, 17, 18, 20, 28, 29] [(x, OB 4 [.ref qw, .ref qv, .ref qt, .int ri, .ref qd, .ref qc, .ref ql]), (qw, OB 3 [.ref wa, .ref wo, .int (nI nw)]), (wa, AI cI 40 bw), (wo, AI cI 40 cw), (qv, OB 3 [.ref pa, .ref po, .int (nI np)]), (pa, AI cI 40 (rvF (rvF (rvF bp 0 np) 0 (pl % np)) (pl % np) np)), (po, AI cI 40 (rvF (rvF (rvF cp 0 np) 0 (pl % np)) (pl % np) np)), (qt, AI cI 10 ti), (qd, OB 1 [.ref dr, .ref dk, .ref ds, .ref dt, .int (nI co), .int (nI dn)]), (dr, AJ cJ 40 fr), (dk, AJ cJ 40 fk), (ds, AI cI 40 fs), (dt, AI cI 40 ft), (qc, OB 0 [.ref ce, .ref cf, .int ven, .int vpn]), (ce, AJ cJ 40 fe), (cf, AI cI 41 ff), (ql, OB 2 [.ref le, .ref lp, .int vle, .int vlt]), (le, AJ cJ 80 fle), (lp, AJ cJ 80 flp), (yt, AI cI 10 ti), (yd, AJ cJ 40 fr), (out, AJ cJ 1 (vp_updL fo 0 (nI np).toInt64))] rfl (by decide) (by decide) [0, 1, 2, 3, 4, 5, 6, 7, 8, 9, 10, 11, 12, 13, 14, 15, 16, 17, 18, 22, 19, 23, 24, 25, 26, 27, 28, 29, 20, 21] (by decide) (wf := (fun (u : Unit) => [(x, OB 4 [.ref qw, .ref qv, .ref qt, .int ri, .ref qd, .ref qc, .ref ql]), (qw, OB 3 [.ref wa, .ref wo, .int (nI nw)]), (wa, AI cI 40 bw), (wo, AI cI 40 cw), (qv, OB 3 [.ref pa, .ref po, .int (nI np)]), (pa, AI cI 40 (rvF (rvF (rvF bp 0 np) 0 (pl % np)) (pl % np) np)), (po, AI cI 40 (rvF (rvF (rvF cp 0 np) 0 (pl % np)) (pl % np) np)), (qt, AI cI 10 ti), (qd, OB 1 [.ref dr, .ref dk, .ref ds, .ref dt, .int (nI co), .int (nI dn)]), (dr, AJ cJ 40 fr), (dk, AJ cJ 40 fk), (ds, AI cI 40 fs), (dt, AI cI 40 ft), (qc, OB 0 [.ref ce, .ref cf, .int ven, .int vpn]), (ce, AJ cJ 40 fe), (cf, AI cI 41 ff), (ql, OB 2 [.ref le, .ref lp, .int vle, .int vlt]), (le, AJ cJ 80 fle), (lp, AJ cJ 80 flp), (yo, OB 5 [.int (nI 0), .int ri, .ref yt, .ref ys, .ref yf, .ref yc, .int (nI co), .int (nI dn), .ref yd]), (yt, AI cI 10 ti), (ys, AI cI 2 (sz2 nw np)), (yf, AR cA 2 (gr2 g0 g1)), (g0, AI cI 40 bw), (g1, AI cI 40 (rvF (rvF (rvF bp 0 np) 0 (pl % np)) (pl % np) np)), (yc, AR cA 2 (gr2 k0 k1)), (k0, AI cI 40 cw), (k1, AI cI 40 (rvF (rvF (rvF cp 0 np) 0 (pl % np)) (pl % np) np)), (yd, AJ cJ 40 fr), (out, AJ cJ 1 (vp_updL fo 0 (nI np).toInt64))])) (fun _ => rfl) (fun r_37 u h_38 => ?_)
              refine x_widen (((40 + 90 * t9) + 1) + 3) (((1000 + 300 * t9) + 6) + 120) (by first | decide | omega) (by first | decide | omega) ?_
              subst h_38
              refine x_istore C [(6, .int (nI np)), (5, .int (nI 0)), (0, .ref b0), (1, .ref x), (2, .ref yo), (3, .ref out), (4, .int (nI (3 * t9)))] dL_law_670 (by decide) rfl ?_
              refine x_aload_n C dL_law_672 rfl 4 rfl ?_
              refine x_calli (x_runV C hK hNW (c_m_thrown l D tys cI cJ cA hI hJ hR yo (nI 0) ri yt ys yf yc co dn yd ) (cwV 0 C.2.2.2.2 gL_law_X5_thrown rfl rfl rfl (by decide +kernel) ⟨by decide, by decide⟩) [19] rfl (by decide) 19 5 rfl rfl rfl (st := []) rfl rfl (Nat.le_of_ble_eq_true rfl) dL_law_673 ⟨by first | decide | omega | exact (show _ ≤ 719372 by omega), by first | decide | omega | exact (show _ ≤ 6937989 by omega)⟩) hA [19] rfl [0, 1, 2, 3, 4, 5, 6, 7, 8, 9, 10, 11, 12, 13, 14, 15, 16, 17, 18, 20, 21, 22, 23, 24, 25, 26, 27, 28, 29] [(x, OB 4 [.ref qw, .ref qv, .ref qt, .int ri, .ref qd, .ref qc, .ref ql]), (qw, OB 3 [.ref wa, .ref wo, .int (nI nw)]), (wa, AI cI 40 bw), (wo, AI cI 40 cw), (qv, OB 3 [.ref pa, .ref po, .int (nI np)]), (pa, AI cI 40 (rvF (rvF (rvF bp 0 np) 0 (pl % np)) (pl % np) np)), (po, AI cI 40 (rvF (rvF (rvF cp 0 np) 0 (pl % np)) (pl % np) np)), (qt, AI cI 10 ti), (qd, OB 1 [.ref dr, .ref dk, .ref ds, .ref dt, .int (nI co), .int (nI dn)]), (dr, AJ cJ 40 fr), (dk, AJ cJ 40 fk), (ds, AI cI 40 fs), (dt, AI cI 40 ft), (qc, OB 0 [.ref ce, .ref cf, .int ven, .int vpn]), (ce, AJ cJ 40 fe), (cf, AI cI 41 ff), (ql, OB 2 [.ref le, .ref lp, .int vle, .int vlt]), (le, AJ cJ 80 fle), (lp, AJ cJ 80 flp), (yt, AI cI 10 ti), (ys, AI cI 2 (sz2 nw np)), (yf, AR cA 2 (gr2 g0 g1)), (g0, AI cI 40 bw), (g1, AI cI 40 (rvF (rvF (rvF bp 0 np) 0 (pl % np)) (pl % np) np)), (yc, AR cA 2 (gr2 k0 k1)), (k0, AI cI 40 cw), (k1, AI cI 40 (rvF (rvF (rvF cp 0 np) 0 (pl % np)) (pl % np) np)), (yd, AJ cJ 40 fr), (out, AJ cJ 1 (vp_updL fo 0 (nI np).toInt64))] rfl (by decide) (by decide) [0, 1, 2, 3, 4, 5, 6, 7, 8, 9, 10, 11, 12, 13, 14, 15, 16, 17, 18, 29, 19, 20, 21, 22, 23, 24, 25, 26, 27, 28] (by decide) (wf := (fun (u : Unit) => [(x, OB 4 [.ref qw, .ref qv, .ref qt, .int ri, .ref qd, .ref qc, .ref ql]), (qw, OB 3 [.ref wa, .ref wo, .int (nI nw)]), (wa, AI cI 40 bw), (wo, AI cI 40 cw), (qv, OB 3 [.ref pa, .ref po, .int (nI np)]), (pa, AI cI 40 (rvF (rvF (rvF bp 0 np) 0 (pl % np)) (pl % np) np)), (po, AI cI 40 (rvF (rvF (rvF cp 0 np) 0 (pl % np)) (pl % np) np)), (qt, AI cI 10 ti), (qd, OB 1 [.ref dr, .ref dk, .ref ds, .ref dt, .int (nI co), .int (nI dn)]), (dr, AJ cJ 40 fr), (dk, AJ cJ 40 fk), (ds, AI cI 40 fs), (dt, AI cI 40 ft), (qc, OB 0 [.ref ce, .ref cf, .int ven, .int vpn]), (ce, AJ cJ 40 fe), (cf, AI cI 41 ff), (ql, OB 2 [.ref le, .ref lp, .int vle, .int vlt]), (le, AJ cJ 80 fle), (lp, AJ cJ 80 flp), (yo, OB 5 [.int (nI 0), .int ri, .ref yt, .ref ys, .ref yf, .ref yc, .int (nI co), .int (nI dn), .ref yd]), (yt, AI cI 10 ti), (ys, AI cI 2 (sz2 nw np)), (yf, AR cA 2 (gr2 g0 g1)), (g0, AI cI 40 bw), (g1, AI cI 40 (rvF (rvF (rvF bp 0 np) 0 (pl % np)) (pl % np) np)), (yc, AR cA 2 (gr2 k0 k1)), (k0, AI cI 40 cw), (k1, AI cI 40 (rvF (rvF (rvF cp 0 np) 0 (pl % np)) (pl % np) np)), (yd, AJ cJ 40 fr), (out, AJ cJ 1 (vp_updL fo 0 (nI np).toInt64))])) (fun _ => rfl) (fun r_39 u h_40 => ?_)
              refine x_widen (((40 + 90 * t9) + 1) + 3) (((1000 + 300 * t9) + 6) + 120) (by first | decide | omega) (by first | decide | omega) ?_
              subst h_40
              refine x_iload C dL_law_676 1 rfl ?_
              refine xn_icmp_eq C 683 (by omega) (by omega) dL_law_678 (by decide) (fun h_41 => ?_) (fun h_41 => ?_)
              ·
                refine x_iload C dL_law_683 1 rfl ?_
                refine xn_if_ne C 700 (by omega) dL_law_685 (by decide) (fun h_42 => ?_) (fun h_42 => ?_)
                ·
                  exact absurd h_42 (by first | decide | omega)
                ·
                  refine x_aload_n C dL_law_688 rfl 5 rfl ?_
                  refine x_iconst C (nI 0) dL_law_689 (by decide +kernel) ?_
                  refine x_lald C hK 29 1 rfl hJ (by omega) (by omega) dL_law_690 ?_
                  refine x_topl (nI np).toInt64 (by exact pk_uLs) ?_
                  refine x_iload C dL_law_691 0 rfl ?_
                  refine x_i2l C _ dL_law_693 rfl ?_
                  refine x_lcmp C dL_law_694 ?_
                  refine x_if_eq C 700 dL_law_695 (by decide) (fun h_43 => ?_) (fun h_43 => ?_)
                  ·
                    refine x_goto C 1590 dL_law_700 (by decide) ?_
                    refine xn_iinc C ((3 * t9) + 3) [(4, .int (nI ((3 * t9) + 3))), (6, .int (nI np)), (5, .int (nI 0)), (0, .ref b0), (1, .ref x), (2, .ref yo), (3, .ref out)] dL_law_1590 6 rfl (by rw [show Int32.ofInt 3 = nI 3 from by decide +kernel]; exact nI_add _ _) (by decide) rfl ?_
                    refine x_goto C 23 dL_law_1593 (by decide) ?_
                    refine x_lv [(0, .ref b0), (1, .ref x), (2, .ref yo), (3, .ref out), (4, .int (nI (3 * (t9 + 1))))] [3, 4, 5, 6, 0] (by rw [show 3 * (t9 + 1) = (3 * t9) + 3 from by first | rfl | omega]; rfl) ?_
                    refine x_widen (40 + 90 * (t9 + 1)) (1000 + 300 * (t9 + 1)) (by first | decide | omega) (by first | decide | omega) ?_
                    exact IH (nI 0) ri nw bw cw np (rvF (rvF (rvF bp 0 np) 0 (pl % np)) (pl % np) np) (rvF (rvF (rvF cp 0 np) 0 (pl % np)) (pl % np) np) ti co dn fr fk fs ft ven vpn fe ff vle vlt fle flp (vp_updL fo 0 (nI np).toInt64) (by first | assumption | omega) (by first | assumption | omega) (by first | assumption | omega) (by first | assumption | omega) (by first | assumption | omega) (by first | assumption) (by first | assumption) (by exact oc_rv (oc_rv (oc_rv hcp (Nat.le_refl _)) (Nat.le_of_lt (Nat.mod_lt _ hz))) (Nat.le_refl _))
                  ·
                    exact absurd ((lg_cmp_eq _ _).mpr (rfl)) h_43
              ·
                exact absurd h_41 (by first | decide | omega)
            ·
              exact absurd hb h_36
          ·
            exact absurd hb h_33
  ·
    cases h2 : below (xs (3 * t9 + 2)) 41
    ·
      refine x_aload_n C dL_law_619 rfl 1 rfl ?_
      refine x_aload_n C dL_law_620 rfl 0 rfl ?_
      refine x_iload C dL_law_621 4 rfl ?_
      refine x_iconst C (nI 1) dL_law_623 (by decide +kernel) ?_
      refine xn_iadd C dL_law_624 ?_
      refine x_sld C hX hbl hbA (j := 3 * t9 + 1) (by omega) (by omega) dL_law_625 ?_
      refine x_if_eq C 633 dL_law_626 (by decide) (fun h_44 => ?_) (fun h_44 => ?_)
      ·
        exact absurd h_44 hb
      ·
        refine x_iconst C (nI 1) dL_law_629 (by decide +kernel) ?_
        refine x_goto C 634 dL_law_630 (by decide) ?_
        refine x_aload_n C dL_law_634 rfl 0 rfl ?_
        refine x_iload C dL_law_635 4 rfl ?_
        refine x_iconst C (nI 2) dL_law_637 (by decide +kernel) ?_
        refine xn_iadd C dL_law_638 ?_
        refine x_sld C hX hbl hbA (j := 3 * t9 + 2) (by omega) (by omega) dL_law_639 ?_
        refine x_aload_n C dL_law_640 rfl 3 rfl ?_
        refine x_calliW (x_runSWW C hK hNW hH0 hZ hNC hA (c_w_rotateX l hl0 D tys cI cJ hI hJ x qw qv qt ri qd qc ql (nI 1) (xs (3 * t9 + 2)) out fo (by first | omega | assumption)) (vx_cwSW 4 C.2.2.2.2 gL_law_L_rotate rfl rfl rfl (by decide +kernel) ⟨by decide, by decide⟩) [0, 29] rfl (by decide) (st := []) rfl rfl (Nat.le_of_ble_eq_true rfl) dL_law_641 ⟨by first | decide | omega | exact (show _ ≤ 719372 by omega), by first | decide | omega | exact (show _ ≤ 6937989 by omega)⟩) hA [0, 29] rfl [1, 2, 3, 4, 5, 6, 7, 8, 9, 10, 11, 12, 13, 14, 15, 16, 17, 18, 19, 20, 21, 22, 23, 24, 25, 26, 27, 28] [(qw, OB 3 [.ref wa, .ref wo, .int (nI nw)]), (wa, AI cI 40 bw), (wo, AI cI 40 cw), (qv, OB 3 [.ref pa, .ref po, .int (nI np)]), (pa, AI cI 40 bp), (po, AI cI 40 cp), (qt, AI cI 10 ti), (qd, OB 1 [.ref dr, .ref dk, .ref ds, .ref dt, .int (nI co), .int (nI dn)]), (dr, AJ cJ 40 fr), (dk, AJ cJ 40 fk), (ds, AI cI 40 fs), (dt, AI cI 40 ft), (qc, OB 0 [.ref ce, .ref cf, .int ven, .int vpn]), (ce, AJ cJ 40 fe), (cf, AI cI 41 ff), (ql, OB 2 [.ref le, .ref lp, .int vle, .int vlt]), (le, AJ cJ 80 fle), (lp, AJ cJ 80 flp), (yo, OB 5 [.int thr, .int ri, .ref yt, .ref ys, .ref yf, .ref yc, .int (nI co), .int (nI dn), .ref yd]), (yt, AI cI 10 ti), (ys, AI cI 2 (sz2 nw np)), (yf, AR cA 2 (gr2 g0 g1)), (g0, AI cI 40 bw), (g1, AI cI 40 bp), (yc, AR cA 2 (gr2 k0 k1)), (k0, AI cI 40 cw), (k1, AI cI 40 cp), (yd, AJ cJ 40 fr)] rfl (by decide) (by decide) [28, 0, 1, 2, 3, 4, 5, 6, 7, 8, 9, 10, 11, 12, 13, 14, 15, 16, 17, 18, 19, 20, 21, 22, 23, 24, 25, 26, 27, 29] (by decide) (wf := (fun (u : Unit) => [(x, OB 4 [.ref qw, .ref qv, .ref qt, .int ri, .ref qd, .ref qc, .ref ql]), (qw, OB 3 [.ref wa, .ref wo, .int (nI nw)]), (wa, AI cI 40 bw), (wo, AI cI 40 cw), (qv, OB 3 [.ref pa, .ref po, .int (nI np)]), (pa, AI cI 40 bp), (po, AI cI 40 cp), (qt, AI cI 10 ti), (qd, OB 1 [.ref dr, .ref dk, .ref ds, .ref dt, .int (nI co), .int (nI dn)]), (dr, AJ cJ 40 fr), (dk, AJ cJ 40 fk), (ds, AI cI 40 fs), (dt, AI cI 40 ft), (qc, OB 0 [.ref ce, .ref cf, .int ven, .int vpn]), (ce, AJ cJ 40 fe), (cf, AI cI 41 ff), (ql, OB 2 [.ref le, .ref lp, .int vle, .int vlt]), (le, AJ cJ 80 fle), (lp, AJ cJ 80 flp), (yo, OB 5 [.int thr, .int ri, .ref yt, .ref ys, .ref yf, .ref yc, .int (nI co), .int (nI dn), .ref yd]), (yt, AI cI 10 ti), (ys, AI cI 2 (sz2 nw np)), (yf, AR cA 2 (gr2 g0 g1)), (g0, AI cI 40 bw), (g1, AI cI 40 bp), (yc, AR cA 2 (gr2 k0 k1)), (k0, AI cI 40 cw), (k1, AI cI 40 cp), (yd, AJ cJ 40 fr), (out, AJ cJ 1 fo)])) (fun _ => rfl) (fun r_45 u h_46 => ?_)
        refine x_widen ((40 + 90 * t9) + 1) ((1000 + 300 * t9) + 6) (by first | decide | omega) (by first | decide | omega) ?_
        subst h_46
        refine x_istore C [(5, .int (nI 1)), (0, .ref b0), (1, .ref x), (2, .ref yo), (3, .ref out), (4, .int (nI (3 * t9)))] dL_law_644 (by decide) rfl ?_
        refine x_aload_n C dL_law_646 rfl 3 rfl ?_
        refine x_aload_n C dL_law_647 rfl 1 rfl ?_
        refine x_iload C dL_law_648 5 rfl ?_
        refine x_iconst C (nI 1) dL_law_650 (by decide +kernel) ?_
        refine xn_iadd C dL_law_651 ?_
        refine x_sld C hX hbl hbA (j := 3 * t9 + 1) (by omega) (by omega) dL_law_652 ?_
        refine x_if_eq C 660 dL_law_653 (by decide) (fun h_47 => ?_) (fun h_47 => ?_)
        ·
          exact absurd h_47 hb
        ·
          refine x_iconst C (nI 1) dL_law_656 (by decide +kernel) ?_
          refine x_goto C 661 dL_law_657 (by decide) ?_
          refine x_aload_n C dL_law_661 rfl 1 rfl ?_
          refine x_iload C dL_law_662 5 rfl ?_
          refine x_iconst C (nI 2) dL_law_664 (by decide +kernel) ?_
          refine xn_iadd C dL_law_665 ?_
          refine x_sld C hX hbl hbA (j := 3 * t9 + 2) (by omega) (by omega) dL_law_666 ?_
          refine x_calli (x_runV C hK hNW (c_m_rotateX l D tys cI cJ cA hI hJ hR yo thr ri yt ys yf yc co dn yd (nI 1) (xs (3 * t9 + 2)) (by first | omega | assumption)) (cwV 2 C.2.2.2.2 gL_law_X5_rotate rfl rfl rfl (by decide +kernel) ⟨by decide, by decide⟩) [19] rfl (by decide) 19 5 rfl rfl rfl (st := []) rfl rfl (Nat.le_of_ble_eq_true rfl) dL_law_667 ⟨by first | decide | omega | exact (show _ ≤ 719372 by omega), by first | decide | omega | exact (show _ ≤ 6937989 by omega)⟩) hA [19] rfl [0, 1, 2, 3, 4, 5, 6, 7, 8, 9, 10, 11, 12, 13, 14, 15, 16, 17, 18, 20, 21, 22, 23, 24, 25, 26, 27, 28, 29] [(x, OB 4 [.ref qw, .ref qv, .ref qt, .int ri, .ref qd, .ref qc, .ref ql]), (qw, OB 3 [.ref wa, .ref wo, .int (nI nw)]), (wa, AI cI 40 bw), (wo, AI cI 40 cw), (qv, OB 3 [.ref pa, .ref po, .int (nI np)]), (pa, AI cI 40 bp), (po, AI cI 40 cp), (qt, AI cI 10 ti), (qd, OB 1 [.ref dr, .ref dk, .ref ds, .ref dt, .int (nI co), .int (nI dn)]), (dr, AJ cJ 40 fr), (dk, AJ cJ 40 fk), (ds, AI cI 40 fs), (dt, AI cI 40 ft), (qc, OB 0 [.ref ce, .ref cf, .int ven, .int vpn]), (ce, AJ cJ 40 fe), (cf, AI cI 41 ff), (ql, OB 2 [.ref le, .ref lp, .int vle, .int vlt]), (le, AJ cJ 80 fle), (lp, AJ cJ 80 flp), (yt, AI cI 10 ti), (ys, AI cI 2 (sz2 nw np)), (yf, AR cA 2 (gr2 g0 g1)), (g0, AI cI 40 bw), (g1, AI cI 40 bp), (yc, AR cA 2 (gr2 k0 k1)), (k0, AI cI 40 cw), (k1, AI cI 40 cp), (yd, AJ cJ 40 fr), (out, AJ cJ 1 fo)] rfl (by decide) (by decide) [0, 1, 2, 3, 4, 5, 6, 7, 8, 9, 10, 11, 12, 13, 14, 15, 16, 17, 18, 29, 19, 20, 21, 22, 23, 24, 25, 26, 27, 28] (by decide) (wf := (fun (u : Unit) => [(x, OB 4 [.ref qw, .ref qv, .ref qt, .int ri, .ref qd, .ref qc, .ref ql]), (qw, OB 3 [.ref wa, .ref wo, .int (nI nw)]), (wa, AI cI 40 bw), (wo, AI cI 40 cw), (qv, OB 3 [.ref pa, .ref po, .int (nI np)]), (pa, AI cI 40 bp), (po, AI cI 40 cp), (qt, AI cI 10 ti), (qd, OB 1 [.ref dr, .ref dk, .ref ds, .ref dt, .int (nI co), .int (nI dn)]), (dr, AJ cJ 40 fr), (dk, AJ cJ 40 fk), (ds, AI cI 40 fs), (dt, AI cI 40 ft), (qc, OB 0 [.ref ce, .ref cf, .int ven, .int vpn]), (ce, AJ cJ 40 fe), (cf, AI cI 41 ff), (ql, OB 2 [.ref le, .ref lp, .int vle, .int vlt]), (le, AJ cJ 80 fle), (lp, AJ cJ 80 flp), (yo, OB 5 [.int (nI 1), .int ri, .ref yt, .ref ys, .ref yf, .ref yc, .int (nI co), .int (nI dn), .ref yd]), (yt, AI cI 10 ti), (ys, AI cI 2 (sz2 nw np)), (yf, AR cA 2 (gr2 g0 g1)), (g0, AI cI 40 bw), (g1, AI cI 40 bp), (yc, AR cA 2 (gr2 k0 k1)), (k0, AI cI 40 cw), (k1, AI cI 40 cp), (yd, AJ cJ 40 fr), (out, AJ cJ 1 fo)])) (fun _ => rfl) (fun r_48 u h_49 => ?_)
          refine x_widen ((40 + 90 * t9) + 1) ((1000 + 300 * t9) + 6) (by first | decide | omega) (by first | decide | omega) ?_
          subst h_49
          refine x_istore C [(6, .int (nI 0)), (5, .int (nI 1)), (0, .ref b0), (1, .ref x), (2, .ref yo), (3, .ref out), (4, .int (nI (3 * t9)))] dL_law_670 (by decide) rfl ?_
          refine x_aload_n C dL_law_672 rfl 4 rfl ?_
          refine x_calli (x_runV C hK hNW (c_m_thrown l D tys cI cJ cA hI hJ hR yo (nI 1) ri yt ys yf yc co dn yd ) (cwV 0 C.2.2.2.2 gL_law_X5_thrown rfl rfl rfl (by decide +kernel) ⟨by decide, by decide⟩) [19] rfl (by decide) 19 5 rfl rfl rfl (st := []) rfl rfl (Nat.le_of_ble_eq_true rfl) dL_law_673 ⟨by first | decide | omega | exact (show _ ≤ 719372 by omega), by first | decide | omega | exact (show _ ≤ 6937989 by omega)⟩) hA [19] rfl [0, 1, 2, 3, 4, 5, 6, 7, 8, 9, 10, 11, 12, 13, 14, 15, 16, 17, 18, 20, 21, 22, 23, 24, 25, 26, 27, 28, 29] [(x, OB 4 [.ref qw, .ref qv, .ref qt, .int ri, .ref qd, .ref qc, .ref ql]), (qw, OB 3 [.ref wa, .ref wo, .int (nI nw)]), (wa, AI cI 40 bw), (wo, AI cI 40 cw), (qv, OB 3 [.ref pa, .ref po, .int (nI np)]), (pa, AI cI 40 bp), (po, AI cI 40 cp), (qt, AI cI 10 ti), (qd, OB 1 [.ref dr, .ref dk, .ref ds, .ref dt, .int (nI co), .int (nI dn)]), (dr, AJ cJ 40 fr), (dk, AJ cJ 40 fk), (ds, AI cI 40 fs), (dt, AI cI 40 ft), (qc, OB 0 [.ref ce, .ref cf, .int ven, .int vpn]), (ce, AJ cJ 40 fe), (cf, AI cI 41 ff), (ql, OB 2 [.ref le, .ref lp, .int vle, .int vlt]), (le, AJ cJ 80 fle), (lp, AJ cJ 80 flp), (yt, AI cI 10 ti), (ys, AI cI 2 (sz2 nw np)), (yf, AR cA 2 (gr2 g0 g1)), (g0, AI cI 40 bw), (g1, AI cI 40 bp), (yc, AR cA 2 (gr2 k0 k1)), (k0, AI cI 40 cw), (k1, AI cI 40 cp), (yd, AJ cJ 40 fr), (out, AJ cJ 1 fo)] rfl (by decide) (by decide) [0, 1, 2, 3, 4, 5, 6, 7, 8, 9, 10, 11, 12, 13, 14, 15, 16, 17, 18, 29, 19, 20, 21, 22, 23, 24, 25, 26, 27, 28] (by decide) (wf := (fun (u : Unit) => [(x, OB 4 [.ref qw, .ref qv, .ref qt, .int ri, .ref qd, .ref qc, .ref ql]), (qw, OB 3 [.ref wa, .ref wo, .int (nI nw)]), (wa, AI cI 40 bw), (wo, AI cI 40 cw), (qv, OB 3 [.ref pa, .ref po, .int (nI np)]), (pa, AI cI 40 bp), (po, AI cI 40 cp), (qt, AI cI 10 ti), (qd, OB 1 [.ref dr, .ref dk, .ref ds, .ref dt, .int (nI co), .int (nI dn)]), (dr, AJ cJ 40 fr), (dk, AJ cJ 40 fk), (ds, AI cI 40 fs), (dt, AI cI 40 ft), (qc, OB 0 [.ref ce, .ref cf, .int ven, .int vpn]), (ce, AJ cJ 40 fe), (cf, AI cI 41 ff), (ql, OB 2 [.ref le, .ref lp, .int vle, .int vlt]), (le, AJ cJ 80 fle), (lp, AJ cJ 80 flp), (yo, OB 5 [.int (nI 1), .int ri, .ref yt, .ref ys, .ref yf, .ref yc, .int (nI co), .int (nI dn), .ref yd]), (yt, AI cI 10 ti), (ys, AI cI 2 (sz2 nw np)), (yf, AR cA 2 (gr2 g0 g1)), (g0, AI cI 40 bw), (g1, AI cI 40 bp), (yc, AR cA 2 (gr2 k0 k1)), (k0, AI cI 40 cw), (k1, AI cI 40 cp), (yd, AJ cJ 40 fr), (out, AJ cJ 1 fo)])) (fun _ => rfl) (fun r_50 u h_51 => ?_)
          refine x_widen ((40 + 90 * t9) + 1) ((1000 + 300 * t9) + 6) (by first | decide | omega) (by first | decide | omega) ?_
          subst h_51
          refine x_iload C dL_law_676 1 rfl ?_
          refine xn_icmp_eq C 683 (by omega) (by omega) dL_law_678 (by decide) (fun h_52 => ?_) (fun h_52 => ?_)
          ·
            refine x_iload C dL_law_683 1 rfl ?_
            refine xn_if_ne C 700 (by omega) dL_law_685 (by decide) (fun h_53 => ?_) (fun h_53 => ?_)
            ·
              refine x_goto C 1590 dL_law_700 (by decide) ?_
              refine xn_iinc C ((3 * t9) + 3) [(4, .int (nI ((3 * t9) + 3))), (6, .int (nI 0)), (5, .int (nI 1)), (0, .ref b0), (1, .ref x), (2, .ref yo), (3, .ref out)] dL_law_1590 6 rfl (by rw [show Int32.ofInt 3 = nI 3 from by decide +kernel]; exact nI_add _ _) (by decide) rfl ?_
              refine x_goto C 23 dL_law_1593 (by decide) ?_
              refine x_lv [(0, .ref b0), (1, .ref x), (2, .ref yo), (3, .ref out), (4, .int (nI (3 * (t9 + 1))))] [3, 4, 5, 6, 0] (by rw [show 3 * (t9 + 1) = (3 * t9) + 3 from by first | rfl | omega]; rfl) ?_
              refine x_widen (40 + 90 * (t9 + 1)) (1000 + 300 * (t9 + 1)) (by first | decide | omega) (by first | decide | omega) ?_
              exact IH (nI 1) ri nw bw cw np bp cp ti co dn fr fk fs ft ven vpn fe ff vle vlt fle flp fo (by first | assumption | omega) (by first | assumption | omega) (by first | assumption | omega) (by first | assumption | omega) (by first | assumption | omega) (by first | assumption) (by first | assumption) (by first | assumption)
            ·
              exact absurd h_53 (by first | decide | omega)
          ·
            exact absurd h_52 (by first | decide | omega)
    ·
      obtain ⟨pl, hpl41, -, hpl⟩ := below_j h2
      rcases Nat.eq_zero_or_pos nw with hz | hz
      ·
        subst hz
        refine x_aload_n C dL_law_619 rfl 1 rfl ?_
        refine x_aload_n C dL_law_620 rfl 0 rfl ?_
        refine x_iload C dL_law_621 4 rfl ?_
        refine x_iconst C (nI 1) dL_law_623 (by decide +kernel) ?_
        refine xn_iadd C dL_law_624 ?_
        refine x_sld C hX hbl hbA (j := 3 * t9 + 1) (by omega) (by omega) dL_law_625 ?_
        refine x_if_eq C 633 dL_law_626 (by decide) (fun h_54 => ?_) (fun h_54 => ?_)
        ·
          exact absurd h_54 hb
        ·
          refine x_iconst C (nI 1) dL_law_629 (by decide +kernel) ?_
          refine x_goto C 634 dL_law_630 (by decide) ?_
          refine x_aload_n C dL_law_634 rfl 0 rfl ?_
          refine x_iload C dL_law_635 4 rfl ?_
          refine x_iconst C (nI 2) dL_law_637 (by decide +kernel) ?_
          refine xn_iadd C dL_law_638 ?_
          refine x_sld C hX hbl hbA (j := 3 * t9 + 2) (by omega) (by omega) dL_law_639 ?_
          refine x_topi (nI pl) (by exact hpl) ?_
          refine x_aload_n C dL_law_640 rfl 3 rfl ?_
          refine x_calliW (x_runSWW C hK hNW hH0 hZ hNC hA (c_w_rotateZ1 l hl0 D tys cI cJ hI hJ x qw qv qt ri qd qc ql wa wo bw cw pl out fo (by first | omega | assumption)) (vx_cwSW 4 C.2.2.2.2 gL_law_L_rotate rfl rfl rfl (by decide +kernel) ⟨by decide, by decide⟩) [0, 1, 2, 3, 29] rfl (by decide) (st := []) rfl rfl (Nat.le_of_ble_eq_true rfl) dL_law_641 ⟨by first | decide | omega | exact (show _ ≤ 719372 by omega), by first | decide | omega | exact (show _ ≤ 6937989 by omega)⟩) hA [0, 1, 2, 3, 29] rfl [4, 5, 6, 7, 8, 9, 10, 11, 12, 13, 14, 15, 16, 17, 18, 19, 20, 21, 22, 23, 24, 25, 26, 27, 28] [(qv, OB 3 [.ref pa, .ref po, .int (nI np)]), (pa, AI cI 40 bp), (po, AI cI 40 cp), (qt, AI cI 10 ti), (qd, OB 1 [.ref dr, .ref dk, .ref ds, .ref dt, .int (nI co), .int (nI dn)]), (dr, AJ cJ 40 fr), (dk, AJ cJ 40 fk), (ds, AI cI 40 fs), (dt, AI cI 40 ft), (qc, OB 0 [.ref ce, .ref cf, .int ven, .int vpn]), (ce, AJ cJ 40 fe), (cf, AI cI 41 ff), (ql, OB 2 [.ref le, .ref lp, .int vle, .int vlt]), (le, AJ cJ 80 fle), (lp, AJ cJ 80 flp), (yo, OB 5 [.int thr, .int ri, .ref yt, .ref ys, .ref yf, .ref yc, .int (nI co), .int (nI dn), .ref yd]), (yt, AI cI 10 ti), (ys, AI cI 2 (sz2 0 np)), (yf, AR cA 2 (gr2 g0 g1)), (g0, AI cI 40 bw), (g1, AI cI 40 bp), (yc, AR cA 2 (gr2 k0 k1)), (k0, AI cI 40 cw), (k1, AI cI 40 cp), (yd, AJ cJ 40 fr)] rfl (by decide) (by decide) [25, 26, 27, 28, 0, 1, 2, 3, 4, 5, 6, 7, 8, 9, 10, 11, 12, 13, 14, 15, 16, 17, 18, 19, 20, 21, 22, 23, 24, 29] (by decide) (wf := (fun (u : Unit) => [(x, OB 4 [.ref qw, .ref qv, .ref qt, .int ri, .ref qd, .ref qc, .ref ql]), (qw, OB 3 [.ref wa, .ref wo, .int (nI 0)]), (wa, AI cI 40 bw), (wo, AI cI 40 cw), (qv, OB 3 [.ref pa, .ref po, .int (nI np)]), (pa, AI cI 40 bp), (po, AI cI 40 cp), (qt, AI cI 10 ti), (qd, OB 1 [.ref dr, .ref dk, .ref ds, .ref dt, .int (nI co), .int (nI dn)]), (dr, AJ cJ 40 fr), (dk, AJ cJ 40 fk), (ds, AI cI 40 fs), (dt, AI cI 40 ft), (qc, OB 0 [.ref ce, .ref cf, .int ven, .int vpn]), (ce, AJ cJ 40 fe), (cf, AI cI 41 ff), (ql, OB 2 [.ref le, .ref lp, .int vle, .int vlt]), (le, AJ cJ 80 fle), (lp, AJ cJ 80 flp), (yo, OB 5 [.int thr, .int ri, .ref yt, .ref ys, .ref yf, .ref yc, .int (nI co), .int (nI dn), .ref yd]), (yt, AI cI 10 ti), (ys, AI cI 2 (sz2 0 np)), (yf, AR cA 2 (gr2 g0 g1)), (g0, AI cI 40 bw), (g1, AI cI 40 bp), (yc, AR cA 2 (gr2 k0 k1)), (k0, AI cI 40 cw), (k1, AI cI 40 cp), (yd, AJ cJ 40 fr), (out, AJ cJ 1 (vp_updL fo 0 (nI 0).toInt64))])) (fun _ => rfl) (fun r_55 u h_56 => ?_)
          refine x_widen ((40 + 90 * t9) + 1) ((1000 + 300 * t9) + 6) (by first | decide | omega) (by first | decide | omega) ?_
          subst h_56
          refine x_istore C [(5, .int (nI 0)), (0, .ref b0), (1, .ref x), (2, .ref yo), (3, .ref out), (4, .int (nI (3 * t9)))] dL_law_644 (by decide) rfl ?_
          refine x_aload_n C dL_law_646 rfl 3 rfl ?_
          refine x_aload_n C dL_law_647 rfl 1 rfl ?_
          refine x_iload C dL_law_648 5 rfl ?_
          refine x_iconst C (nI 1) dL_law_650 (by decide +kernel) ?_
          refine xn_iadd C dL_law_651 ?_
          refine x_sld C hX hbl hbA (j := 3 * t9 + 1) (by omega) (by omega) dL_law_652 ?_
          refine x_if_eq C 660 dL_law_653 (by decide) (fun h_57 => ?_) (fun h_57 => ?_)
          ·
            exact absurd h_57 hb
          ·
            refine x_iconst C (nI 1) dL_law_656 (by decide +kernel) ?_
            refine x_goto C 661 dL_law_657 (by decide) ?_
            refine x_aload_n C dL_law_661 rfl 1 rfl ?_
            refine x_iload C dL_law_662 5 rfl ?_
            refine x_iconst C (nI 2) dL_law_664 (by decide +kernel) ?_
            refine xn_iadd C dL_law_665 ?_
            refine x_sld C hX hbl hbA (j := 3 * t9 + 2) (by omega) (by omega) dL_law_666 ?_
            refine x_topi (nI pl) (by exact hpl) ?_
            refine x_calli (x_runV C hK hNW (c_m_rotateZ1 l D tys cI cJ cA hI hJ hR yo thr ri yt ys yf yc co dn yd np g0 g1 bw bp k0 k1 cw cp pl (by first | omega | assumption)) (cwV 2 C.2.2.2.2 gL_law_X5_rotate rfl rfl rfl (by decide +kernel) ⟨by decide, by decide⟩) [19, 21, 22, 23, 24, 25, 26, 27] rfl (by decide) 19 5 rfl rfl rfl (st := []) rfl rfl (Nat.le_of_ble_eq_true rfl) dL_law_667 ⟨by first | decide | omega | exact (show _ ≤ 719372 by omega), by first | decide | omega | exact (show _ ≤ 6937989 by omega)⟩) hA [19, 21, 22, 23, 24, 25, 26, 27] rfl [0, 1, 2, 3, 4, 5, 6, 7, 8, 9, 10, 11, 12, 13, 14, 15, 16, 17, 18, 20, 28, 29] [(x, OB 4 [.ref qw, .ref qv, .ref qt, .int ri, .ref qd, .ref qc, .ref ql]), (qw, OB 3 [.ref wa, .ref wo, .int (nI 0)]), (wa, AI cI 40 bw), (wo, AI cI 40 cw), (qv, OB 3 [.ref pa, .ref po, .int (nI np)]), (pa, AI cI 40 bp), (po, AI cI 40 cp), (qt, AI cI 10 ti), (qd, OB 1 [.ref dr, .ref dk, .ref ds, .ref dt, .int (nI co), .int (nI dn)]), (dr, AJ cJ 40 fr), (dk, AJ cJ 40 fk), (ds, AI cI 40 fs), (dt, AI cI 40 ft), (qc, OB 0 [.ref ce, .ref cf, .int ven, .int vpn]), (ce, AJ cJ 40 fe), (cf, AI cI 41 ff), (ql, OB 2 [.ref le, .ref lp, .int vle, .int vlt]), (le, AJ cJ 80 fle), (lp, AJ cJ 80 flp), (yt, AI cI 10 ti), (yd, AJ cJ 40 fr), (out, AJ cJ 1 (vp_updL fo 0 (nI 0).toInt64))] rfl (by decide) (by decide) [0, 1, 2, 3, 4, 5, 6, 7, 8, 9, 10, 11, 12, 13, 14, 15, 16, 17, 18, 22, 19, 23, 24, 25, 26, 27, 28, 29, 20, 21] (by decide) (wf := (fun (u : Unit) => [(x, OB 4 [.ref qw, .ref qv, .ref qt, .int ri, .ref qd, .ref qc, .ref ql]), (qw, OB 3 [.ref wa, .ref wo, .int (nI 0)]), (wa, AI cI 40 bw), (wo, AI cI 40 cw), (qv, OB 3 [.ref pa, .ref po, .int (nI np)]), (pa, AI cI 40 bp), (po, AI cI 40 cp), (qt, AI cI 10 ti), (qd, OB 1 [.ref dr, .ref dk, .ref ds, .ref dt, .int (nI co), .int (nI dn)]), (dr, AJ cJ 40 fr), (dk, AJ cJ 40 fk), (ds, AI cI 40 fs), (dt, AI cI 40 ft), (qc, OB 0 [.ref ce, .ref cf, .int ven, .int vpn]), (ce, AJ cJ 40 fe), (cf, AI cI 41 ff), (ql, OB 2 [.ref le, .ref lp, .int vle, .int vlt]), (le, AJ cJ 80 fle), (lp, AJ cJ 80 flp), (yo, OB 5 [.int (nI 0), .int ri, .ref yt, .ref ys, .ref yf, .ref yc, .int (nI co), .int (nI dn), .ref yd]), (yt, AI cI 10 ti), (ys, AI cI 2 (sz2 0 np)), (yf, AR cA 2 (gr2 g0 g1)), (g0, AI cI 40 bw), (g1, AI cI 40 bp), (yc, AR cA 2 (gr2 k0 k1)), (k0, AI cI 40 cw), (k1, AI cI 40 cp), (yd, AJ cJ 40 fr), (out, AJ cJ 1 (vp_updL fo 0 (nI 0).toInt64))])) (fun _ => rfl) (fun r_58 u h_59 => ?_)
            refine x_widen (((40 + 90 * t9) + 1) + 3) (((1000 + 300 * t9) + 6) + 120) (by first | decide | omega) (by first | decide | omega) ?_
            subst h_59
            refine x_istore C [(6, .int (nI 0)), (5, .int (nI 0)), (0, .ref b0), (1, .ref x), (2, .ref yo), (3, .ref out), (4, .int (nI (3 * t9)))] dL_law_670 (by decide) rfl ?_
            refine x_aload_n C dL_law_672 rfl 4 rfl ?_
            refine x_calli (x_runV C hK hNW (c_m_thrown l D tys cI cJ cA hI hJ hR yo (nI 0) ri yt ys yf yc co dn yd ) (cwV 0 C.2.2.2.2 gL_law_X5_thrown rfl rfl rfl (by decide +kernel) ⟨by decide, by decide⟩) [19] rfl (by decide) 19 5 rfl rfl rfl (st := []) rfl rfl (Nat.le_of_ble_eq_true rfl) dL_law_673 ⟨by first | decide | omega | exact (show _ ≤ 719372 by omega), by first | decide | omega | exact (show _ ≤ 6937989 by omega)⟩) hA [19] rfl [0, 1, 2, 3, 4, 5, 6, 7, 8, 9, 10, 11, 12, 13, 14, 15, 16, 17, 18, 20, 21, 22, 23, 24, 25, 26, 27, 28, 29] [(x, OB 4 [.ref qw, .ref qv, .ref qt, .int ri, .ref qd, .ref qc, .ref ql]), (qw, OB 3 [.ref wa, .ref wo, .int (nI 0)]), (wa, AI cI 40 bw), (wo, AI cI 40 cw), (qv, OB 3 [.ref pa, .ref po, .int (nI np)]), (pa, AI cI 40 bp), (po, AI cI 40 cp), (qt, AI cI 10 ti), (qd, OB 1 [.ref dr, .ref dk, .ref ds, .ref dt, .int (nI co), .int (nI dn)]), (dr, AJ cJ 40 fr), (dk, AJ cJ 40 fk), (ds, AI cI 40 fs), (dt, AI cI 40 ft), (qc, OB 0 [.ref ce, .ref cf, .int ven, .int vpn]), (ce, AJ cJ 40 fe), (cf, AI cI 41 ff), (ql, OB 2 [.ref le, .ref lp, .int vle, .int vlt]), (le, AJ cJ 80 fle), (lp, AJ cJ 80 flp), (yt, AI cI 10 ti), (ys, AI cI 2 (sz2 0 np)), (yf, AR cA 2 (gr2 g0 g1)), (g0, AI cI 40 bw), (g1, AI cI 40 bp), (yc, AR cA 2 (gr2 k0 k1)), (k0, AI cI 40 cw), (k1, AI cI 40 cp), (yd, AJ cJ 40 fr), (out, AJ cJ 1 (vp_updL fo 0 (nI 0).toInt64))] rfl (by decide) (by decide) [0, 1, 2, 3, 4, 5, 6, 7, 8, 9, 10, 11, 12, 13, 14, 15, 16, 17, 18, 29, 19, 20, 21, 22, 23, 24, 25, 26, 27, 28] (by decide) (wf := (fun (u : Unit) => [(x, OB 4 [.ref qw, .ref qv, .ref qt, .int ri, .ref qd, .ref qc, .ref ql]), (qw, OB 3 [.ref wa, .ref wo, .int (nI 0)]), (wa, AI cI 40 bw), (wo, AI cI 40 cw), (qv, OB 3 [.ref pa, .ref po, .int (nI np)]), (pa, AI cI 40 bp), (po, AI cI 40 cp), (qt, AI cI 10 ti), (qd, OB 1 [.ref dr, .ref dk, .ref ds, .ref dt, .int (nI co), .int (nI dn)]), (dr, AJ cJ 40 fr), (dk, AJ cJ 40 fk), (ds, AI cI 40 fs), (dt, AI cI 40 ft), (qc, OB 0 [.ref ce, .ref cf, .int ven, .int vpn]), (ce, AJ cJ 40 fe), (cf, AI cI 41 ff), (ql, OB 2 [.ref le, .ref lp, .int vle, .int vlt]), (le, AJ cJ 80 fle), (lp, AJ cJ 80 flp), (yo, OB 5 [.int (nI 0), .int ri, .ref yt, .ref ys, .ref yf, .ref yc, .int (nI co), .int (nI dn), .ref yd]), (yt, AI cI 10 ti), (ys, AI cI 2 (sz2 0 np)), (yf, AR cA 2 (gr2 g0 g1)), (g0, AI cI 40 bw), (g1, AI cI 40 bp), (yc, AR cA 2 (gr2 k0 k1)), (k0, AI cI 40 cw), (k1, AI cI 40 cp), (yd, AJ cJ 40 fr), (out, AJ cJ 1 (vp_updL fo 0 (nI 0).toInt64))])) (fun _ => rfl) (fun r_60 u h_61 => ?_)
            refine x_widen (((40 + 90 * t9) + 1) + 3) (((1000 + 300 * t9) + 6) + 120) (by first | decide | omega) (by first | decide | omega) ?_
            subst h_61
            refine x_iload C dL_law_676 1 rfl ?_
            refine xn_icmp_eq C 683 (by omega) (by omega) dL_law_678 (by decide) (fun h_62 => ?_) (fun h_62 => ?_)
            ·
              refine x_iload C dL_law_683 1 rfl ?_
              refine xn_if_ne C 700 (by omega) dL_law_685 (by decide) (fun h_63 => ?_) (fun h_63 => ?_)
              ·
                exact absurd h_63 (by first | decide | omega)
              ·
                refine x_aload_n C dL_law_688 rfl 5 rfl ?_
                refine x_iconst C (nI 0) dL_law_689 (by decide +kernel) ?_
                refine x_lald C hK 29 1 rfl hJ (by omega) (by omega) dL_law_690 ?_
                refine x_topl (nI 0).toInt64 (by exact pk_uLs) ?_
                refine x_iload C dL_law_691 0 rfl ?_
                refine x_i2l C _ dL_law_693 rfl ?_
                refine x_lcmp C dL_law_694 ?_
                refine x_if_eq C 700 dL_law_695 (by decide) (fun h_64 => ?_) (fun h_64 => ?_)
                ·
                  refine x_goto C 1590 dL_law_700 (by decide) ?_
                  refine xn_iinc C ((3 * t9) + 3) [(4, .int (nI ((3 * t9) + 3))), (6, .int (nI 0)), (5, .int (nI 0)), (0, .ref b0), (1, .ref x), (2, .ref yo), (3, .ref out)] dL_law_1590 6 rfl (by rw [show Int32.ofInt 3 = nI 3 from by decide +kernel]; exact nI_add _ _) (by decide) rfl ?_
                  refine x_goto C 23 dL_law_1593 (by decide) ?_
                  refine x_lv [(0, .ref b0), (1, .ref x), (2, .ref yo), (3, .ref out), (4, .int (nI (3 * (t9 + 1))))] [3, 4, 5, 6, 0] (by rw [show 3 * (t9 + 1) = (3 * t9) + 3 from by first | rfl | omega]; rfl) ?_
                  refine x_widen (40 + 90 * (t9 + 1)) (1000 + 300 * (t9 + 1)) (by first | decide | omega) (by first | decide | omega) ?_
                  exact IH (nI 0) ri 0 bw cw np bp cp ti co dn fr fk fs ft ven vpn fe ff vle vlt fle flp (vp_updL fo 0 (nI 0).toInt64) (by first | assumption | omega) (by first | assumption | omega) (by first | assumption | omega) (by first | assumption | omega) (by first | assumption | omega) (by first | assumption) (by first | assumption) (by first | assumption)
                ·
                  exact absurd ((lg_cmp_eq _ _).mpr (rfl)) h_64
            ·
              exact absurd h_62 (by first | decide | omega)
      ·
        rcases Nat.eq_zero_or_pos (pl % nw) with hm | hm
        ·
          refine x_aload_n C dL_law_619 rfl 1 rfl ?_
          refine x_aload_n C dL_law_620 rfl 0 rfl ?_
          refine x_iload C dL_law_621 4 rfl ?_
          refine x_iconst C (nI 1) dL_law_623 (by decide +kernel) ?_
          refine xn_iadd C dL_law_624 ?_
          refine x_sld C hX hbl hbA (j := 3 * t9 + 1) (by omega) (by omega) dL_law_625 ?_
          refine x_if_eq C 633 dL_law_626 (by decide) (fun h_65 => ?_) (fun h_65 => ?_)
          ·
            exact absurd h_65 hb
          ·
            refine x_iconst C (nI 1) dL_law_629 (by decide +kernel) ?_
            refine x_goto C 634 dL_law_630 (by decide) ?_
            refine x_aload_n C dL_law_634 rfl 0 rfl ?_
            refine x_iload C dL_law_635 4 rfl ?_
            refine x_iconst C (nI 2) dL_law_637 (by decide +kernel) ?_
            refine xn_iadd C dL_law_638 ?_
            refine x_sld C hX hbl hbA (j := 3 * t9 + 2) (by omega) (by omega) dL_law_639 ?_
            refine x_topi (nI pl) (by exact hpl) ?_
            refine x_aload_n C dL_law_640 rfl 3 rfl ?_
            refine x_calliW (x_runSWW C hK hNW hH0 hZ hNC hA (c_w_rotateB1 l hl0 D tys cI cJ hI hJ x qw qv qt ri qd qc ql wa wo nw bw cw pl out fo (by first | omega | assumption) (by first | omega | assumption) (by first | omega | assumption) (by first | omega | assumption)) (vx_cwSW 4 C.2.2.2.2 gL_law_L_rotate rfl rfl rfl (by decide +kernel) ⟨by decide, by decide⟩) [0, 1, 2, 3, 29] rfl (by decide) (st := []) rfl rfl (Nat.le_of_ble_eq_true rfl) dL_law_641 ⟨by first | decide | omega | exact (show _ ≤ 719372 by omega), by first | decide | omega | exact (show _ ≤ 6937989 by omega)⟩) hA [0, 1, 2, 3, 29] rfl [4, 5, 6, 7, 8, 9, 10, 11, 12, 13, 14, 15, 16, 17, 18, 19, 20, 21, 22, 23, 24, 25, 26, 27, 28] [(qv, OB 3 [.ref pa, .ref po, .int (nI np)]), (pa, AI cI 40 bp), (po, AI cI 40 cp), (qt, AI cI 10 ti), (qd, OB 1 [.ref dr, .ref dk, .ref ds, .ref dt, .int (nI co), .int (nI dn)]), (dr, AJ cJ 40 fr), (dk, AJ cJ 40 fk), (ds, AI cI 40 fs), (dt, AI cI 40 ft), (qc, OB 0 [.ref ce, .ref cf, .int ven, .int vpn]), (ce, AJ cJ 40 fe), (cf, AI cI 41 ff), (ql, OB 2 [.ref le, .ref lp, .int vle, .int vlt]), (le, AJ cJ 80 fle), (lp, AJ cJ 80 flp), (yo, OB 5 [.int thr, .int ri, .ref yt, .ref ys, .ref yf, .ref yc, .int (nI co), .int (nI dn), .ref yd]), (yt, AI cI 10 ti), (ys, AI cI 2 (sz2 nw np)), (yf, AR cA 2 (gr2 g0 g1)), (g0, AI cI 40 bw), (g1, AI cI 40 bp), (yc, AR cA 2 (gr2 k0 k1)), (k0, AI cI 40 cw), (k1, AI cI 40 cp), (yd, AJ cJ 40 fr)] rfl (by decide) (by decide) [25, 26, 27, 28, 0, 1, 2, 3, 4, 5, 6, 7, 8, 9, 10, 11, 12, 13, 14, 15, 16, 17, 18, 19, 20, 21, 22, 23, 24, 29] (by decide) (wf := (fun (u : Unit) => [(x, OB 4 [.ref qw, .ref qv, .ref qt, .int ri, .ref qd, .ref qc, .ref ql]), (qw, OB 3 [.ref wa, .ref wo, .int (nI nw)]), (wa, AI cI 40 (rvF (rvF bw 0 nw) 0 nw)), (wo, AI cI 40 (rvF (rvF cw 0 nw) 0 nw)), (qv, OB 3 [.ref pa, .ref po, .int (nI np)]), (pa, AI cI 40 bp), (po, AI cI 40 cp), (qt, AI cI 10 ti), (qd, OB 1 [.ref dr, .ref dk, .ref ds, .ref dt, .int (nI co), .int (nI dn)]), (dr, AJ cJ 40 fr), (dk, AJ cJ 40 fk), (ds, AI cI 40 fs), (dt, AI cI 40 ft), (qc, OB 0 [.ref ce, .ref cf, .int ven, .int vpn]), (ce, AJ cJ 40 fe), (cf, AI cI 41 ff), (ql, OB 2 [.ref le, .ref lp, .int vle, .int vlt]), (le, AJ cJ 80 fle), (lp, AJ cJ 80 flp), (yo, OB 5 [.int thr, .int ri, .ref yt, .ref ys, .ref yf, .ref yc, .int (nI co), .int (nI dn), .ref yd]), (yt, AI cI 10 ti), (ys, AI cI 2 (sz2 nw np)), (yf, AR cA 2 (gr2 g0 g1)), (g0, AI cI 40 bw), (g1, AI cI 40 bp), (yc, AR cA 2 (gr2 k0 k1)), (k0, AI cI 40 cw), (k1, AI cI 40 cp), (yd, AJ cJ 40 fr), (out, AJ cJ 1 (vp_updL fo 0 (nI nw).toInt64))])) (fun _ => rfl) (fun r_66 u h_67 => ?_)
            refine x_widen ((40 + 90 * t9) + 1) ((1000 + 300 * t9) + 6) (by first | decide | omega) (by first | decide | omega) ?_
            subst h_67
            refine x_istore C [(5, .int (nI 0)), (0, .ref b0), (1, .ref x), (2, .ref yo), (3, .ref out), (4, .int (nI (3 * t9)))] dL_law_644 (by decide) rfl ?_
            refine x_aload_n C dL_law_646 rfl 3 rfl ?_
            refine x_aload_n C dL_law_647 rfl 1 rfl ?_
            refine x_iload C dL_law_648 5 rfl ?_
            refine x_iconst C (nI 1) dL_law_650 (by decide +kernel) ?_
            refine xn_iadd C dL_law_651 ?_
            refine x_sld C hX hbl hbA (j := 3 * t9 + 1) (by omega) (by omega) dL_law_652 ?_
            refine x_if_eq C 660 dL_law_653 (by decide) (fun h_68 => ?_) (fun h_68 => ?_)
            ·
              exact absurd h_68 hb
            ·
              refine x_iconst C (nI 1) dL_law_656 (by decide +kernel) ?_
              refine x_goto C 661 dL_law_657 (by decide) ?_
              refine x_aload_n C dL_law_661 rfl 1 rfl ?_
              refine x_iload C dL_law_662 5 rfl ?_
              refine x_iconst C (nI 2) dL_law_664 (by decide +kernel) ?_
              refine xn_iadd C dL_law_665 ?_
              refine x_sld C hX hbl hbA (j := 3 * t9 + 2) (by omega) (by omega) dL_law_666 ?_
              refine x_topi (nI pl) (by exact hpl) ?_
              refine x_calli (x_runV C hK hNW (c_m_rotateB1 l D tys cI cJ cA hI hJ hR yo thr ri yt ys yf yc co dn yd nw np g0 g1 bw bp k0 k1 cw cp pl (by first | omega | assumption) (by first | omega | assumption) (by first | omega | assumption) (by first | omega | assumption)) (cwV 2 C.2.2.2.2 gL_law_X5_rotate rfl rfl rfl (by decide +kernel) ⟨by decide, by decide⟩) [19, 21, 22, 23, 24, 25, 26, 27] rfl (by decide) 19 5 rfl rfl rfl (st := []) rfl rfl (Nat.le_of_ble_eq_true rfl) dL_law_667 ⟨by first | decide | omega | exact (show _ ≤ 719372 by omega), by first | decide | omega | exact (show _ ≤ 6937989 by omega)⟩) hA [19, 21, 22, 23, 24, 25, 26, 27] rfl [0, 1, 2, 3, 4, 5, 6, 7, 8, 9, 10, 11, 12, 13, 14, 15, 16, 17, 18, 20, 28, 29] [(x, OB 4 [.ref qw, .ref qv, .ref qt, .int ri, .ref qd, .ref qc, .ref ql]), (qw, OB 3 [.ref wa, .ref wo, .int (nI nw)]), (wa, AI cI 40 (rvF (rvF bw 0 nw) 0 nw)), (wo, AI cI 40 (rvF (rvF cw 0 nw) 0 nw)), (qv, OB 3 [.ref pa, .ref po, .int (nI np)]), (pa, AI cI 40 bp), (po, AI cI 40 cp), (qt, AI cI 10 ti), (qd, OB 1 [.ref dr, .ref dk, .ref ds, .ref dt, .int (nI co), .int (nI dn)]), (dr, AJ cJ 40 fr), (dk, AJ cJ 40 fk), (ds, AI cI 40 fs), (dt, AI cI 40 ft), (qc, OB 0 [.ref ce, .ref cf, .int ven, .int vpn]), (ce, AJ cJ 40 fe), (cf, AI cI 41 ff), (ql, OB 2 [.ref le, .ref lp, .int vle, .int vlt]), (le, AJ cJ 80 fle), (lp, AJ cJ 80 flp), (yt, AI cI 10 ti), (yd, AJ cJ 40 fr), (out, AJ cJ 1 (vp_updL fo 0 (nI nw).toInt64))] rfl (by decide) (by decide) [0, 1, 2, 3, 4, 5, 6, 7, 8, 9, 10, 11, 12, 13, 14, 15, 16, 17, 18, 22, 19, 23, 24, 25, 26, 27, 28, 29, 20, 21] (by decide) (wf := (fun (u : Unit) => [(x, OB 4 [.ref qw, .ref qv, .ref qt, .int ri, .ref qd, .ref qc, .ref ql]), (qw, OB 3 [.ref wa, .ref wo, .int (nI nw)]), (wa, AI cI 40 (rvF (rvF bw 0 nw) 0 nw)), (wo, AI cI 40 (rvF (rvF cw 0 nw) 0 nw)), (qv, OB 3 [.ref pa, .ref po, .int (nI np)]), (pa, AI cI 40 bp), (po, AI cI 40 cp), (qt, AI cI 10 ti), (qd, OB 1 [.ref dr, .ref dk, .ref ds, .ref dt, .int (nI co), .int (nI dn)]), (dr, AJ cJ 40 fr), (dk, AJ cJ 40 fk), (ds, AI cI 40 fs), (dt, AI cI 40 ft), (qc, OB 0 [.ref ce, .ref cf, .int ven, .int vpn]), (ce, AJ cJ 40 fe), (cf, AI cI 41 ff), (ql, OB 2 [.ref le, .ref lp, .int vle, .int vlt]), (le, AJ cJ 80 fle), (lp, AJ cJ 80 flp), (yo, OB 5 [.int (nI 0), .int ri, .ref yt, .ref ys, .ref yf, .ref yc, .int (nI co), .int (nI dn), .ref yd]), (yt, AI cI 10 ti), (ys, AI cI 2 (sz2 nw np)), (yf, AR cA 2 (gr2 g0 g1)), (g0, AI cI 40 (rvF (rvF bw 0 nw) 0 nw)), (g1, AI cI 40 bp), (yc, AR cA 2 (gr2 k0 k1)), (k0, AI cI 40 (rvF (rvF cw 0 nw) 0 nw)), (k1, AI cI 40 cp), (yd, AJ cJ 40 fr), (out, AJ cJ 1 (vp_updL fo 0 (nI nw).toInt64))])) (fun _ => rfl) (fun r_69 u h_70 => ?_)
              refine x_widen (((40 + 90 * t9) + 1) + 3) (((1000 + 300 * t9) + 6) + 120) (by first | decide | omega) (by first | decide | omega) ?_
              subst h_70
              refine x_istore C [(6, .int (nI nw)), (5, .int (nI 0)), (0, .ref b0), (1, .ref x), (2, .ref yo), (3, .ref out), (4, .int (nI (3 * t9)))] dL_law_670 (by decide) rfl ?_
              refine x_aload_n C dL_law_672 rfl 4 rfl ?_
              refine x_calli (x_runV C hK hNW (c_m_thrown l D tys cI cJ cA hI hJ hR yo (nI 0) ri yt ys yf yc co dn yd ) (cwV 0 C.2.2.2.2 gL_law_X5_thrown rfl rfl rfl (by decide +kernel) ⟨by decide, by decide⟩) [19] rfl (by decide) 19 5 rfl rfl rfl (st := []) rfl rfl (Nat.le_of_ble_eq_true rfl) dL_law_673 ⟨by first | decide | omega | exact (show _ ≤ 719372 by omega), by first | decide | omega | exact (show _ ≤ 6937989 by omega)⟩) hA [19] rfl [0, 1, 2, 3, 4, 5, 6, 7, 8, 9, 10, 11, 12, 13, 14, 15, 16, 17, 18, 20, 21, 22, 23, 24, 25, 26, 27, 28, 29] [(x, OB 4 [.ref qw, .ref qv, .ref qt, .int ri, .ref qd, .ref qc, .ref ql]), (qw, OB 3 [.ref wa, .ref wo, .int (nI nw)]), (wa, AI cI 40 (rvF (rvF bw 0 nw) 0 nw)), (wo, AI cI 40 (rvF (rvF cw 0 nw) 0 nw)), (qv, OB 3 [.ref pa, .ref po, .int (nI np)]), (pa, AI cI 40 bp), (po, AI cI 40 cp), (qt, AI cI 10 ti), (qd, OB 1 [.ref dr, .ref dk, .ref ds, .ref dt, .int (nI co), .int (nI dn)]), (dr, AJ cJ 40 fr), (dk, AJ cJ 40 fk), (ds, AI cI 40 fs), (dt, AI cI 40 ft), (qc, OB 0 [.ref ce, .ref cf, .int ven, .int vpn]), (ce, AJ cJ 40 fe), (cf, AI cI 41 ff), (ql, OB 2 [.ref le, .ref lp, .int vle, .int vlt]), (le, AJ cJ 80 fle), (lp, AJ cJ 80 flp), (yt, AI cI 10 ti), (ys, AI cI 2 (sz2 nw np)), (yf, AR cA 2 (gr2 g0 g1)), (g0, AI cI 40 (rvF (rvF bw 0 nw) 0 nw)), (g1, AI cI 40 bp), (yc, AR cA 2 (gr2 k0 k1)), (k0, AI cI 40 (rvF (rvF cw 0 nw) 0 nw)), (k1, AI cI 40 cp), (yd, AJ cJ 40 fr), (out, AJ cJ 1 (vp_updL fo 0 (nI nw).toInt64))] rfl (by decide) (by decide) [0, 1, 2, 3, 4, 5, 6, 7, 8, 9, 10, 11, 12, 13, 14, 15, 16, 17, 18, 29, 19, 20, 21, 22, 23, 24, 25, 26, 27, 28] (by decide) (wf := (fun (u : Unit) => [(x, OB 4 [.ref qw, .ref qv, .ref qt, .int ri, .ref qd, .ref qc, .ref ql]), (qw, OB 3 [.ref wa, .ref wo, .int (nI nw)]), (wa, AI cI 40 (rvF (rvF bw 0 nw) 0 nw)), (wo, AI cI 40 (rvF (rvF cw 0 nw) 0 nw)), (qv, OB 3 [.ref pa, .ref po, .int (nI np)]), (pa, AI cI 40 bp), (po, AI cI 40 cp), (qt, AI cI 10 ti), (qd, OB 1 [.ref dr, .ref dk, .ref ds, .ref dt, .int (nI co), .int (nI dn)]), (dr, AJ cJ 40 fr), (dk, AJ cJ 40 fk), (ds, AI cI 40 fs), (dt, AI cI 40 ft), (qc, OB 0 [.ref ce, .ref cf, .int ven, .int vpn]), (ce, AJ cJ 40 fe), (cf, AI cI 41 ff), (ql, OB 2 [.ref le, .ref lp, .int vle, .int vlt]), (le, AJ cJ 80 fle), (lp, AJ cJ 80 flp), (yo, OB 5 [.int (nI 0), .int ri, .ref yt, .ref ys, .ref yf, .ref yc, .int (nI co), .int (nI dn), .ref yd]), (yt, AI cI 10 ti), (ys, AI cI 2 (sz2 nw np)), (yf, AR cA 2 (gr2 g0 g1)), (g0, AI cI 40 (rvF (rvF bw 0 nw) 0 nw)), (g1, AI cI 40 bp), (yc, AR cA 2 (gr2 k0 k1)), (k0, AI cI 40 (rvF (rvF cw 0 nw) 0 nw)), (k1, AI cI 40 cp), (yd, AJ cJ 40 fr), (out, AJ cJ 1 (vp_updL fo 0 (nI nw).toInt64))])) (fun _ => rfl) (fun r_71 u h_72 => ?_)
              refine x_widen (((40 + 90 * t9) + 1) + 3) (((1000 + 300 * t9) + 6) + 120) (by first | decide | omega) (by first | decide | omega) ?_
              subst h_72
              refine x_iload C dL_law_676 1 rfl ?_
              refine xn_icmp_eq C 683 (by omega) (by omega) dL_law_678 (by decide) (fun h_73 => ?_) (fun h_73 => ?_)
              ·
                refine x_iload C dL_law_683 1 rfl ?_
                refine xn_if_ne C 700 (by omega) dL_law_685 (by decide) (fun h_74 => ?_) (fun h_74 => ?_)
                ·
                  exact absurd h_74 (by first | decide | omega)
                ·
                  refine x_aload_n C dL_law_688 rfl 5 rfl ?_
                  refine x_iconst C (nI 0) dL_law_689 (by decide +kernel) ?_
                  refine x_lald C hK 29 1 rfl hJ (by omega) (by omega) dL_law_690 ?_
                  refine x_topl (nI nw).toInt64 (by exact pk_uLs) ?_
                  refine x_iload C dL_law_691 0 rfl ?_
                  refine x_i2l C _ dL_law_693 rfl ?_
                  refine x_lcmp C dL_law_694 ?_
                  refine x_if_eq C 700 dL_law_695 (by decide) (fun h_75 => ?_) (fun h_75 => ?_)
                  ·
                    refine x_goto C 1590 dL_law_700 (by decide) ?_
                    refine xn_iinc C ((3 * t9) + 3) [(4, .int (nI ((3 * t9) + 3))), (6, .int (nI nw)), (5, .int (nI 0)), (0, .ref b0), (1, .ref x), (2, .ref yo), (3, .ref out)] dL_law_1590 6 rfl (by rw [show Int32.ofInt 3 = nI 3 from by decide +kernel]; exact nI_add _ _) (by decide) rfl ?_
                    refine x_goto C 23 dL_law_1593 (by decide) ?_
                    refine x_lv [(0, .ref b0), (1, .ref x), (2, .ref yo), (3, .ref out), (4, .int (nI (3 * (t9 + 1))))] [3, 4, 5, 6, 0] (by rw [show 3 * (t9 + 1) = (3 * t9) + 3 from by first | rfl | omega]; rfl) ?_
                    refine x_widen (40 + 90 * (t9 + 1)) (1000 + 300 * (t9 + 1)) (by first | decide | omega) (by first | decide | omega) ?_
                    exact IH (nI 0) ri nw (rvF (rvF bw 0 nw) 0 nw) (rvF (rvF cw 0 nw) 0 nw) np bp cp ti co dn fr fk fs ft ven vpn fe ff vle vlt fle flp (vp_updL fo 0 (nI nw).toInt64) (by first | assumption | omega) (by first | assumption | omega) (by first | assumption | omega) (by first | assumption | omega) (by first | assumption | omega) (by exact oc_rv (oc_rv hbw (Nat.le_refl _)) (Nat.le_refl _)) (by exact oc_rv (oc_rv hcw (Nat.le_refl _)) (Nat.le_refl _)) (by first | assumption)
                  ·
                    exact absurd ((lg_cmp_eq _ _).mpr (rfl)) h_75
              ·
                exact absurd h_73 (by first | decide | omega)
        ·
          refine x_aload_n C dL_law_619 rfl 1 rfl ?_
          refine x_aload_n C dL_law_620 rfl 0 rfl ?_
          refine x_iload C dL_law_621 4 rfl ?_
          refine x_iconst C (nI 1) dL_law_623 (by decide +kernel) ?_
          refine xn_iadd C dL_law_624 ?_
          refine x_sld C hX hbl hbA (j := 3 * t9 + 1) (by omega) (by omega) dL_law_625 ?_
          refine x_if_eq C 633 dL_law_626 (by decide) (fun h_76 => ?_) (fun h_76 => ?_)
          ·
            exact absurd h_76 hb
          ·
            refine x_iconst C (nI 1) dL_law_629 (by decide +kernel) ?_
            refine x_goto C 634 dL_law_630 (by decide) ?_
            refine x_aload_n C dL_law_634 rfl 0 rfl ?_
            refine x_iload C dL_law_635 4 rfl ?_
            refine x_iconst C (nI 2) dL_law_637 (by decide +kernel) ?_
            refine xn_iadd C dL_law_638 ?_
            refine x_sld C hX hbl hbA (j := 3 * t9 + 2) (by omega) (by omega) dL_law_639 ?_
            refine x_topi (nI pl) (by exact hpl) ?_
            refine x_aload_n C dL_law_640 rfl 3 rfl ?_
            refine x_calliW (x_runSWW C hK hNW hH0 hZ hNC hA (c_w_rotateA1 l hl0 D tys cI cJ hI hJ x qw qv qt ri qd qc ql wa wo nw bw cw pl out fo (by first | omega | assumption) (by first | omega | assumption) (by first | omega | assumption) (by first | omega | assumption)) (vx_cwSW 4 C.2.2.2.2 gL_law_L_rotate rfl rfl rfl (by decide +kernel) ⟨by decide, by decide⟩) [0, 1, 2, 3, 29] rfl (by decide) (st := []) rfl rfl (Nat.le_of_ble_eq_true rfl) dL_law_641 ⟨by first | decide | omega | exact (show _ ≤ 719372 by omega), by first | decide | omega | exact (show _ ≤ 6937989 by omega)⟩) hA [0, 1, 2, 3, 29] rfl [4, 5, 6, 7, 8, 9, 10, 11, 12, 13, 14, 15, 16, 17, 18, 19, 20, 21, 22, 23, 24, 25, 26, 27, 28] [(qv, OB 3 [.ref pa, .ref po, .int (nI np)]), (pa, AI cI 40 bp), (po, AI cI 40 cp), (qt, AI cI 10 ti), (qd, OB 1 [.ref dr, .ref dk, .ref ds, .ref dt, .int (nI co), .int (nI dn)]), (dr, AJ cJ 40 fr), (dk, AJ cJ 40 fk), (ds, AI cI 40 fs), (dt, AI cI 40 ft), (qc, OB 0 [.ref ce, .ref cf, .int ven, .int vpn]), (ce, AJ cJ 40 fe), (cf, AI cI 41 ff), (ql, OB 2 [.ref le, .ref lp, .int vle, .int vlt]), (le, AJ cJ 80 fle), (lp, AJ cJ 80 flp), (yo, OB 5 [.int thr, .int ri, .ref yt, .ref ys, .ref yf, .ref yc, .int (nI co), .int (nI dn), .ref yd]), (yt, AI cI 10 ti), (ys, AI cI 2 (sz2 nw np)), (yf, AR cA 2 (gr2 g0 g1)), (g0, AI cI 40 bw), (g1, AI cI 40 bp), (yc, AR cA 2 (gr2 k0 k1)), (k0, AI cI 40 cw), (k1, AI cI 40 cp), (yd, AJ cJ 40 fr)] rfl (by decide) (by decide) [25, 26, 27, 28, 0, 1, 2, 3, 4, 5, 6, 7, 8, 9, 10, 11, 12, 13, 14, 15, 16, 17, 18, 19, 20, 21, 22, 23, 24, 29] (by decide) (wf := (fun (u : Unit) => [(x, OB 4 [.ref qw, .ref qv, .ref qt, .int ri, .ref qd, .ref qc, .ref ql]), (qw, OB 3 [.ref wa, .ref wo, .int (nI nw)]), (wa, AI cI 40 (rvF (rvF (rvF bw 0 nw) 0 (pl % nw)) (pl % nw) nw)), (wo, AI cI 40 (rvF (rvF (rvF cw 0 nw) 0 (pl % nw)) (pl % nw) nw)), (qv, OB 3 [.ref pa, .ref po, .int (nI np)]), (pa, AI cI 40 bp), (po, AI cI 40 cp), (qt, AI cI 10 ti), (qd, OB 1 [.ref dr, .ref dk, .ref ds, .ref dt, .int (nI co), .int (nI dn)]), (dr, AJ cJ 40 fr), (dk, AJ cJ 40 fk), (ds, AI cI 40 fs), (dt, AI cI 40 ft), (qc, OB 0 [.ref ce, .ref cf, .int ven, .int vpn]), (ce, AJ cJ 40 fe), (cf, AI cI 41 ff), (ql, OB 2 [.ref le, .ref lp, .int vle, .int vlt]), (le, AJ cJ 80 fle), (lp, AJ cJ 80 flp), (yo, OB 5 [.int thr, .int ri, .ref yt, .ref ys, .ref yf, .ref yc, .int (nI co), .int (nI dn), .ref yd]), (yt, AI cI 10 ti), (ys, AI cI 2 (sz2 nw np)), (yf, AR cA 2 (gr2 g0 g1)), (g0, AI cI 40 bw), (g1, AI cI 40 bp), (yc, AR cA 2 (gr2 k0 k1)), (k0, AI cI 40 cw), (k1, AI cI 40 cp), (yd, AJ cJ 40 fr), (out, AJ cJ 1 (vp_updL fo 0 (nI nw).toInt64))])) (fun _ => rfl) (fun r_77 u h_78 => ?_)
            refine x_widen ((40 + 90 * t9) + 1) ((1000 + 300 * t9) + 6) (by first | decide | omega) (by first | decide | omega) ?_
            subst h_78
            refine x_istore C [(5, .int (nI 0)), (0, .ref b0), (1, .ref x), (2, .ref yo), (3, .ref out), (4, .int (nI (3 * t9)))] dL_law_644 (by decide) rfl ?_
            refine x_aload_n C dL_law_646 rfl 3 rfl ?_
            refine x_aload_n C dL_law_647 rfl 1 rfl ?_
            refine x_iload C dL_law_648 5 rfl ?_
            refine x_iconst C (nI 1) dL_law_650 (by decide +kernel) ?_
            refine xn_iadd C dL_law_651 ?_
            refine x_sld C hX hbl hbA (j := 3 * t9 + 1) (by omega) (by omega) dL_law_652 ?_
            refine x_if_eq C 660 dL_law_653 (by decide) (fun h_79 => ?_) (fun h_79 => ?_)
            ·
              exact absurd h_79 hb
            ·
              refine x_iconst C (nI 1) dL_law_656 (by decide +kernel) ?_
              refine x_goto C 661 dL_law_657 (by decide) ?_
              refine x_aload_n C dL_law_661 rfl 1 rfl ?_
              refine x_iload C dL_law_662 5 rfl ?_
              refine x_iconst C (nI 2) dL_law_664 (by decide +kernel) ?_
              refine xn_iadd C dL_law_665 ?_
              refine x_sld C hX hbl hbA (j := 3 * t9 + 2) (by omega) (by omega) dL_law_666 ?_
              refine x_topi (nI pl) (by exact hpl) ?_
              refine x_calli (x_runV C hK hNW (c_m_rotateA1 l D tys cI cJ cA hI hJ hR yo thr ri yt ys yf yc co dn yd nw np g0 g1 bw bp k0 k1 cw cp pl (by first | omega | assumption) (by first | omega | assumption) (by first | omega | assumption) (by first | omega | assumption)) (cwV 2 C.2.2.2.2 gL_law_X5_rotate rfl rfl rfl (by decide +kernel) ⟨by decide, by decide⟩) [19, 21, 22, 23, 24, 25, 26, 27] rfl (by decide) 19 5 rfl rfl rfl (st := []) rfl rfl (Nat.le_of_ble_eq_true rfl) dL_law_667 ⟨by first | decide | omega | exact (show _ ≤ 719372 by omega), by first | decide | omega | exact (show _ ≤ 6937989 by omega)⟩) hA [19, 21, 22, 23, 24, 25, 26, 27] rfl [0, 1, 2, 3, 4, 5, 6, 7, 8, 9, 10, 11, 12, 13, 14, 15, 16, 17, 18, 20, 28, 29] [(x, OB 4 [.ref qw, .ref qv, .ref qt, .int ri, .ref qd, .ref qc, .ref ql]), (qw, OB 3 [.ref wa, .ref wo, .int (nI nw)]), (wa, AI cI 40 (rvF (rvF (rvF bw 0 nw) 0 (pl % nw)) (pl % nw) nw)), (wo, AI cI 40 (rvF (rvF (rvF cw 0 nw) 0 (pl % nw)) (pl % nw) nw)), (qv, OB 3 [.ref pa, .ref po, .int (nI np)]), (pa, AI cI 40 bp), (po, AI cI 40 cp), (qt, AI cI 10 ti), (qd, OB 1 [.ref dr, .ref dk, .ref ds, .ref dt, .int (nI co), .int (nI dn)]), (dr, AJ cJ 40 fr), (dk, AJ cJ 40 fk), (ds, AI cI 40 fs), (dt, AI cI 40 ft), (qc, OB 0 [.ref ce, .ref cf, .int ven, .int vpn]), (ce, AJ cJ 40 fe), (cf, AI cI 41 ff), (ql, OB 2 [.ref le, .ref lp, .int vle, .int vlt]), (le, AJ cJ 80 fle), (lp, AJ cJ 80 flp), (yt, AI cI 10 ti), (yd, AJ cJ 40 fr), (out, AJ cJ 1 (vp_updL fo 0 (nI nw).toInt64))] rfl (by decide) (by decide) [0, 1, 2, 3, 4, 5, 6, 7, 8, 9, 10, 11, 12, 13, 14, 15, 16, 17, 18, 22, 19, 23, 24, 25, 26, 27, 28, 29, 20, 21] (by decide) (wf := (fun (u : Unit) => [(x, OB 4 [.ref qw, .ref qv, .ref qt, .int ri, .ref qd, .ref qc, .ref ql]), (qw, OB 3 [.ref wa, .ref wo, .int (nI nw)]), (wa, AI cI 40 (rvF (rvF (rvF bw 0 nw) 0 (pl % nw)) (pl % nw) nw)), (wo, AI cI 40 (rvF (rvF (rvF cw 0 nw) 0 (pl % nw)) (pl % nw) nw)), (qv, OB 3 [.ref pa, .ref po, .int (nI np)]), (pa, AI cI 40 bp), (po, AI cI 40 cp), (qt, AI cI 10 ti), (qd, OB 1 [.ref dr, .ref dk, .ref ds, .ref dt, .int (nI co), .int (nI dn)]), (dr, AJ cJ 40 fr), (dk, AJ cJ 40 fk), (ds, AI cI 40 fs), (dt, AI cI 40 ft), (qc, OB 0 [.ref ce, .ref cf, .int ven, .int vpn]), (ce, AJ cJ 40 fe), (cf, AI cI 41 ff), (ql, OB 2 [.ref le, .ref lp, .int vle, .int vlt]), (le, AJ cJ 80 fle), (lp, AJ cJ 80 flp), (yo, OB 5 [.int (nI 0), .int ri, .ref yt, .ref ys, .ref yf, .ref yc, .int (nI co), .int (nI dn), .ref yd]), (yt, AI cI 10 ti), (ys, AI cI 2 (sz2 nw np)), (yf, AR cA 2 (gr2 g0 g1)), (g0, AI cI 40 (rvF (rvF (rvF bw 0 nw) 0 (pl % nw)) (pl % nw) nw)), (g1, AI cI 40 bp), (yc, AR cA 2 (gr2 k0 k1)), (k0, AI cI 40 (rvF (rvF (rvF cw 0 nw) 0 (pl % nw)) (pl % nw) nw)), (k1, AI cI 40 cp), (yd, AJ cJ 40 fr), (out, AJ cJ 1 (vp_updL fo 0 (nI nw).toInt64))])) (fun _ => rfl) (fun r_80 u h_81 => ?_)
              refine x_widen (((40 + 90 * t9) + 1) + 3) (((1000 + 300 * t9) + 6) + 120) (by first | decide | omega) (by first | decide | omega) ?_
              subst h_81
              refine x_istore C [(6, .int (nI nw)), (5, .int (nI 0)), (0, .ref b0), (1, .ref x), (2, .ref yo), (3, .ref out), (4, .int (nI (3 * t9)))] dL_law_670 (by decide) rfl ?_
              refine x_aload_n C dL_law_672 rfl 4 rfl ?_
              refine x_calli (x_runV C hK hNW (c_m_thrown l D tys cI cJ cA hI hJ hR yo (nI 0) ri yt ys yf yc co dn yd ) (cwV 0 C.2.2.2.2 gL_law_X5_thrown rfl rfl rfl (by decide +kernel) ⟨by decide, by decide⟩) [19] rfl (by decide) 19 5 rfl rfl rfl (st := []) rfl rfl (Nat.le_of_ble_eq_true rfl) dL_law_673 ⟨by first | decide | omega | exact (show _ ≤ 719372 by omega), by first | decide | omega | exact (show _ ≤ 6937989 by omega)⟩) hA [19] rfl [0, 1, 2, 3, 4, 5, 6, 7, 8, 9, 10, 11, 12, 13, 14, 15, 16, 17, 18, 20, 21, 22, 23, 24, 25, 26, 27, 28, 29] [(x, OB 4 [.ref qw, .ref qv, .ref qt, .int ri, .ref qd, .ref qc, .ref ql]), (qw, OB 3 [.ref wa, .ref wo, .int (nI nw)]), (wa, AI cI 40 (rvF (rvF (rvF bw 0 nw) 0 (pl % nw)) (pl % nw) nw)), (wo, AI cI 40 (rvF (rvF (rvF cw 0 nw) 0 (pl % nw)) (pl % nw) nw)), (qv, OB 3 [.ref pa, .ref po, .int (nI np)]), (pa, AI cI 40 bp), (po, AI cI 40 cp), (qt, AI cI 10 ti), (qd, OB 1 [.ref dr, .ref dk, .ref ds, .ref dt, .int (nI co), .int (nI dn)]), (dr, AJ cJ 40 fr), (dk, AJ cJ 40 fk), (ds, AI cI 40 fs), (dt, AI cI 40 ft), (qc, OB 0 [.ref ce, .ref cf, .int ven, .int vpn]), (ce, AJ cJ 40 fe), (cf, AI cI 41 ff), (ql, OB 2 [.ref le, .ref lp, .int vle, .int vlt]), (le, AJ cJ 80 fle), (lp, AJ cJ 80 flp), (yt, AI cI 10 ti), (ys, AI cI 2 (sz2 nw np)), (yf, AR cA 2 (gr2 g0 g1)), (g0, AI cI 40 (rvF (rvF (rvF bw 0 nw) 0 (pl % nw)) (pl % nw) nw)), (g1, AI cI 40 bp), (yc, AR cA 2 (gr2 k0 k1)), (k0, AI cI 40 (rvF (rvF (rvF cw 0 nw) 0 (pl % nw)) (pl % nw) nw)), (k1, AI cI 40 cp), (yd, AJ cJ 40 fr), (out, AJ cJ 1 (vp_updL fo 0 (nI nw).toInt64))] rfl (by decide) (by decide) [0, 1, 2, 3, 4, 5, 6, 7, 8, 9, 10, 11, 12, 13, 14, 15, 16, 17, 18, 29, 19, 20, 21, 22, 23, 24, 25, 26, 27, 28] (by decide) (wf := (fun (u : Unit) => [(x, OB 4 [.ref qw, .ref qv, .ref qt, .int ri, .ref qd, .ref qc, .ref ql]), (qw, OB 3 [.ref wa, .ref wo, .int (nI nw)]), (wa, AI cI 40 (rvF (rvF (rvF bw 0 nw) 0 (pl % nw)) (pl % nw) nw)), (wo, AI cI 40 (rvF (rvF (rvF cw 0 nw) 0 (pl % nw)) (pl % nw) nw)), (qv, OB 3 [.ref pa, .ref po, .int (nI np)]), (pa, AI cI 40 bp), (po, AI cI 40 cp), (qt, AI cI 10 ti), (qd, OB 1 [.ref dr, .ref dk, .ref ds, .ref dt, .int (nI co), .int (nI dn)]), (dr, AJ cJ 40 fr), (dk, AJ cJ 40 fk), (ds, AI cI 40 fs), (dt, AI cI 40 ft), (qc, OB 0 [.ref ce, .ref cf, .int ven, .int vpn]), (ce, AJ cJ 40 fe), (cf, AI cI 41 ff), (ql, OB 2 [.ref le, .ref lp, .int vle, .int vlt]), (le, AJ cJ 80 fle), (lp, AJ cJ 80 flp), (yo, OB 5 [.int (nI 0), .int ri, .ref yt, .ref ys, .ref yf, .ref yc, .int (nI co), .int (nI dn), .ref yd]), (yt, AI cI 10 ti), (ys, AI cI 2 (sz2 nw np)), (yf, AR cA 2 (gr2 g0 g1)), (g0, AI cI 40 (rvF (rvF (rvF bw 0 nw) 0 (pl % nw)) (pl % nw) nw)), (g1, AI cI 40 bp), (yc, AR cA 2 (gr2 k0 k1)), (k0, AI cI 40 (rvF (rvF (rvF cw 0 nw) 0 (pl % nw)) (pl % nw) nw)), (k1, AI cI 40 cp), (yd, AJ cJ 40 fr), (out, AJ cJ 1 (vp_updL fo 0 (nI nw).toInt64))])) (fun _ => rfl) (fun r_82 u h_83 => ?_)
              refine x_widen (((40 + 90 * t9) + 1) + 3) (((1000 + 300 * t9) + 6) + 120) (by first | decide | omega) (by first | decide | omega) ?_
              subst h_83
              refine x_iload C dL_law_676 1 rfl ?_
              refine xn_icmp_eq C 683 (by omega) (by omega) dL_law_678 (by decide) (fun h_84 => ?_) (fun h_84 => ?_)
              ·
                refine x_iload C dL_law_683 1 rfl ?_
                refine xn_if_ne C 700 (by omega) dL_law_685 (by decide) (fun h_85 => ?_) (fun h_85 => ?_)
                ·
                  exact absurd h_85 (by first | decide | omega)
                ·
                  refine x_aload_n C dL_law_688 rfl 5 rfl ?_
                  refine x_iconst C (nI 0) dL_law_689 (by decide +kernel) ?_
                  refine x_lald C hK 29 1 rfl hJ (by omega) (by omega) dL_law_690 ?_
                  refine x_topl (nI nw).toInt64 (by exact pk_uLs) ?_
                  refine x_iload C dL_law_691 0 rfl ?_
                  refine x_i2l C _ dL_law_693 rfl ?_
                  refine x_lcmp C dL_law_694 ?_
                  refine x_if_eq C 700 dL_law_695 (by decide) (fun h_86 => ?_) (fun h_86 => ?_)
                  ·
                    refine x_goto C 1590 dL_law_700 (by decide) ?_
                    refine xn_iinc C ((3 * t9) + 3) [(4, .int (nI ((3 * t9) + 3))), (6, .int (nI nw)), (5, .int (nI 0)), (0, .ref b0), (1, .ref x), (2, .ref yo), (3, .ref out)] dL_law_1590 6 rfl (by rw [show Int32.ofInt 3 = nI 3 from by decide +kernel]; exact nI_add _ _) (by decide) rfl ?_
                    refine x_goto C 23 dL_law_1593 (by decide) ?_
                    refine x_lv [(0, .ref b0), (1, .ref x), (2, .ref yo), (3, .ref out), (4, .int (nI (3 * (t9 + 1))))] [3, 4, 5, 6, 0] (by rw [show 3 * (t9 + 1) = (3 * t9) + 3 from by first | rfl | omega]; rfl) ?_
                    refine x_widen (40 + 90 * (t9 + 1)) (1000 + 300 * (t9 + 1)) (by first | decide | omega) (by first | decide | omega) ?_
                    exact IH (nI 0) ri nw (rvF (rvF (rvF bw 0 nw) 0 (pl % nw)) (pl % nw) nw) (rvF (rvF (rvF cw 0 nw) 0 (pl % nw)) (pl % nw) nw) np bp cp ti co dn fr fk fs ft ven vpn fe ff vle vlt fle flp (vp_updL fo 0 (nI nw).toInt64) (by first | assumption | omega) (by first | assumption | omega) (by first | assumption | omega) (by first | assumption | omega) (by first | assumption | omega) (by exact oc_rv (oc_rv (oc_rv hbw (Nat.le_refl _)) (Nat.le_of_lt (Nat.mod_lt _ hz))) (Nat.le_refl _)) (by exact oc_rv (oc_rv (oc_rv hcw (Nat.le_refl _)) (Nat.le_of_lt (Nat.mod_lt _ hz))) (Nat.le_refl _)) (by first | assumption)
                  ·
                    exact absurd ((lg_cmp_eq _ _).mpr (rfl)) h_86
              ·
                exact absurd h_84 (by first | decide | omega)
