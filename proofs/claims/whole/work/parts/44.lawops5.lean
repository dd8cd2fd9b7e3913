/-! the law, call by call -/
set_option maxRecDepth 100000 in
set_option maxHeartbeats 8000000 in
theorem op_longest {p : Program} {l : Launch} {e : Env} {s : State} {m : MethodId} {args : Array Value} {bel : List Frame} {meth : Method} {c : Code} {Q : State → Prop} {D : va_G} {A : Nat → Prop} {H0 : Heap} {tys : List (ClassId × FieldType)} {cI cJ cA cW : ClassId} {b0 L9 : Nat} {xs : Nat → Int32} (hl0 : l.stackTraces = false) (hI : tys[0]? = some (cI, .int)) (hJ : tys[1]? = some (cJ, .long)) (hR : tys[2]? = some (cA, .array .int)) (hB : tys[3]? = some (cW, .array .long)) (C : CallFix p m c cL_law 9 s args wsL_law RL) (hK : va_K D vwCl tys s) (hNW : NW s) (hH0 : H0 = s.heap) (hA : ∀ q, H0.size ≤ q → A q) (hZ : ZQ A s s.heap) (hNC : NC3 s) (hX : va_X b0 L9 xs s H0) (hbl : b0 < H0.size) (hbA : ¬ A b0) (hL : L9 ≤ 1536) {x qw wa wo qv pa po qt qd dr dk ds dt qc ce cf ql le lp yo yt ys yf g0 g1 yc k0 k1 yd out : Nat} (thr : Int32) (ri : Int32) (nw : Nat) (bw : Nat → Int32) (cw : Nat → Int32) (np : Nat) (bp : Nat → Int32) (cp : Nat → Int32) (ti : Nat → Int32) (co : Nat) (dn : Nat) (fr : Nat → Int64) (fk : Nat → Int64) (fs : Nat → Int32) (ft : Nat → Int32) (ven : Int32) (vpn : Int32) (fe : Nat → Int64) (ff : Nat → Int32) (vle : Int32) (vlt : Int32) (fle : Nat → Int64) (flp : Nat → Int64) (fo : Nat → Int64) (hnw : nw ≤ 40) (hnp : np ≤ 40) (hco : co ≤ 40) (hdn : dn ≤ 40) (hri : ri = 0 ∨ ri = 1) (hbw : oc8 nw bw) (hcw : oc8 nw cw) (hcp : oc8 np cp) (t9 : Nat) (ht9 : 3 * t9 + 3 ≤ L9) (IH : ∀ (thr : Int32) (ri : Int32) (nw : Nat) (bw : Nat → Int32) (cw : Nat → Int32) (np : Nat) (bp : Nat → Int32) (cp : Nat → Int32) (ti : Nat → Int32) (co : Nat) (dn : Nat) (fr : Nat → Int64) (fk : Nat → Int64) (fs : Nat → Int32) (ft : Nat → Int32) (ven : Int32) (vpn : Int32) (fe : Nat → Int64) (ff : Nat → Int32) (vle : Int32) (vlt : Int32) (fle : Nat → Int64) (flp : Nat → Int64) (fo : Nat → Int64), (nw ≤ 40) → (np ≤ 40) → (co ≤ 40) → (dn ≤ 40) → (ri = 0 ∨ ri = 1) → (oc8 nw bw) → (oc8 nw cw) → (oc8 np cp) → X_ p l e room_1 s m args bel meth c Q D A H0 9 (40 + 90 * (t9 + 1)) (1000 + 300 * (t9 + 1)) [(x, OB 4 [.ref qw, .ref qv, .ref qt, .int ri, .ref qd, .ref qc, .ref ql]), (qw, OB 3 [.ref wa, .ref wo, .int (nI nw)]), (wa, AI cI 40 bw), (wo, AI cI 40 cw), (qv, OB 3 [.ref pa, .ref po, .int (nI np)]), (pa, AI cI 40 bp), (po, AI cI 40 cp), (qt, AI cI 10 ti), (qd, OB 1 [.ref dr, .ref dk, .ref ds, .ref dt, .int (nI co), .int (nI dn)]), (dr, AJ cJ 40 fr), (dk, AJ cJ 40 fk), (ds, AI cI 40 fs), (dt, AI cI 40 ft), (qc, OB 0 [.ref ce, .ref cf, .int ven, .int vpn]), (ce, AJ cJ 40 fe), (cf, AI cI 41 ff), (ql, OB 2 [.ref le, .ref lp, .int vle, .int vlt]), (le, AJ cJ 80 fle), (lp, AJ cJ 80 flp), (yo, OB 5 [.int thr, .int ri, .ref yt, .ref ys, .ref yf, .ref yc, .int (nI co), .int (nI dn), .ref yd]), (yt, AI cI 10 ti), (ys, AI cI 2 (sz2 nw np)), (yf, AR cA 2 (gr2 g0 g1)), (g0, AI cI 40 bw), (g1, AI cI 40 bp), (yc, AR cA 2 (gr2 k0 k1)), (k0, AI cI 40 cw), (k1, AI cI 40 cp), (yd, AJ cJ 40 fr), (out, AJ cJ 1 fo)] [(0, .ref b0), (1, .ref x), (2, .ref yo), (3, .ref out), (4, .int (nI (3 * (t9 + 1))))] 23 []) : X_ p l e room_1 s m args bel meth c Q D A H0 9 (40 + 90 * t9) (1000 + 300 * t9) [(x, OB 4 [.ref qw, .ref qv, .ref qt, .int ri, .ref qd, .ref qc, .ref ql]), (qw, OB 3 [.ref wa, .ref wo, .int (nI nw)]), (wa, AI cI 40 bw), (wo, AI cI 40 cw), (qv, OB 3 [.ref pa, .ref po, .int (nI np)]), (pa, AI cI 40 bp), (po, AI cI 40 cp), (qt, AI cI 10 ti), (qd, OB 1 [.ref dr, .ref dk, .ref ds, .ref dt, .int (nI co), .int (nI dn)]), (dr, AJ cJ 40 fr), (dk, AJ cJ 40 fk), (ds, AI cI 40 fs), (dt, AI cI 40 ft), (qc, OB 0 [.ref ce, .ref cf, .int ven, .int vpn]), (ce, AJ cJ 40 fe), (cf, AI cI 41 ff), (ql, OB 2 [.ref le, .ref lp, .int vle, .int vlt]), (le, AJ cJ 80 fle), (lp, AJ cJ 80 flp), (yo, OB 5 [.int thr, .int ri, .ref yt, .ref ys, .ref yf, .ref yc, .int (nI co), .int (nI dn), .ref yd]), (yt, AI cI 10 ti), (ys, AI cI 2 (sz2 nw np)), (yf, AR cA 2 (gr2 g0 g1)), (g0, AI cI 40 bw), (g1, AI cI 40 bp), (yc, AR cA 2 (gr2 k0 k1)), (k0, AI cI 40 cw), (k1, AI cI 40 cp), (yd, AJ cJ 40 fr), (out, AJ cJ 1 fo)] [(0, .ref b0), (1, .ref x), (2, .ref yo), (3, .ref out), (4, .int (nI (3 * t9)))] 1002 [] := by
  by_cases hb : xs (3 * t9 + 1) = 0
  ·
    by_cases hb2 : xs (3 * t9 + 2) = 0
    ·
      have hb1 := lgT_le (b := (fun x0 y0 => hbit ((wvF ri ti bp bw nw (fun _ => 0) np) x0) (nI y0) == true)) (n := nw) (N := 40) (by omega) np
      refine x_aload_n C dL_law_1002 rfl 1 rfl ?_
      refine x_aload_n C dL_law_1003 rfl 0 rfl ?_
      refine x_iload C dL_law_1004 4 rfl ?_
      refine x_iconst C (nI 1) dL_law_1006 (by decide +kernel) ?_
      refine xn_iadd C dL_law_1007 ?_
      refine x_sld C hX hbl hbA (j := 3 * t9 + 1) (by omega) (by omega) dL_law_1008 ?_
      refine x_if_eq C 1016 dL_law_1009 (by decide) (fun h_1 => ?_) (fun h_1 => ?_)
      ·
        refine x_iconst C (nI 0) dL_law_1016 (by decide +kernel) ?_
        refine x_aload_n C dL_law_1017 rfl 0 rfl ?_
        refine x_iload C dL_law_1018 4 rfl ?_
        refine x_iconst C (nI 2) dL_law_1020 (by decide +kernel) ?_
        refine xn_iadd C dL_law_1021 ?_
        refine x_sld C hX hbl hbA (j := 3 * t9 + 2) (by omega) (by omega) dL_law_1022 ?_
        refine x_if_eq C 1030 dL_law_1023 (by decide) (fun h_2 => ?_) (fun h_2 => ?_)
        ·
          refine x_iconst C (nI 0) dL_law_1030 (by decide +kernel) ?_
          refine x_calli (x_runV C hK hNW (c_longest00 l D tys cI cJ hI hJ x qw qv qt ri qd qc ql wa wo nw bw cw pa po np bp cp ti ce cf ven vpn fe ff (by first | omega | assumption) (by first | omega | assumption)) (cwV 2 C.2.2.2.2 gL_law_X4_longestFloat rfl rfl rfl (by decide +kernel) ⟨by decide, by decide⟩) [0, 1, 2, 3, 4, 5, 6, 7, 13, 14, 15] rfl (by decide) 0 4 rfl rfl rfl (st := []) rfl rfl (Nat.le_of_ble_eq_true rfl) dL_law_1031 ⟨by first | decide | omega | exact (show _ ≤ 719372 by omega), by first | decide | omega | exact (show _ ≤ 6937989 by omega)⟩) hA [0, 1, 2, 3, 4, 5, 6, 7, 13, 14, 15] rfl [8, 9, 10, 11, 12, 16, 17, 18, 19, 20, 21, 22, 23, 24, 25, 26, 27, 28, 29] [(qd, OB 1 [.ref dr, .ref dk, .ref ds, .ref dt, .int (nI co), .int (nI dn)]), (dr, AJ cJ 40 fr), (dk, AJ cJ 40 fk), (ds, AI cI 40 fs), (dt, AI cI 40 ft), (ql, OB 2 [.ref le, .ref lp, .int vle, .int vlt]), (le, AJ cJ 80 fle), (lp, AJ cJ 80 flp), (yo, OB 5 [.int thr, .int ri, .ref yt, .ref ys, .ref yf, .ref yc, .int (nI co), .int (nI dn), .ref yd]), (yt, AI cI 10 ti), (ys, AI cI 2 (sz2 nw np)), (yf, AR cA 2 (gr2 g0 g1)), (g0, AI cI 40 bw), (g1, AI cI 40 bp), (yc, AR cA 2 (gr2 k0 k1)), (k0, AI cI 40 cw), (k1, AI cI 40 cp), (yd, AJ cJ 40 fr), (out, AJ cJ 1 fo)] rfl (by decide) (by decide) [19, 20, 21, 22, 23, 24, 25, 26, 0, 1, 2, 3, 4, 27, 28, 29, 5, 6, 7, 8, 9, 10, 11, 12, 13, 14, 15, 16, 17, 18] (by decide) (wf := (fun (u : Nat) => [(x, OB 4 [.ref qw, .ref qv, .ref qt, .int ri, .ref qd, .ref qc, .ref ql]), (qw, OB 3 [.ref wa, .ref wo, .int (nI nw)]), (wa, AI cI 40 bw), (wo, AI cI 40 cw), (qv, OB 3 [.ref pa, .ref po, .int (nI np)]), (pa, AI cI 40 bp), (po, AI cI 40 cp), (qt, AI cI 10 ti), (qd, OB 1 [.ref dr, .ref dk, .ref ds, .ref dt, .int (nI co), .int (nI dn)]), (dr, AJ cJ 40 fr), (dk, AJ cJ 40 fk), (ds, AI cI 40 fs), (dt, AI cI 40 ft), (qc, OB 0 [.ref ce, .ref cf, .int (nI nw), .int (nI np)]), (ce, AJ cJ 40 (wvF ri ti bp bw nw fe np)), (cf, AI cI 41 (cfT (fun x0 y0 => hbit ((wvF ri ti bp bw nw fe np) x0) (nI y0) == true) nw (flF ff 0 41) np)), (ql, OB 2 [.ref le, .ref lp, .int vle, .int vlt]), (le, AJ cJ 80 fle), (lp, AJ cJ 80 flp), (yo, OB 5 [.int thr, .int ri, .ref yt, .ref ys, .ref yf, .ref yc, .int (nI co), .int (nI dn), .ref yd]), (yt, AI cI 10 ti), (ys, AI cI 2 (sz2 nw np)), (yf, AR cA 2 (gr2 g0 g1)), (g0, AI cI 40 bw), (g1, AI cI 40 bp), (yc, AR cA 2 (gr2 k0 k1)), (k0, AI cI 40 cw), (k1, AI cI 40 cp), (yd, AJ cJ 40 fr), (out, AJ cJ 1 fo)])) (fun _ => rfl) (fun r_4 u h_5 => ?_)
          obtain ⟨Lm_3, rfl⟩ : ∃ z, z = u := ⟨_, rfl⟩
          try dsimp only at h_5 ⊢
          refine x_widen (40 + 90 * t9) (1000 + 300 * t9) (by first | decide | omega) (by first | decide | omega) ?_
          obtain ⟨rfl, h_5⟩ := h_5
          have hLm : Lm_3 = lgT (fun x0 y0 => hbit ((wvF ri ti bp bw nw (fun _ => 0) np) x0) (nI y0) == true) nw np := lf_eq (by omega) (by omega) (fun x hx y hy => by show (hbit ((wvF ri ti bp bw nw fe np) x) (nI y) == true) = (hbit ((wvF ri ti bp bw nw (fun _ => 0) np) x) (nI y) == true); rw [wv_eq ri ti bp bw nw np fe hx]) h_5
          subst hLm
          refine x_aload_n C dL_law_1034 rfl 2 rfl ?_
          refine x_aload_n C dL_law_1035 rfl 0 rfl ?_
          refine x_iload C dL_law_1036 4 rfl ?_
          refine x_iconst C (nI 1) dL_law_1038 (by decide +kernel) ?_
          refine xn_iadd C dL_law_1039 ?_
          refine x_sld C hX hbl hbA (j := 3 * t9 + 1) (by omega) (by omega) dL_law_1040 ?_
          refine x_if_eq C 1048 dL_law_1041 (by decide) (fun h_6 => ?_) (fun h_6 => ?_)
          ·
            refine x_iconst C (nI 0) dL_law_1048 (by decide +kernel) ?_
            refine x_aload_n C dL_law_1049 rfl 0 rfl ?_
            refine x_iload C dL_law_1050 4 rfl ?_
            refine x_iconst C (nI 2) dL_law_1052 (by decide +kernel) ?_
            refine xn_iadd C dL_law_1053 ?_
            refine x_sld C hX hbl hbA (j := 3 * t9 + 2) (by omega) (by omega) dL_law_1054 ?_
            refine x_if_eq C 1062 dL_law_1055 (by decide) (fun h_7 => ?_) (fun h_7 => ?_)
            ·
              refine x_iconst C (nI 0) dL_law_1062 (by decide +kernel) ?_
              refine x_calli (x_runV C hK hNW (c_m_longest00 l D tys cI cJ cA hI hJ hR yo thr ri yt ys yf yc co dn yd nw np ti g0 g1 bw bp (by first | omega | assumption) (by first | omega | assumption) (by first | omega | assumption) (by first | omega | assumption)) (cwV 2 C.2.2.2.2 gL_law_X5_longestFloat rfl rfl rfl (by decide +kernel) ⟨by decide, by decide⟩) [19, 21, 20, 22, 23, 24] rfl (by decide) 19 5 rfl rfl rfl (st := [.int (nI (lgT (fun x0 y0 => hbit ((wvF ri ti bp bw nw (fun _ => 0) np) x0) (nI y0) == true) nw np))]) rfl rfl (Nat.le_of_ble_eq_true rfl) dL_law_1063 ⟨by first | decide | omega | exact (show _ ≤ 719372 by omega), by first | decide | omega | exact (show _ ≤ 6937989 by omega)⟩) hA [19, 21, 20, 22, 23, 24] rfl [0, 1, 2, 3, 4, 5, 6, 7, 8, 9, 10, 11, 12, 13, 14, 15, 16, 17, 18, 25, 26, 27, 28, 29] [(x, OB 4 [.ref qw, .ref qv, .ref qt, .int ri, .ref qd, .ref qc, .ref ql]), (qw, OB 3 [.ref wa, .ref wo, .int (nI nw)]), (wa, AI cI 40 bw), (wo, AI cI 40 cw), (qv, OB 3 [.ref pa, .ref po, .int (nI np)]), (pa, AI cI 40 bp), (po, AI cI 40 cp), (qt, AI cI 10 ti), (qd, OB 1 [.ref dr, .ref dk, .ref ds, .ref dt, .int (nI co), .int (nI dn)]), (dr, AJ cJ 40 fr), (dk, AJ cJ 40 fk), (ds, AI cI 40 fs), (dt, AI cI 40 ft), (qc, OB 0 [.ref ce, .ref cf, .int (nI nw), .int (nI np)]), (ce, AJ cJ 40 (wvF ri ti bp bw nw fe np)), (cf, AI cI 41 (cfT (fun x0 y0 => hbit ((wvF ri ti bp bw nw fe np) x0) (nI y0) == true) nw (flF ff 0 41) np)), (ql, OB 2 [.ref le, .ref lp, .int vle, .int vlt]), (le, AJ cJ 80 fle), (lp, AJ cJ 80 flp), (yc, AR cA 2 (gr2 k0 k1)), (k0, AI cI 40 cw), (k1, AI cI 40 cp), (yd, AJ cJ 40 fr), (out, AJ cJ 1 fo)] rfl (by decide) (by decide) [0, 1, 2, 3, 4, 5, 6, 7, 8, 9, 10, 11, 12, 13, 14, 15, 16, 17, 18, 24, 26, 25, 27, 28, 29, 19, 20, 21, 22, 23] (by decide) (wf := (fun (u : Unit) => [(x, OB 4 [.ref qw, .ref qv, .ref qt, .int ri, .ref qd, .ref qc, .ref ql]), (qw, OB 3 [.ref wa, .ref wo, .int (nI nw)]), (wa, AI cI 40 bw), (wo, AI cI 40 cw), (qv, OB 3 [.ref pa, .ref po, .int (nI np)]), (pa, AI cI 40 bp), (po, AI cI 40 cp), (qt, AI cI 10 ti), (qd, OB 1 [.ref dr, .ref dk, .ref ds, .ref dt, .int (nI co), .int (nI dn)]), (dr, AJ cJ 40 fr), (dk, AJ cJ 40 fk), (ds, AI cI 40 fs), (dt, AI cI 40 ft), (qc, OB 0 [.ref ce, .ref cf, .int (nI nw), .int (nI np)]), (ce, AJ cJ 40 (wvF ri ti bp bw nw fe np)), (cf, AI cI 41 (cfT (fun x0 y0 => hbit ((wvF ri ti bp bw nw fe np) x0) (nI y0) == true) nw (flF ff 0 41) np)), (ql, OB 2 [.ref le, .ref lp, .int vle, .int vlt]), (le, AJ cJ 80 fle), (lp, AJ cJ 80 flp), (yo, OB 5 [.int (nI 0), .int ri, .ref yt, .ref ys, .ref yf, .ref yc, .int (nI co), .int (nI dn), .ref yd]), (yt, AI cI 10 ti), (ys, AI cI 2 (sz2 nw np)), (yf, AR cA 2 (gr2 g0 g1)), (g0, AI cI 40 bw), (g1, AI cI 40 bp), (yc, AR cA 2 (gr2 k0 k1)), (k0, AI cI 40 cw), (k1, AI cI 40 cp), (yd, AJ cJ 40 fr), (out, AJ cJ 1 fo)])) (fun _ => rfl) (fun r_8 u h_9 => ?_)
              refine x_widen ((40 + 90 * t9) + 1) ((1000 + 300 * t9) + 40) (by first | decide | omega) (by first | decide | omega) ?_
              subst h_9
              refine xn_icmp_eq C 1590 (by omega) (by omega) dL_law_1066 (by decide) (fun h_10 => ?_) (fun h_10 => ?_)
              ·
                refine xn_iinc C ((3 * t9) + 3) [(4, .int (nI ((3 * t9) + 3))), (0, .ref b0), (1, .ref x), (2, .ref yo), (3, .ref out)] dL_law_1590 4 rfl (by rw [show Int32.ofInt 3 = nI 3 from by decide +kernel]; exact nI_add _ _) (by decide) rfl ?_
                refine x_goto C 23 dL_law_1593 (by decide) ?_
                refine x_lv [(0, .ref b0), (1, .ref x), (2, .ref yo), (3, .ref out), (4, .int (nI (3 * (t9 + 1))))] [1, 2, 3, 4, 0] (by rw [show 3 * (t9 + 1) = (3 * t9) + 3 from by first | rfl | omega]; rfl) ?_
                refine x_widen (40 + 90 * (t9 + 1)) (1000 + 300 * (t9 + 1)) (by first | decide | omega) (by first | decide | omega) ?_
                exact IH (nI 0) ri nw bw cw np bp cp ti co dn fr fk fs ft (nI nw) (nI np) (wvF ri ti bp bw nw fe np) (cfT (fun x0 y0 => hbit ((wvF ri ti bp bw nw fe np) x0) (nI y0) == true) nw (flF ff 0 41) np) vle vlt fle flp fo (by first | assumption | omega) (by first | assumption | omega) (by first | assumption | omega) (by first | assumption | omega) (by first | assumption | omega) (by first | assumption) (by first | assumption) (by first | assumption)
              ·
                exact absurd (rfl) h_10
            ·
              exact absurd hb2 h_7
          ·
            exact absurd hb h_6
        ·
          exact absurd hb2 h_2
      ·
        exact absurd hb h_1
    ·
      have hb1 := lgT_le (b := (fun x0 y0 => hbit ((wvF ri ti bp bw nw (fun _ => 0) np) x0) (nI y0) == false)) (n := nw) (N := 40) (by omega) np
      refine x_aload_n C dL_law_1002 rfl 1 rfl ?_
      refine x_aload_n C dL_law_1003 rfl 0 rfl ?_
      refine x_iload C dL_law_1004 4 rfl ?_
      refine x_iconst C (nI 1) dL_law_1006 (by decide +kernel) ?_
      refine xn_iadd C dL_law_1007 ?_
      refine x_sld C hX hbl hbA (j := 3 * t9 + 1) (by omega) (by omega) dL_law_1008 ?_
      refine x_if_eq C 1016 dL_law_1009 (by decide) (fun h_11 => ?_) (fun h_11 => ?_)
      ·
        refine x_iconst C (nI 0) dL_law_1016 (by decide +kernel) ?_
        refine x_aload_n C dL_law_1017 rfl 0 rfl ?_
        refine x_iload C dL_law_1018 4 rfl ?_
        refine x_iconst C (nI 2) dL_law_1020 (by decide +kernel) ?_
        refine xn_iadd C dL_law_1021 ?_
        refine x_sld C hX hbl hbA (j := 3 * t9 + 2) (by omega) (by omega) dL_law_1022 ?_
        refine x_if_eq C 1030 dL_law_1023 (by decide) (fun h_12 => ?_) (fun h_12 => ?_)
        ·
          exact absurd h_12 hb2
        ·
          refine x_iconst C (nI 1) dL_law_1026 (by decide +kernel) ?_
          refine x_goto C 1031 dL_law_1027 (by decide) ?_
          refine x_calli (x_runV C hK hNW (c_longest01 l D tys cI cJ hI hJ x qw qv qt ri qd qc ql wa wo nw bw cw pa po np bp cp ti ce cf ven vpn fe ff (by first | omega | assumption) (by first | omega | assumption)) (cwV 2 C.2.2.2.2 gL_law_X4_longestFloat rfl rfl rfl (by decide +kernel) ⟨by decide, by decide⟩) [0, 1, 2, 3, 4, 5, 6, 7, 13, 14, 15] rfl (by decide) 0 4 rfl rfl rfl (st := []) rfl rfl (Nat.le_of_ble_eq_true rfl) dL_law_1031 ⟨by first | decide | omega | exact (show _ ≤ 719372 by omega), by first | decide | omega | exact (show _ ≤ 6937989 by omega)⟩) hA [0, 1, 2, 3, 4, 5, 6, 7, 13, 14, 15] rfl [8, 9, 10, 11, 12, 16, 17, 18, 19, 20, 21, 22, 23, 24, 25, 26, 27, 28, 29] [(qd, OB 1 [.ref dr, .ref dk, .ref ds, .ref dt, .int (nI co), .int (nI dn)]), (dr, AJ cJ 40 fr), (dk, AJ cJ 40 fk), (ds, AI cI 40 fs), (dt, AI cI 40 ft), (ql, OB 2 [.ref le, .ref lp, .int vle, .int vlt]), (le, AJ cJ 80 fle), (lp, AJ cJ 80 flp), (yo, OB 5 [.int thr, .int ri, .ref yt, .ref ys, .ref yf, .ref yc, .int (nI co), .int (nI dn), .ref yd]), (yt, AI cI 10 ti), (ys, AI cI 2 (sz2 nw np)), (yf, AR cA 2 (gr2 g0 g1)), (g0, AI cI 40 bw), (g1, AI cI 40 bp), (yc, AR cA 2 (gr2 k0 k1)), (k0, AI cI 40 cw), (k1, AI cI 40 cp), (yd, AJ cJ 40 fr), (out, AJ cJ 1 fo)] rfl (by decide) (by decide) [19, 20, 21, 22, 23, 24, 25, 26, 0, 1, 2, 3, 4, 27, 28, 29, 5, 6, 7, 8, 9, 10, 11, 12, 13, 14, 15, 16, 17, 18] (by decide) (wf := (fun (u : Nat) => [(x, OB 4 [.ref qw, .ref qv, .ref qt, .int ri, .ref qd, .ref qc, .ref ql]), (qw, OB 3 [.ref wa, .ref wo, .int (nI nw)]), (wa, AI cI 40 bw), (wo, AI cI 40 cw), (qv, OB 3 [.ref pa, .ref po, .int (nI np)]), (pa, AI cI 40 bp), (po, AI cI 40 cp), (qt, AI cI 10 ti), (qd, OB 1 [.ref dr, .ref dk, .ref ds, .ref dt, .int (nI co), .int (nI dn)]), (dr, AJ cJ 40 fr), (dk, AJ cJ 40 fk), (ds, AI cI 40 fs), (dt, AI cI 40 ft), (qc, OB 0 [.ref ce, .ref cf, .int (nI nw), .int (nI np)]), (ce, AJ cJ 40 (wvF ri ti bp bw nw fe np)), (cf, AI cI 41 (cfT (fun x0 y0 => hbit ((wvF ri ti bp bw nw fe np) x0) (nI y0) == false) nw (flF ff 0 41) np)), (ql, OB 2 [.ref le, .ref lp, .int vle, .int vlt]), (le, AJ cJ 80 fle), (lp, AJ cJ 80 flp), (yo, OB 5 [.int thr, .int ri, .ref yt, .ref ys, .ref yf, .ref yc, .int (nI co), .int (nI dn), .ref yd]), (yt, AI cI 10 ti), (ys, AI cI 2 (sz2 nw np)), (yf, AR cA 2 (gr2 g0 g1)), (g0, AI cI 40 bw), (g1, AI cI 40 bp), (yc, AR cA 2 (gr2 k0 k1)), (k0, AI cI 40 cw), (k1, AI cI 40 cp), (yd, AJ cJ 40 fr), (out, AJ cJ 1 fo)])) (fun _ => rfl) (fun r_14 u h_15 => ?_)
          obtain ⟨Lm_13, rfl⟩ : ∃ z, z = u := ⟨_, rfl⟩
          try dsimp only at h_15 ⊢
          refine x_widen (40 + 90 * t9) (1000 + 300 * t9) (by first | decide | omega) (by first | decide | omega) ?_
          obtain ⟨rfl, h_15⟩ := h_15
          have hLm : Lm_13 = lgT (fun x0 y0 => hbit ((wvF ri ti bp bw nw (fun _ => 0) np) x0) (nI y0) == false) nw np := lf_eq (by omega) (by omega) (fun x hx y hy => by show (hbit ((wvF ri ti bp bw nw fe np) x) (nI y) == false) = (hbit ((wvF ri ti bp bw nw (fun _ => 0) np) x) (nI y) == false); rw [wv_eq ri ti bp bw nw np fe hx]) h_15
          subst hLm
          refine x_aload_n C dL_law_1034 rfl 2 rfl ?_
          refine x_aload_n C dL_law_1035 rfl 0 rfl ?_
          refine x_iload C dL_law_1036 4 rfl ?_
          refine x_iconst C (nI 1) dL_law_1038 (by decide +kernel) ?_
          refine xn_iadd C dL_law_1039 ?_
          refine x_sld C hX hbl hbA (j := 3 * t9 + 1) (by omega) (by omega) dL_law_1040 ?_
          refine x_if_eq C 1048 dL_law_1041 (by decide) (fun h_16 => ?_) (fun h_16 => ?_)
          ·
            refine x_iconst C (nI 0) dL_law_1048 (by decide +kernel) ?_
            refine x_aload_n C dL_law_1049 rfl 0 rfl ?_
            refine x_iload C dL_law_1050 4 rfl ?_
            refine x_iconst C (nI 2) dL_law_1052 (by decide +kernel) ?_
            refine xn_iadd C dL_law_1053 ?_
            refine x_sld C hX hbl hbA (j := 3 * t9 + 2) (by omega) (by omega) dL_law_1054 ?_
            refine x_if_eq C 1062 dL_law_1055 (by decide) (fun h_17 => ?_) (fun h_17 => ?_)
            ·
              exact absurd h_17 hb2
            ·
              refine x_iconst C (nI 1) dL_law_1058 (by decide +kernel) ?_
              refine x_goto C 1063 dL_law_1059 (by decide) ?_
              refine x_calli (x_runV C hK hNW (c_m_longest01 l D tys cI cJ cA hI hJ hR yo thr ri yt ys yf yc co dn yd nw np ti g0 g1 bw bp (by first | omega | assumption) (by first | omega | assumption) (by first | omega | assumption) (by first | omega | assumption)) (cwV 2 C.2.2.2.2 gL_law_X5_longestFloat rfl rfl rfl (by decide +kernel) ⟨by decide, by decide⟩) [19, 21, 20, 22, 23, 24] rfl (by decide) 19 5 rfl rfl rfl (st := [.int (nI (lgT (fun x0 y0 => hbit ((wvF ri ti bp bw nw (fun _ => 0) np) x0) (nI y0) == false) nw np))]) rfl rfl (Nat.le_of_ble_eq_true rfl) dL_law_1063 ⟨by first | decide | omega | exact (show _ ≤ 719372 by omega), by first | decide | omega | exact (show _ ≤ 6937989 by omega)⟩) hA [19, 21, 20, 22, 23, 24] rfl [0, 1, 2, 3, 4, 5, 6, 7, 8, 9, 10, 11, 12, 13, 14, 15, 16, 17, 18, 25, 26, 27, 28, 29] [(x, OB 4 [.ref qw, .ref qv, .ref qt, .int ri, .ref qd, .ref qc, .ref ql]), (qw, OB 3 [.ref wa, .ref wo, .int (nI nw)]), (wa, AI cI 40 bw), (wo, AI cI 40 cw), (qv, OB 3 [.ref pa, .ref po, .int (nI np)]), (pa, AI cI 40 bp), (po, AI cI 40 cp), (qt, AI cI 10 ti), (qd, OB 1 [.ref dr, .ref dk, .ref ds, .ref dt, .int (nI co), .int (nI dn)]), (dr, AJ cJ 40 fr), (dk, AJ cJ 40 fk), (ds, AI cI 40 fs), (dt, AI cI 40 ft), (qc, OB 0 [.ref ce, .ref cf, .int (nI nw), .int (nI np)]), (ce, AJ cJ 40 (wvF ri ti bp bw nw fe np)), (cf, AI cI 41 (cfT (fun x0 y0 => hbit ((wvF ri ti bp bw nw fe np) x0) (nI y0) == false) nw (flF ff 0 41) np)), (ql, OB 2 [.ref le, .ref lp, .int vle, .int vlt]), (le, AJ cJ 80 fle), (lp, AJ cJ 80 flp), (yc, AR cA 2 (gr2 k0 k1)), (k0, AI cI 40 cw), (k1, AI cI 40 cp), (yd, AJ cJ 40 fr), (out, AJ cJ 1 fo)] rfl (by decide) (by decide) [0, 1, 2, 3, 4, 5, 6, 7, 8, 9, 10, 11, 12, 13, 14, 15, 16, 17, 18, 24, 26, 25, 27, 28, 29, 19, 20, 21, 22, 23] (by decide) (wf := (fun (u : Unit) => [(x, OB 4 [.ref qw, .ref qv, .ref qt, .int ri, .ref qd, .ref qc, .ref ql]), (qw, OB 3 [.ref wa, .ref wo, .int (nI nw)]), (wa, AI cI 40 bw), (wo, AI cI 40 cw), (qv, OB 3 [.ref pa, .ref po, .int (nI np)]), (pa, AI cI 40 bp), (po, AI cI 40 cp), (qt, AI cI 10 ti), (qd, OB 1 [.ref dr, .ref dk, .ref ds, .ref dt, .int (nI co), .int (nI dn)]), (dr, AJ cJ 40 fr), (dk, AJ cJ 40 fk), (ds, AI cI 40 fs), (dt, AI cI 40 ft), (qc, OB 0 [.ref ce, .ref cf, .int (nI nw), .int (nI np)]), (ce, AJ cJ 40 (wvF ri ti bp bw nw fe np)), (cf, AI cI 41 (cfT (fun x0 y0 => hbit ((wvF ri ti bp bw nw fe np) x0) (nI y0) == false) nw (flF ff 0 41) np)), (ql, OB 2 [.ref le, .ref lp, .int vle, .int vlt]), (le, AJ cJ 80 fle), (lp, AJ cJ 80 flp), (yo, OB 5 [.int (nI 0), .int ri, .ref yt, .ref ys, .ref yf, .ref yc, .int (nI co), .int (nI dn), .ref yd]), (yt, AI cI 10 ti), (ys, AI cI 2 (sz2 nw np)), (yf, AR cA 2 (gr2 g0 g1)), (g0, AI cI 40 bw), (g1, AI cI 40 bp), (yc, AR cA 2 (gr2 k0 k1)), (k0, AI cI 40 cw), (k1, AI cI 40 cp), (yd, AJ cJ 40 fr), (out, AJ cJ 1 fo)])) (fun _ => rfl) (fun r_18 u h_19 => ?_)
              refine x_widen ((40 + 90 * t9) + 1) ((1000 + 300 * t9) + 40) (by first | decide | omega) (by first | decide | omega) ?_
              subst h_19
              refine xn_icmp_eq C 1590 (by omega) (by omega) dL_law_1066 (by decide) (fun h_20 => ?_) (fun h_20 => ?_)
              ·
                refine xn_iinc C ((3 * t9) + 3) [(4, .int (nI ((3 * t9) + 3))), (0, .ref b0), (1, .ref x), (2, .ref yo), (3, .ref out)] dL_law_1590 4 rfl (by rw [show Int32.ofInt 3 = nI 3 from by decide +kernel]; exact nI_add _ _) (by decide) rfl ?_
                refine x_goto C 23 dL_law_1593 (by decide) ?_
                refine x_lv [(0, .ref b0), (1, .ref x), (2, .ref yo), (3, .ref out), (4, .int (nI (3 * (t9 + 1))))] [1, 2, 3, 4, 0] (by rw [show 3 * (t9 + 1) = (3 * t9) + 3 from by first | rfl | omega]; rfl) ?_
                refine x_widen (40 + 90 * (t9 + 1)) (1000 + 300 * (t9 + 1)) (by first | decide | omega) (by first | decide | omega) ?_
                exact IH (nI 0) ri nw bw cw np bp cp ti co dn fr fk fs ft (nI nw) (nI np) (wvF ri ti bp bw nw fe np) (cfT (fun x0 y0 => hbit ((wvF ri ti bp bw nw fe np) x0) (nI y0) == false) nw (flF ff 0 41) np) vle vlt fle flp fo (by first | assumption | omega) (by first | assumption | omega) (by first | assumption | omega) (by first | assumption | omega) (by first | assumption | omega) (by first | assumption) (by first | assumption) (by first | assumption)
              ·
                exact absurd (rfl) h_20
          ·
            exact absurd hb h_16
      ·
        exact absurd hb h_11
  ·
    by_cases hb2 : xs (3 * t9 + 2) = 0
    ·
      have hb1 := lgT_le (b := (fun x0 y0 => hbit ((wvF ri ti bp bw nw (fun _ => 0) np) y0) (nI x0) == false)) (n := np) (N := 40) (by omega) nw
      refine x_aload_n C dL_law_1002 rfl 1 rfl ?_
      refine x_aload_n C dL_law_1003 rfl 0 rfl ?_
      refine x_iload C dL_law_1004 4 rfl ?_
      refine x_iconst C (nI 1) dL_law_1006 (by decide +kernel) ?_
      refine xn_iadd C dL_law_1007 ?_
      refine x_sld C hX hbl hbA (j := 3 * t9 + 1) (by omega) (by omega) dL_law_1008 ?_
      refine x_if_eq C 1016 dL_law_1009 (by decide) (fun h_21 => ?_) (fun h_21 => ?_)
      ·
        exact absurd h_21 hb
      ·
        refine x_iconst C (nI 1) dL_law_1012 (by decide +kernel) ?_
        refine x_goto C 1017 dL_law_1013 (by decide) ?_
        refine x_aload_n C dL_law_1017 rfl 0 rfl ?_
        refine x_iload C dL_law_1018 4 rfl ?_
        refine x_iconst C (nI 2) dL_law_1020 (by decide +kernel) ?_
        refine xn_iadd C dL_law_1021 ?_
        refine x_sld C hX hbl hbA (j := 3 * t9 + 2) (by omega) (by omega) dL_law_1022 ?_
        refine x_if_eq C 1030 dL_law_1023 (by decide) (fun h_22 => ?_) (fun h_22 => ?_)
        ·
          refine x_iconst C (nI 0) dL_law_1030 (by decide +kernel) ?_
          refine x_calli (x_runV C hK hNW (c_longest10 l D tys cI cJ hI hJ x qw qv qt ri qd qc ql wa wo nw bw cw pa po np bp cp ti ce cf ven vpn fe ff (by first | omega | assumption) (by first | omega | assumption)) (cwV 2 C.2.2.2.2 gL_law_X4_longestFloat rfl rfl rfl (by decide +kernel) ⟨by decide, by decide⟩) [0, 1, 2, 3, 4, 5, 6, 7, 13, 14, 15] rfl (by decide) 0 4 rfl rfl rfl (st := []) rfl rfl (Nat.le_of_ble_eq_true rfl) dL_law_1031 ⟨by first | decide | omega | exact (show _ ≤ 719372 by omega), by first | decide | omega | exact (show _ ≤ 6937989 by omega)⟩) hA [0, 1, 2, 3, 4, 5, 6, 7, 13, 14, 15] rfl [8, 9, 10, 11, 12, 16, 17, 18, 19, 20, 21, 22, 23, 24, 25, 26, 27, 28, 29] [(qd, OB 1 [.ref dr, .ref dk, .ref ds, .ref dt, .int (nI co), .int (nI dn)]), (dr, AJ cJ 40 fr), (dk, AJ cJ 40 fk), (ds, AI cI 40 fs), (dt, AI cI 40 ft), (ql, OB 2 [.ref le, .ref lp, .int vle, .int vlt]), (le, AJ cJ 80 fle), (lp, AJ cJ 80 flp), (yo, OB 5 [.int thr, .int ri, .ref yt, .ref ys, .ref yf, .ref yc, .int (nI co), .int (nI dn), .ref yd]), (yt, AI cI 10 ti), (ys, AI cI 2 (sz2 nw np)), (yf, AR cA 2 (gr2 g0 g1)), (g0, AI cI 40 bw), (g1, AI cI 40 bp), (yc, AR cA 2 (gr2 k0 k1)), (k0, AI cI 40 cw), (k1, AI cI 40 cp), (yd, AJ cJ 40 fr), (out, AJ cJ 1 fo)] rfl (by decide) (by decide) [19, 20, 21, 22, 23, 24, 25, 26, 0, 1, 2, 3, 4, 27, 28, 29, 5, 6, 7, 8, 9, 10, 11, 12, 13, 14, 15, 16, 17, 18] (by decide) (wf := (fun (u : Nat) => [(x, OB 4 [.ref qw, .ref qv, .ref qt, .int ri, .ref qd, .ref qc, .ref ql]), (qw, OB 3 [.ref wa, .ref wo, .int (nI nw)]), (wa, AI cI 40 bw), (wo, AI cI 40 cw), (qv, OB 3 [.ref pa, .ref po, .int (nI np)]), (pa, AI cI 40 bp), (po, AI cI 40 cp), (qt, AI cI 10 ti), (qd, OB 1 [.ref dr, .ref dk, .ref ds, .ref dt, .int (nI co), .int (nI dn)]), (dr, AJ cJ 40 fr), (dk, AJ cJ 40 fk), (ds, AI cI 40 fs), (dt, AI cI 40 ft), (qc, OB 0 [.ref ce, .ref cf, .int (nI nw), .int (nI np)]), (ce, AJ cJ 40 (wvF ri ti bp bw nw fe np)), (cf, AI cI 41 (cfT (fun x0 y0 => hbit ((wvF ri ti bp bw nw fe np) y0) (nI x0) == false) np (flF ff 0 41) nw)), (ql, OB 2 [.ref le, .ref lp, .int vle, .int vlt]), (le, AJ cJ 80 fle), (lp, AJ cJ 80 flp), (yo, OB 5 [.int thr, .int ri, .ref yt, .ref ys, .ref yf, .ref yc, .int (nI co), .int (nI dn), .ref yd]), (yt, AI cI 10 ti), (ys, AI cI 2 (sz2 nw np)), (yf, AR cA 2 (gr2 g0 g1)), (g0, AI cI 40 bw), (g1, AI cI 40 bp), (yc, AR cA 2 (gr2 k0 k1)), (k0, AI cI 40 cw), (k1, AI cI 40 cp), (yd, AJ cJ 40 fr), (out, AJ cJ 1 fo)])) (fun _ => rfl) (fun r_24 u h_25 => ?_)
          obtain ⟨Lm_23, rfl⟩ : ∃ z, z = u := ⟨_, rfl⟩
          try dsimp only at h_25 ⊢
          refine x_widen (40 + 90 * t9) (1000 + 300 * t9) (by first | decide | omega) (by first | decide | omega) ?_
          obtain ⟨rfl, h_25⟩ := h_25
          have hLm : Lm_23 = lgT (fun x0 y0 => hbit ((wvF ri ti bp bw nw (fun _ => 0) np) y0) (nI x0) == false) np nw := lf_eq (by omega) (by omega) (fun x hx y hy => by show (hbit ((wvF ri ti bp bw nw fe np) y) (nI x) == false) = (hbit ((wvF ri ti bp bw nw (fun _ => 0) np) y) (nI x) == false); rw [wv_eq ri ti bp bw nw np fe hy]) h_25
          subst hLm
          refine x_aload_n C dL_law_1034 rfl 2 rfl ?_
          refine x_aload_n C dL_law_1035 rfl 0 rfl ?_
          refine x_iload C dL_law_1036 4 rfl ?_
          refine x_iconst C (nI 1) dL_law_1038 (by decide +kernel) ?_
          refine xn_iadd C dL_law_1039 ?_
          refine x_sld C hX hbl hbA (j := 3 * t9 + 1) (by omega) (by omega) dL_law_1040 ?_
          refine x_if_eq C 1048 dL_law_1041 (by decide) (fun h_26 => ?_) (fun h_26 => ?_)
          ·
            exact absurd h_26 hb
          ·
            refine x_iconst C (nI 1) dL_law_1044 (by decide +kernel) ?_
            refine x_goto C 1049 dL_law_1045 (by decide) ?_
            refine x_aload_n C dL_law_1049 rfl 0 rfl ?_
            refine x_iload C dL_law_1050 4 rfl ?_
            refine x_iconst C (nI 2) dL_law_1052 (by decide +kernel) ?_
            refine xn_iadd C dL_law_1053 ?_
            refine x_sld C hX hbl hbA (j := 3 * t9 + 2) (by omega) (by omega) dL_law_1054 ?_
            refine x_if_eq C 1062 dL_law_1055 (by decide) (fun h_27 => ?_) (fun h_27 => ?_)
            ·
              refine x_iconst C (nI 0) dL_law_1062 (by decide +kernel) ?_
              refine x_calli (x_runV C hK hNW (c_m_longest10 l D tys cI cJ cA hI hJ hR yo thr ri yt ys yf yc co dn yd nw np ti g0 g1 bw bp (by first | omega | assumption) (by first | omega | assumption) (by first | omega | assumption) (by first | omega | assumption)) (cwV 2 C.2.2.2.2 gL_law_X5_longestFloat rfl rfl rfl (by decide +kernel) ⟨by decide, by decide⟩) [19, 21, 20, 22, 23, 24] rfl (by decide) 19 5 rfl rfl rfl (st := [.int (nI (lgT (fun x0 y0 => hbit ((wvF ri ti bp bw nw (fun _ => 0) np) y0) (nI x0) == false) np nw))]) rfl rfl (Nat.le_of_ble_eq_true rfl) dL_law_1063 ⟨by first | decide | omega | exact (show _ ≤ 719372 by omega), by first | decide | omega | exact (show _ ≤ 6937989 by omega)⟩) hA [19, 21, 20, 22, 23, 24] rfl [0, 1, 2, 3, 4, 5, 6, 7, 8, 9, 10, 11, 12, 13, 14, 15, 16, 17, 18, 25, 26, 27, 28, 29] [(x, OB 4 [.ref qw, .ref qv, .ref qt, .int ri, .ref qd, .ref qc, .ref ql]), (qw, OB 3 [.ref wa, .ref wo, .int (nI nw)]), (wa, AI cI 40 bw), (wo, AI cI 40 cw), (qv, OB 3 [.ref pa, .ref po, .int (nI np)]), (pa, AI cI 40 bp), (po, AI cI 40 cp), (qt, AI cI 10 ti), (qd, OB 1 [.ref dr, .ref dk, .ref ds, .ref dt, .int (nI co), .int (nI dn)]), (dr, AJ cJ 40 fr), (dk, AJ cJ 40 fk), (ds, AI cI 40 fs), (dt, AI cI 40 ft), (qc, OB 0 [.ref ce, .ref cf, .int (nI nw), .int (nI np)]), (ce, AJ cJ 40 (wvF ri ti bp bw nw fe np)), (cf, AI cI 41 (cfT (fun x0 y0 => hbit ((wvF ri ti bp bw nw fe np) y0) (nI x0) == false) np (flF ff 0 41) nw)), (ql, OB 2 [.ref le, .ref lp, .int vle, .int vlt]), (le, AJ cJ 80 fle), (lp, AJ cJ 80 flp), (yc, AR cA 2 (gr2 k0 k1)), (k0, AI cI 40 cw), (k1, AI cI 40 cp), (yd, AJ cJ 40 fr), (out, AJ cJ 1 fo)] rfl (by decide) (by decide) [0, 1, 2, 3, 4, 5, 6, 7, 8, 9, 10, 11, 12, 13, 14, 15, 16, 17, 18, 24, 26, 25, 27, 28, 29, 19, 20, 21, 22, 23] (by decide) (wf := (fun (u : Unit) => [(x, OB 4 [.ref qw, .ref qv, .ref qt, .int ri, .ref qd, .ref qc, .ref ql]), (qw, OB 3 [.ref wa, .ref wo, .int (nI nw)]), (wa, AI cI 40 bw), (wo, AI cI 40 cw), (qv, OB 3 [.ref pa, .ref po, .int (nI np)]), (pa, AI cI 40 bp), (po, AI cI 40 cp), (qt, AI cI 10 ti), (qd, OB 1 [.ref dr, .ref dk, .ref ds, .ref dt, .int (nI co), .int (nI dn)]), (dr, AJ cJ 40 fr), (dk, AJ cJ 40 fk), (ds, AI cI 40 fs), (dt, AI cI 40 ft), (qc, OB 0 [.ref ce, .ref cf, .int (nI nw), .int (nI np)]), (ce, AJ cJ 40 (wvF ri ti bp bw nw fe np)), (cf, AI cI 41 (cfT (fun x0 y0 => hbit ((wvF ri ti bp bw nw fe np) y0) (nI x0) == false) np (flF ff 0 41) nw)), (ql, OB 2 [.ref le, .ref lp, .int vle, .int vlt]), (le, AJ cJ 80 fle), (lp, AJ cJ 80 flp), (yo, OB 5 [.int (nI 0), .int ri, .ref yt, .ref ys, .ref yf, .ref yc, .int (nI co), .int (nI dn), .ref yd]), (yt, AI cI 10 ti), (ys, AI cI 2 (sz2 nw np)), (yf, AR cA 2 (gr2 g0 g1)), (g0, AI cI 40 bw), (g1, AI cI 40 bp), (yc, AR cA 2 (gr2 k0 k1)), (k0, AI cI 40 cw), (k1, AI cI 40 cp), (yd, AJ cJ 40 fr), (out, AJ cJ 1 fo)])) (fun _ => rfl) (fun r_28 u h_29 => ?_)
              refine x_widen ((40 + 90 * t9) + 1) ((1000 + 300 * t9) + 40) (by first | decide | omega) (by first | decide | omega) ?_
              subst h_29
              refine xn_icmp_eq C 1590 (by omega) (by omega) dL_law_1066 (by decide) (fun h_30 => ?_) (fun h_30 => ?_)
              ·
                refine xn_iinc C ((3 * t9) + 3) [(4, .int (nI ((3 * t9) + 3))), (0, .ref b0), (1, .ref x), (2, .ref yo), (3, .ref out)] dL_law_1590 4 rfl (by rw [show Int32.ofInt 3 = nI 3 from by decide +kernel]; exact nI_add _ _) (by decide) rfl ?_
                refine x_goto C 23 dL_law_1593 (by decide) ?_
                refine x_lv [(0, .ref b0), (1, .ref x), (2, .ref yo), (3, .ref out), (4, .int (nI (3 * (t9 + 1))))] [1, 2, 3, 4, 0] (by rw [show 3 * (t9 + 1) = (3 * t9) + 3 from by first | rfl | omega]; rfl) ?_
                refine x_widen (40 + 90 * (t9 + 1)) (1000 + 300 * (t9 + 1)) (by first | decide | omega) (by first | decide | omega) ?_
                exact IH (nI 0) ri nw bw cw np bp cp ti co dn fr fk fs ft (nI nw) (nI np) (wvF ri ti bp bw nw fe np) (cfT (fun x0 y0 => hbit ((wvF ri ti bp bw nw fe np) y0) (nI x0) == false) np (flF ff 0 41) nw) vle vlt fle flp fo (by first | assumption | omega) (by first | assumption | omega) (by first | assumption | omega) (by first | assumption | omega) (by first | assumption | omega) (by first | assumption) (by first | assumption) (by first | assumption)
              ·
                exact absurd (rfl) h_30
            ·
              exact absurd hb2 h_27
        ·
          exact absurd hb2 h_22
    ·
      have hb1 := lgT_le (b := (fun x0 y0 => hbit ((wvF ri ti bp bw nw (fun _ => 0) np) y0) (nI x0) == true)) (n := np) (N := 40) (by omega) nw
      refine x_aload_n C dL_law_1002 rfl 1 rfl ?_
      refine x_aload_n C dL_law_1003 rfl 0 rfl ?_
      refine x_iload C dL_law_1004 4 rfl ?_
      refine x_iconst C (nI 1) dL_law_1006 (by decide +kernel) ?_
      refine xn_iadd C dL_law_1007 ?_
      refine x_sld C hX hbl hbA (j := 3 * t9 + 1) (by omega) (by omega) dL_law_1008 ?_
      refine x_if_eq C 1016 dL_law_1009 (by decide) (fun h_31 => ?_) (fun h_31 => ?_)
      ·
        exact absurd h_31 hb
      ·
        refine x_iconst C (nI 1) dL_law_1012 (by decide +kernel) ?_
        refine x_goto C 1017 dL_law_1013 (by decide) ?_
        refine x_aload_n C dL_law_1017 rfl 0 rfl ?_
        refine x_iload C dL_law_1018 4 rfl ?_
        refine x_iconst C (nI 2) dL_law_1020 (by decide +kernel) ?_
        refine xn_iadd C dL_law_1021 ?_
        refine x_sld C hX hbl hbA (j := 3 * t9 + 2) (by omega) (by omega) dL_law_1022 ?_
        refine x_if_eq C 1030 dL_law_1023 (by decide) (fun h_32 => ?_) (fun h_32 => ?_)
        ·
          exact absurd h_32 hb2
        ·
          refine x_iconst C (nI 1) dL_law_1026 (by decide +kernel) ?_
          refine x_goto C 1031 dL_law_1027 (by decide) ?_
          refine x_calli (x_runV C hK hNW (c_longest11 l D tys cI cJ hI hJ x qw qv qt ri qd qc ql wa wo nw bw cw pa po np bp cp ti ce cf ven vpn fe ff (by first | omega | assumption) (by first | omega | assumption)) (cwV 2 C.2.2.2.2 gL_law_X4_longestFloat rfl rfl rfl (by decide +kernel) ⟨by decide, by decide⟩) [0, 1, 2, 3, 4, 5, 6, 7, 13, 14, 15] rfl (by decide) 0 4 rfl rfl rfl (st := []) rfl rfl (Nat.le_of_ble_eq_true rfl) dL_law_1031 ⟨by first | decide | omega | exact (show _ ≤ 719372 by omega), by first | decide | omega | exact (show _ ≤ 6937989 by omega)⟩) hA [0, 1, 2, 3, 4, 5, 6, 7, 13, 14, 15] rfl [8, 9, 10, 11, 12, 16, 17, 18, 19, 20, 21, 22, 23, 24, 25, 26, 27, 28, 29] [(qd, OB 1 [.ref dr, .ref dk, .ref ds, .ref dt, .int (nI co), .int (nI dn)]), (dr, AJ cJ 40 fr), (dk, AJ cJ 40 fk), (ds, AI cI 40 fs), (dt, AI cI 40 ft), (ql, OB 2 [.ref le, .ref lp, .int vle, .int vlt]), (le, AJ cJ 80 fle), (lp, AJ cJ 80 flp), (yo, OB 5 [.int thr, .int ri, .ref yt, .ref ys, .ref yf, .ref yc, .int (nI co), .int (nI dn), .ref yd]), (yt, AI cI 10 ti), (ys, AI cI 2 (sz2 nw np)), (yf, AR cA 2 (gr2 g0 g1)), (g0, AI cI 40 bw), (g1, AI cI 40 bp), (yc, AR cA 2 (gr2 k0 k1)), (k0, AI cI 40 cw), (k1, AI cI 40 cp), (yd, AJ cJ 40 fr), (out, AJ cJ 1 fo)] rfl (by decide) (by decide) [19, 20, 21, 22, 23, 24, 25, 26, 0, 1, 2, 3, 4, 27, 28, 29, 5, 6, 7, 8, 9, 10, 11, 12, 13, 14, 15, 16, 17, 18] (by decide) (wf := (fun (u : Nat) => [(x, OB 4 [.ref qw, .ref qv, .ref qt, .int ri, .ref qd, .ref qc, .ref ql]), (qw, OB 3 [.ref wa, .ref wo, .int (nI nw)]), (wa, AI cI 40 bw), (wo, AI cI 40 cw), (qv, OB 3 [.ref pa, .ref po, .int (nI np)]), (pa, AI cI 40 bp), (po, AI cI 40 cp), (qt, AI cI 10 ti), (qd, OB 1 [.ref dr, .ref dk, .ref ds, .ref dt, .int (nI co), .int (nI dn)]), (dr, AJ cJ 40 fr), (dk, AJ cJ 40 fk), (ds, AI cI 40 fs), (dt, AI cI 40 ft), (qc, OB 0 [.ref ce, .ref cf, .int (nI nw), .int (nI np)]), (ce, AJ cJ 40 (wvF ri ti bp bw nw fe np)), (cf, AI cI 41 (cfT (fun x0 y0 => hbit ((wvF ri ti bp bw nw fe np) y0) (nI x0) == true) np (flF ff 0 41) nw)), (ql, OB 2 [.ref le, .ref lp, .int vle, .int vlt]), (le, AJ cJ 80 fle), (lp, AJ cJ 80 flp), (yo, OB 5 [.int thr, .int ri, .ref yt, .ref ys, .ref yf, .ref yc, .int (nI co), .int (nI dn), .ref yd]), (yt, AI cI 10 ti), (ys, AI cI 2 (sz2 nw np)), (yf, AR cA 2 (gr2 g0 g1)), (g0, AI cI 40 bw), (g1, AI cI 40 bp), (yc, AR cA 2 (gr2 k0 k1)), (k0, AI cI 40 cw), (k1, AI cI 40 cp), (yd, AJ cJ 40 fr), (out, AJ cJ 1 fo)])) (fun _ => rfl) (fun r_34 u h_35 => ?_)
          obtain ⟨Lm_33, rfl⟩ : ∃ z, z = u := ⟨_, rfl⟩
          try dsimp only at h_35 ⊢
          refine x_widen (40 + 90 * t9) (1000 + 300 * t9) (by first | decide | omega) (by first | decide | omega) ?_
          obtain ⟨rfl, h_35⟩ := h_35
          have hLm : Lm_33 = lgT (fun x0 y0 => hbit ((wvF ri ti bp bw nw (fun _ => 0) np) y0) (nI x0) == true) np nw := lf_eq (by omega) (by omega) (fun x hx y hy => by show (hbit ((wvF ri ti bp bw nw fe np) y) (nI x) == true) = (hbit ((wvF ri ti bp bw nw (fun _ => 0) np) y) (nI x) == true); rw [wv_eq ri ti bp bw nw np fe hy]) h_35
          subst hLm
          refine x_aload_n C dL_law_1034 rfl 2 rfl ?_
          refine x_aload_n C dL_law_1035 rfl 0 rfl ?_
          refine x_iload C dL_law_1036 4 rfl ?_
          refine x_iconst C (nI 1) dL_law_1038 (by decide +kernel) ?_
          refine xn_iadd C dL_law_1039 ?_
          refine x_sld C hX hbl hbA (j := 3 * t9 + 1) (by omega) (by omega) dL_law_1040 ?_
          refine x_if_eq C 1048 dL_law_1041 (by decide) (fun h_36 => ?_) (fun h_36 => ?_)
          ·
            exact absurd h_36 hb
          ·
            refine x_iconst C (nI 1) dL_law_1044 (by decide +kernel) ?_
            refine x_goto C 1049 dL_law_1045 (by decide) ?_
            refine x_aload_n C dL_law_1049 rfl 0 rfl ?_
            refine x_iload C dL_law_1050 4 rfl ?_
            refine x_iconst C (nI 2) dL_law_1052 (by decide +kernel) ?_
            refine xn_iadd C dL_law_1053 ?_
            refine x_sld C hX hbl hbA (j := 3 * t9 + 2) (by omega) (by omega) dL_law_1054 ?_
            refine x_if_eq C 1062 dL_law_1055 (by decide) (fun h_37 => ?_) (fun h_37 => ?_)
            ·
              exact absurd h_37 hb2
            ·
              refine x_iconst C (nI 1) dL_law_1058 (by decide +kernel) ?_
              refine x_goto C 1063 dL_law_1059 (by decide) ?_
              refine x_calli (x_runV C hK hNW (c_m_longest11 l D tys cI cJ cA hI hJ hR yo thr ri yt ys yf yc co dn yd nw np ti g0 g1 bw bp (by first | omega | assumption) (by first | omega | assumption) (by first | omega | assumption) (by first | omega | assumption)) (cwV 2 C.2.2.2.2 gL_law_X5_longestFloat rfl rfl rfl (by decide +kernel) ⟨by decide, by decide⟩) [19, 21, 20, 22, 23, 24] rfl (by decide) 19 5 rfl rfl rfl (st := [.int (nI (lgT (fun x0 y0 => hbit ((wvF ri ti bp bw nw (fun _ => 0) np) y0) (nI x0) == true) np nw))]) rfl rfl (Nat.le_of_ble_eq_true rfl) dL_law_1063 ⟨by first | decide | omega | exact (show _ ≤ 719372 by omega), by first | decide | omega | exact (show _ ≤ 6937989 by omega)⟩) hA [19, 21, 20, 22, 23, 24] rfl [0, 1, 2, 3, 4, 5, 6, 7, 8, 9, 10, 11, 12, 13, 14, 15, 16, 17, 18, 25, 26, 27, 28, 29] [(x, OB 4 [.ref qw, .ref qv, .ref qt, .int ri, .ref qd, .ref qc, .ref ql]), (qw, OB 3 [.ref wa, .ref wo, .int (nI nw)]), (wa, AI cI 40 bw), (wo, AI cI 40 cw), (qv, OB 3 [.ref pa, .ref po, .int (nI np)]), (pa, AI cI 40 bp), (po, AI cI 40 cp), (qt, AI cI 10 ti), (qd, OB 1 [.ref dr, .ref dk, .ref ds, .ref dt, .int (nI co), .int (nI dn)]), (dr, AJ cJ 40 fr), (dk, AJ cJ 40 fk), (ds, AI cI 40 fs), (dt, AI cI 40 ft), (qc, OB 0 [.ref ce, .ref cf, .int (nI nw), .int (nI np)]), (ce, AJ cJ 40 (wvF ri ti bp bw nw fe np)), (cf, AI cI 41 (cfT (fun x0 y0 => hbit ((wvF ri ti bp bw nw fe np) y0) (nI x0) == true) np (flF ff 0 41) nw)), (ql, OB 2 [.ref le, .ref lp, .int vle, .int vlt]), (le, AJ cJ 80 fle), (lp, AJ cJ 80 flp), (yc, AR cA 2 (gr2 k0 k1)), (k0, AI cI 40 cw), (k1, AI cI 40 cp), (yd, AJ cJ 40 fr), (out, AJ cJ 1 fo)] rfl (by decide) (by decide) [0, 1, 2, 3, 4, 5, 6, 7, 8, 9, 10, 11, 12, 13, 14, 15, 16, 17, 18, 24, 26, 25, 27, 28, 29, 19, 20, 21, 22, 23] (by decide) (wf := (fun (u : Unit) => [(x, OB 4 [.ref qw, .ref qv, .ref qt, .int ri, .ref qd, .ref qc, .ref ql]), (qw, OB 3 [.ref wa, .ref wo, .int (nI nw)]), (wa, AI cI 40 bw), (wo, AI cI 40 cw), (qv, OB 3 [.ref pa, .ref po, .int (nI np)]), (pa, AI cI 40 bp), (po, AI cI 40 cp), (qt, AI cI 10 ti), (qd, OB 1 [.ref dr, .ref dk, .ref ds, .ref dt, .int (nI co), .int (nI dn)]), (dr, AJ cJ 40 fr), (dk, AJ cJ 40 fk), (ds, AI cI 40 fs), (dt, AI cI 40 ft), (qc, OB 0 [.ref ce, .ref cf, .int (nI nw), .int (nI np)]), (ce, AJ cJ 40 (wvF ri ti bp bw nw fe np)), (cf, AI cI 41 (cfT (fun x0 y0 => hbit ((wvF ri ti bp bw nw fe np) y0) (nI x0) == true) np (flF ff 0 41) nw)), (ql, OB 2 [.ref le, .ref lp, .int vle, .int vlt]), (le, AJ cJ 80 fle), (lp, AJ cJ 80 flp), (yo, OB 5 [.int (nI 0), .int ri, .ref yt, .ref ys, .ref yf, .ref yc, .int (nI co), .int (nI dn), .ref yd]), (yt, AI cI 10 ti), (ys, AI cI 2 (sz2 nw np)), (yf, AR cA 2 (gr2 g0 g1)), (g0, AI cI 40 bw), (g1, AI cI 40 bp), (yc, AR cA 2 (gr2 k0 k1)), (k0, AI cI 40 cw), (k1, AI cI 40 cp), (yd, AJ cJ 40 fr), (out, AJ cJ 1 fo)])) (fun _ => rfl) (fun r_38 u h_39 => ?_)
              refine x_widen ((40 + 90 * t9) + 1) ((1000 + 300 * t9) + 40) (by first | decide | omega) (by first | decide | omega) ?_
              subst h_39
              refine xn_icmp_eq C 1590 (by omega) (by omega) dL_law_1066 (by decide) (fun h_40 => ?_) (fun h_40 => ?_)
              ·
                refine xn_iinc C ((3 * t9) + 3) [(4, .int (nI ((3 * t9) + 3))), (0, .ref b0), (1, .ref x), (2, .ref yo), (3, .ref out)] dL_law_1590 4 rfl (by rw [show Int32.ofInt 3 = nI 3 from by decide +kernel]; exact nI_add _ _) (by decide) rfl ?_
                refine x_goto C 23 dL_law_1593 (by decide) ?_
                refine x_lv [(0, .ref b0), (1, .ref x), (2, .ref yo), (3, .ref out), (4, .int (nI (3 * (t9 + 1))))] [1, 2, 3, 4, 0] (by rw [show 3 * (t9 + 1) = (3 * t9) + 3 from by first | rfl | omega]; rfl) ?_
                refine x_widen (40 + 90 * (t9 + 1)) (1000 + 300 * (t9 + 1)) (by first | decide | omega) (by first | decide | omega) ?_
                exact IH (nI 0) ri nw bw cw np bp cp ti co dn fr fk fs ft (nI nw) (nI np) (wvF ri ti bp bw nw fe np) (cfT (fun x0 y0 => hbit ((wvF ri ti bp bw nw fe np) y0) (nI x0) == true) np (flF ff 0 41) nw) vle vlt fle flp fo (by first | assumption | omega) (by first | assumption | omega) (by first | assumption | omega) (by first | assumption | omega) (by first | assumption | omega) (by first | assumption) (by first | assumption) (by first | assumption)
              ·
                exact absurd (rfl) h_40
